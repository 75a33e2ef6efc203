set_option maxRecDepth 100000
/-! WHAT THE RELATION RESTS ON -/
theorem eq37_sym {R R' : Nat → Int32} (h : eq37 R R') : eq37 R' R := fun i hi => (h i hi).symm
theorem eq37_trans {R R' R2 : Nat → Int32} (h : eq37 R R') (h2 : eq37 R' R2) : eq37 R R2 := fun i hi => (h i hi).trans (h2 i hi)
theorem eq37_refl (R : Nat → Int32) : eq37 R R := fun _ _ => rfl
section CG
variable {A B m m2 : Mm}
theorem cg_Cty (h : sim A B) (hT : Cty A) : Cty B := by
  have hA := hT.1
  have h9 := hA.1.2
  have h14 := hA.2.1.2
  have h6 := hA.2.2.1.2
  have h8 := hA.2.2.2.2
  refine ⟨sim_CtB h hA, fun s hs => ?_, fun e he => ?_, fun k hk => ?_, fun p hp => ?_⟩
  · rw [sim_nS h] at hs
    rw [h.1 6 (by unfold cwA; omega)]
    exact hT.2.1 s hs
  · rw [sim_nL h] at he
    rw [sim_nS h, h.1 (23 + e) (by unfold cwA; omega)]
    exact hT.2.2.1 e he
  · rw [sim_nM h] at hk
    rw [sim_nS h, h.1 (45 + k) (by unfold cwA; omega)]
    exact hT.2.2.2.1 k hk
  · rw [sim_nP h] at hp
    rw [sim_nS h, h.1 (61 + p) (by unfold cwA; omega)]
    exact hT.2.2.2.2 p hp
theorem cg_Nt (hM : nM B = nM A) (hS : nS B = nS A) (h6 : nM A ≤ 6) {R R' : Nat → Int32} (e : eq37 R R') (h : Nt A R) : Nt B R' := by
  unfold Nt
  rw [hM, hS]
  refine ⟨fun k hk => ?_, fun k hk => ?_, fun s hs => ?_, fun p hp => ?_, ?_, fun k h1 h2 => ?_⟩
  · rw [← e k (by omega)]; exact h.1 k hk
  · rw [← e (12 + k) (by omega)]; exact h.2.1 k hk
  · rw [← e (18 + s) (by omega)]; exact h.2.2.1 s hs
  · rw [← e (27 + p) (by omega)]; exact h.2.2.2.1 p hp
  · rw [← e 35 (by omega)]; exact h.2.2.2.2.1
  · rw [← e (6 + k) (by omega)]; exact h.2.2.2.2.2 k h1 h2
theorem cg_NtR (hM : nM B = nM A) (hP : nP B = nP A) (hS : nS B = nS A) (h6 : nM A ≤ 6) (h8 : nP A ≤ 8) {R R' : Nat → Int32} (e : eq37 R R') {N : Nat} (hm : ∀ a, N ≤ a → a ≤ N + 3 → m2 a = m a) (h : NtR A R m N) : NtR B R' m2 N := by
  unfold NtR
  rw [hM, hP, hS, hm N (by omega) (by omega), hm (N + 1) (by omega) (by omega), hm (N + 2) (by omega) (by omega), hm (N + 3) (by omega) (by omega)]
  refine ⟨by rw [← e 35 (by omega)]; exact h.1, by rw [← e 36 (by omega)]; exact h.2.1, ?_, ?_, fun k hk => ?_, fun k hk => ?_, fun s hs hs2 => ?_⟩
  · rw [h.2.2.1]; exact msk_cong (fun k hk => by rw [e (12 + k) (by omega)])
  · rw [h.2.2.2.1]; exact msk_cong (fun k hk => by rw [e (27 + k) (by omega)])
  · rw [← e k (by omega)]; exact h.2.2.2.2.1 k hk
  · rw [← e (6 + k) (by omega)]; exact h.2.2.2.2.2.1 k hk
  · rw [← e (18 + s) (by omega)]; exact h.2.2.2.2.2.2 s hs hs2
theorem cg_CtR (h : sim A B) (hA : CtB A) {C : Nat} (hm : ∀ a, C ≤ a → a ≤ C + 9 → m2 a = m a) (hC : CtR A m C) : CtR B m2 C := by
  have h9 := hA.1.2
  have h14 := hA.2.1.2
  have h6 := hA.2.2.1.2
  have h8 := hA.2.2.2.2
  unfold CtR
  rw [sim_nS h, sim_nL h, sim_nM h, sim_nP h, hm C (by omega) (by omega), hm (C + 1) (by omega) (by omega), hm (C + 2) (by omega) (by omega), hm (C + 3) (by omega) (by omega), hm (C + 4) (by omega) (by omega), hm (C + 5) (by omega) (by omega), hm (C + 6) (by omega) (by omega), hm (C + 7) (by omega) (by omega), hm (C + 8) (by omega) (by omega), hm (C + 9) (by omega) (by omega)]
  refine ⟨hC.1, fun s hs => ?_, fun s hs => ?_, fun e he => ?_, fun k hk => ?_, fun p hp => ?_⟩
  · rw [h.1 6 (by unfold cwA; omega)]; exact hC.2.1 s hs
  · rw [hC.2.2.1 s hs]; exact msk_cong (fun k hk => by rw [sim_Ln h hA])
  · rw [h.1 (23 + e) (by unfold cwA; omega)]; exact hC.2.2.2.1 e he
  · rw [h.1 (45 + k) (by unfold cwA; omega)]; exact hC.2.2.2.2.1 k hk
  · rw [h.1 (61 + p) (by unfold cwA; omega)]; exact hC.2.2.2.2.2 p hp
theorem cg_LwR (h : sim A B) (hL : LwOk A) {W : Nat} (hm : ∀ a, W ≤ a → a ≤ W + 1 → m2 a = m a) (hW : LwR A m W) : LwR B m2 W := by
  have := hL.2.1
  unfold LwR
  rw [sim_nW h, hm W (by omega) (by omega), hm (W + 1) (by omega) (by omega)]
  refine ⟨hW.1, fun k hk => ?_⟩
  rw [(sim_c0 h (k := k) (by omega)).1, (sim_c0 h (k := k) (by omega)).2]
  exact hW.2 k hk
theorem cg_BkOk (h1 : B 0 35 = A 0 35) (h2 : ∀ a, 392 ≤ a → a ≤ 400 → B a = A a) (hS : nS B = nS A) (h : BkOk A) : BkOk B := by
  have e : nB B = nB A := by unfold nB; rw [h1]
  have h9 := h.2.1
  unfold BkOk
  rw [e, hS, h1]
  refine ⟨h.1, h9, fun t ht => ?_, fun t u htu hu => ?_⟩
  · rw [h2 (392 + t) (by omega) (by omega)]; exact h.2.2.1 t ht
  · rw [h2 (392 + t) (by omega) (by omega), h2 (392 + u) (by omega) (by omega)]; exact h.2.2.2 t u htu hu
theorem cg_BkR (h1 : B 0 35 = A 0 35) (h2 : ∀ a, 392 ≤ a → a ≤ 400 → B a = A a) (hO : BkOk A) {K : Nat} (hm : ∀ a, K ≤ a → a ≤ K + 1 → m2 a = m a) (h : BkR A m K) : BkR B m2 K := by
  have e : nB B = nB A := by unfold nB; rw [h1]
  have h9 := hO.2.1
  unfold BkR
  rw [e, h1, hm K (by omega) (by omega), hm (K + 1) (by omega) (by omega)]
  refine ⟨h.1, fun s hs => ⟨fun t ht => ?_, fun z => ?_⟩⟩
  · rw [h2 (392 + t) (by omega) (by omega)]; exact (h.2 s hs).1 t ht
  · exact (h.2 s hs).2 (fun t ht => by rw [← h2 (392 + t) (by omega) (by omega)]; exact z t ht)
theorem cg_HsR (hM : nM B = nM A) (hP : nP B = nP A) (hS : nS B = nS A) (h6 : nM A ≤ 6) (h8 : nP A ≤ 8) {n : Nat} {R R' : Nat → Int32} (e : eq37 R R') {F F' : Nat → Nat → Int32} (eF : ∀ i, i < n → eq37 (F i) (F' i)) {h : Nat} (hm : ∀ a, h ≤ a → a ≤ h + 69 → m2 a = m a) (hH : HsR A n R F m h) : HsR B n R' F' m2 h := by
  have hn := hH.1
  refine ⟨hn, by rw [hm h (by omega) (by omega)]; exact hH.2.1, ⟨cg_NtR hM hP hS h6 h8 e (fun a h1 h2 => hm a (by omega) (by omega)) hH.2.2.1.1, cg_Nt hM hS h6 e hH.2.2.1.2⟩, fun i hi => ⟨cg_NtR hM hP hS h6 h8 (eF i hi) (fun a h1 h2 => hm a (by omega) (by omega)) (hH.2.2.2 i hi).1, cg_Nt hM hS h6 (eF i hi) (hH.2.2.2 i hi).2⟩⟩
end CG
/-- exact contracts of what answers an object -/
def mFr (l : Launch) (g : mG) (d k : Nat) (As : List Value) (m : Mm) (v : Value) : Prop := l.stackTraces = false → ∀ o, mSat l g d k As m o (mRX (fun w m2 o2 => w = v ∧ m2 = m ∧ o2 = o)) 0 0
section CFr
variable {l : Launch} {g : mG} {d k : Nat} {Φ : mR → Mm → Int64 → Prop} {MC MS : Nat} {nx : Nat → List Value → List Value → Mm → Int64 → Nat → Nat → Prop} {pc a : Nat} {nt : Bool} {As R L : List Value} {m : Mm} {o : Int64} {cN sN : Nat} {v : Value}
theorem nFr (r : Nat) (hc : m1c As = true) (hn : mNl k = As.length + r) (hH : mHd k = []) (hpn : plainName (mY k).cls = true) (hoc : mCn (mOc k) = (mY k).cls) (hv : (∃ x, v = .ref x) ∨ v = .null)
    (h : l.stackTraces = false → ∀ (o : Int64) (Φ : mR → Mm → Int64 → Prop), Φ (.inl (some v)) m o → mWB l g d k Φ 0 0 0 (As ++ List.replicate r mJ) [] m o 0 0) : mFr l g d k As m v := fun htr o => mBody htr r hc hn hH hpn hoc (h htr o _ (by
      rcases hv with ⟨x, rfl⟩ | rfl <;> exact ⟨rfl, rfl, rfl⟩))
theorem gCr (htr : l.stackTraces = false) (hf : mFr l g (d - 1) a As m v) (hd : 1 ≤ d) (kk : nx (pc + 3) L (v :: R) m o cN sN) (h1 : cN ≤ MC := by decide) (h2 : sN ≤ MS := by decide) : mCal l g d k Φ MC MS nx pc a nt As R L m o cN sN 3 :=
  ⟨d - 1, _, by omega, hf htr o, h1, h2, fun w m2 o2 q => by obtain ⟨rfl, rfl, rfl⟩ := q; exact kk⟩
end CFr
section X18
variable {l : Launch} {g : mG} {d : Nat} {A : Mm}
/-- where a history lies -/
def hsB (h : Nat) : Bool := Nat.blt h 917 && Nat.beq (mKd h) 13
theorem hs_all : ∀ h, h = 625 ∨ h = 707 ∨ h = 777 ∨ h = 847 → mIsB h (mKd 625) = true ∧ mRF h 0 = h + 1 ∧ mRF h 1 = h + 5 ∧ ntB (h + 1) = true ∧ ∀ i, i < 16 → mRF (h + 5) i = h + 6 + 4 * i ∧ ntB (h + 6 + 4 * i) = true := by
  rintro h (rfl | rfl | rfl | rfl) <;> decide +kernel
end X18
