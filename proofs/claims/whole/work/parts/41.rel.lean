set_option maxRecDepth 100000
/-! THE CLASS AND THE REFERENCE, SIDE BY SIDE -/
def sgnOf (c : Nat) : Nat := if c = 2 then 43 else if c = 3 then 45 else if c = 4 then 42 else if c = 5 then 47 else if c = 6 then 37 else if c = 7 then 60 else 62
def cdW (a b : Nat) : Int32 := if a = 0 then nI b else if a = 1 then nI (1000 + b) else nI (2000 + sgnOf a)
/-- the city that the class holds from cell C on -/
def CtR (A m : Mm) (C : Nat) : Prop := (m C 0 = nI (nS A) ∧ m C 1 = nI (nL A) ∧ m C 2 = nI (nM A) ∧ m C 3 = nI (nP A)) ∧
  (∀ s, s < nS A → m (C + 1) s = A 6 s) ∧ (∀ s, s < nS A → m (C + 2) s = msk (fun k => Ln A (nI s) (nI k)) (nS A)) ∧ (∀ e, e < nL A → m (C + 3) e = A (23 + e) 0 ∧ m (C + 4) e = A (23 + e) 1) ∧
  (∀ k, k < nM A → m (C + 5) k = A (45 + k) 0 ∧ m (C + 6) k = A (45 + k) 1 ∧ m (C + 7) k = A (45 + k) 2) ∧ (∀ p, p < nP A → m (C + 8) p = A (61 + p) 0 ∧ m (C + 9) p = A (61 + p) 1)
/-- the law that the class holds from cell W on -/
def LwR (A m : Mm) (W : Nat) : Prop := m W 2 = nI (nW A) ∧ ∀ k, k < nW A → m (W + 1) k = cdW (c0 A k) (c1 A k)
def BkR (A m : Mm) (B : Nat) : Prop := m B 1 = A 0 35 ∧ ∀ s, s < 9 → (∀ t, t < nB A → A (392 + t) 0 = nI s → m (B + 1) s = A (392 + t) 1) ∧ ((∀ t, t < nB A → A (392 + t) 0 ≠ nI s) → m (B + 1) s = -1)
/-- a night of the class from cell N on, as the row R -/
def NtR (A : Mm) (R : Nat → Int32) (m : Mm) (N : Nat) : Prop := m N 0 = R 35 ∧ m N 1 = R 36 ∧ m N 2 = msk (fun k => R (12 + k) = 0) (nM A) ∧ m N 3 = msk (fun p => R (27 + p) = 1) (nP A) ∧
  (∀ k, k < nM A → m (N + 1) k = R k) ∧ (∀ k, k < 6 → m (N + 2) k = R (6 + k)) ∧ (∀ s, s < 9 → s < nS A → m (N + 3) s = R (18 + s))
/-- a history of the class from cell h on: how many works, the row as it is, the rows before -/
def HsR (A : Mm) (n : Nat) (now : Nat → Int32) (bef : Nat → Nat → Int32) (m : Mm) (h : Nat) : Prop := n ≤ 16 ∧ m h 2 = nI n ∧ (NtR A now m (h + 1) ∧ Nt A now) ∧ ∀ i, i < n → NtR A (bef i) m (h + 6 + 4 * i) ∧ Nt A (bef i)
def nI3 (A : Mm) : Nat := (A 0 38).toNatClampNeg
def nWk (A : Mm) : Nat := (A 0 36).toNatClampNeg
def nTp (A : Mm) : Nat := (A 0 1).toNatClampNeg
/-- what a query rests on -/
def Qr (A : Mm) : Prop := Cty A ∧ LwOk A ∧ BkOk A ∧ Nt A (A 494) ∧ CtR A A 590 ∧ LwR A A 600 ∧ BkR A A 617 ∧ NtR A (A 494) A 626 ∧ A 586 14 = A 0 37
def Rl (A : Mm) : Prop := Qr A ∧ (A 0 36 = nI (nWk A) ∧ HsR A (nWk A) (A 494) (fun i => A (497 + i)) A 625) ∧
  (nI3 A ≤ 3 ∧ A 0 38 = nI (nI3 A) ∧ A 586 13 = nI (nI3 A) ∧ ∀ i, i < nI3 A → A (514 + i) 0 = nI (A (514 + i) 0).toNatClampNeg ∧ HsR A (A (514 + i) 0).toNatClampNeg (fun k => A (514 + i) (1 + k)) (fun w k => A (514 + i) (38 + 37 * w + k)) A (707 + 70 * i)) ∧
  (A 586 15 = A 2 0 ∧ A 586 16 = A 2 1) ∧ (nTp A ≤ 600 ∧ A 0 1 = nI (nTp A) ∧ A 587 1 = nI (nTp A) ∧ ∀ i, i < nTp A → A 588 i = A 1 i ∧ In (A 1 i) 256) ∧ A 587 3 = A 0 3
/-- the class's city and law lie as in A -/
def csim (A m : Mm) : Prop := ∀ a, 590 ≤ a → a ≤ 601 → m a = A a
theorem csim_of {A m : Mm} (h : cl m = A) : csim A m := fun a h1 h2 => clF h (by omega)
theorem csim_at {A m : Mm} (h : csim A m) {a : Nat} (i : Nat) (h2 : 590 ≤ a ∧ a ≤ 601) : m a i = A a i := by rw [h a h2.1 h2.2]
/-- where nights lie -/
def ntB (N : Nat) : Bool := Nat.blt N 917 && Nat.beq (mKd N) 15
theorem nt_all : ∀ N, N < 917 → ntB N = true → mIsB N 15 = true ∧ mRF N 4 = N + 1 ∧ mRF N 5 = N + 2 ∧ mRF N 6 = N + 3 ∧ (mIsB (N + 1) 1 = true ∧ mLn (N + 1) = 6) ∧ (mIsB (N + 2) 1 = true ∧ mLn (N + 2) = 6) ∧ (mIsB (N + 3) 1 = true ∧ mLn (N + 3) = 9) := by decide +kernel
theorem nt_of {N : Nat} (h : ntB N = true) : mIsB N 15 = true ∧ mRF N 4 = N + 1 ∧ mRF N 5 = N + 2 ∧ mRF N 6 = N + 3 ∧ (mIsB (N + 1) 1 = true ∧ mLn (N + 1) = 6) ∧ (mIsB (N + 2) 1 = true ∧ mLn (N + 2) = 6) ∧ (mIsB (N + 3) 1 = true ∧ mLn (N + 3) = 9) := by
  refine nt_all N ?_ h
  unfold ntB at h
  rw [Bool.and_eq_true] at h
  simpa [Nat.blt_eq] using h.1
/-! bits of small numbers -/
theorem hB_nI {n i : Nat} (hi : i < 32) : hB (nI n) i ↔ n.testBit i = true := by
  unfold hB bt
  show (BitVec.ofNat 32 n).getLsbD i = true ↔ _
  rw [BitVec.getLsbD_ofNat]
  simp [hi]
theorem small9 {x : Int32} (h : ∀ i, 9 ≤ i → i < 32 → ¬ hB x i) : ∃ n, n < 512 ∧ x = nI n := by
  obtain ⟨n, hn, rfl⟩ := wb_of32 x
  refine ⟨n, ?_, rfl⟩
  refine Nat.lt_pow_two_of_testBit (n := 9) n (fun i hi => ?_)
  by_cases h32 : i < 32
  · have := fun q => h i hi h32 ((hB_nI h32).mpr q)
    simpa using this
  · exact Nat.testBit_lt_two_pow (Nat.lt_of_lt_of_le hn (Nat.pow_le_pow_right (by decide) (by omega)))
theorem cnt_lt {P : Nat → Prop} {n : Nat} : ∀ j, cnt (fun i => i < n ∧ P i) (n + j) = cnt P n
  | 0 => cnt_cong (fun k hk => ⟨fun q => q.2, fun q => ⟨hk, q⟩⟩)
  | j + 1 => by
    rw [show n + (j + 1) = (n + j) + 1 by omega, cnt_f (fun q => by have := q.1; omega)]
    exact cnt_lt j
theorem one24_of {x : Int32} {P : Nat → Prop} {n : Nat} (hn : n ≤ 24) (h : ∀ i, i < 24 → (hB x i ↔ i < n ∧ P i)) : one24 x = cnt P n := by
  unfold one24
  rw [cnt_cong h, show 24 = n + (24 - n) by omega, cnt_lt]
theorem low_in {n : Nat} (hn : n < 512) (h0 : n ≠ 0) : n.testBit (low n) = true ∧ (∀ j, j < low n → n.testBit j = false) ∧ low n < 9 := by
  have h1 := (low_ok n hn h0).1
  exact ⟨fa_first_yes _ 9 h1, fun j hj => fa_first_no _ 9 j hj, h1⟩
section CX
variable {l : Launch} {g : mG} {d k : Nat} {Φ : mR → Mm → Int64 → Prop} {MC MS : Nat} {nx : Nat → List Value → List Value → Mm → Int64 → Nat → Nat → Prop} {pc a : Nat} {nt : Bool} {As R L : List Value} {m m' : Mm} {o : Int64} {cN sN : Nat}
theorem nCi' {Q : Int32 → Mm → Prop} (htr : l.stackTraces = false) (hf : mHi l g (d - 1) a As m Q) (hd : 1 ≤ d) (h1 : cN ≤ MC) (h2 : sN ≤ MS) (kk : ∀ x m2, Q x m2 → nx (pc + 3) L (.int x :: R) m2 o cN sN) : mCal l g d k Φ MC MS nx pc a nt As R L m o cN sN 1 := by
  refine ⟨d - 1, fun r m2 o2 => Q r m2 ∧ o2 = o, mN0, 0, 0, by omega, hf htr o, h1, h2, ?_, ?_⟩
  · rintro r m2 o2 ⟨q, rfl⟩
    exact kk r m2 q
  · cases nt
    · exact fun x m' o' q => q.elim
    · exact fun x m' o' q => q
theorem nCl' {Q : Int64 → Mm → Prop} (htr : l.stackTraces = false) (hf : mHl l g (d - 1) a As m Q) (hd : 1 ≤ d) (h1 : cN ≤ MC) (h2 : sN ≤ MS) (kk : ∀ x m2, Q x m2 → nx (pc + 3) L (.long x :: R) m2 o cN sN) : mCal l g d k Φ MC MS nx pc a nt As R L m o cN sN 2 := by
  refine ⟨d - 1, fun r m2 o2 => Q r m2 ∧ o2 = o, mN0, 0, 0, by omega, hf htr o, h1, h2, ?_, ?_⟩
  · rintro r m2 o2 ⟨q, rfl⟩
    exact kk r m2 q
  · cases nt
    · exact fun x m' o' q => q.elim
    · exact fun x m' o' q => q
theorem nCv' {Q : Mm → Prop} (htr : l.stackTraces = false) (hf : mHv l g (d - 1) a As m Q) (hd : 1 ≤ d) (h1 : cN ≤ MC) (h2 : sN ≤ MS) (kk : ∀ m2, Q m2 → nx (pc + 3) L R m2 o cN sN) : mCal l g d k Φ MC MS nx pc a nt As R L m o cN sN 0 := by
  refine ⟨d - 1, fun m2 o2 => Q m2 ∧ o2 = o, mN0, 0, 0, by omega, hf htr o, h1, h2, ?_, ?_⟩
  · rintro m2 o2 ⟨q, rfl⟩
    exact kk m2 q
  · cases nt
    · exact fun x m' o' q => q.elim
    · exact fun x m' o' q => q
/-- what the class's query must answer by q -/
def xOk (A : Mm) (q : Oc) : mR → Mm → Prop := fun r m2 => match r with
  | .inl (some (.int v)) => q.1 = 0 ∧ v = q.2.2 ∧ cl m2 = A
  | .inr x => q.1 ≠ 0 ∧ x = 1 - q.2.1 ∧ cl m2 = mset A 586 (15 + q.2.1) (A 586 (15 + q.2.1) + 1)
  | _ => False
def xO (A : Mm) (q : Oc) (o : Int64) : mR → Mm → Int64 → Prop := mIX (fun v m2 o2 => xOk A q (.inl (some (.int v))) m2 ∧ o2 = o) (fun x m2 o2 => xOk A q (.inr x) m2 ∧ o2 = o)
def xS (l : Launch) (g : mG) (d k : Nat) (As : List Value) (m : Mm) (A : Mm) (q : Oc) : Prop := l.stackTraces = false → ∀ o, mSat l g d k As m o (xO A q o) 4 24
theorem nBx {A : Mm} {q : Oc} (r : Nat) (hc : m1c As = true) (hn : mNl k = As.length + r) (hH : mHd k = []) (hpn : plainName (mY k).cls = true) (hoc : mCn (mOc k) = (mY k).cls)
    (h : l.stackTraces = false → ∀ (o : Int64) (Φ : mR → Mm → Int64 → Prop), (∀ r m2, xOk A q r m2 → Φ r m2 o) → mWB l g d k Φ 4 24 0 (As ++ List.replicate r mJ) [] m o 0 0) : xS l g d k As m A q := fun htr o => mBody htr r hc hn hH hpn hoc (h htr o _ (fun r m2 q => by
      rcases r with (_ | v) | x
      · exact q.elim
      · cases v <;> first | exact q.elim | exact ⟨q, rfl⟩
      · exact ⟨q, rfl⟩))
theorem xk_v {A M : Mm} (h : cl M = A) {x v : Int32} (hv : v = x) : xOk A (0, 0, x) (.inl (some (.int v))) M := ⟨rfl, hv, h⟩
theorem xk_n {A M : Mm} (h : cl M = A) : xOk A (1, 0, 0) (.inr 1) (mset M 586 15 (M 586 15 + 1)) := ⟨by decide, rfl, by rw [clA h 15 (by omega)]; exact cl_set h _ rfl⟩
theorem xk_a {A M : Mm} (h : cl M = A) {t : Int32} (ht : t ≠ 0) : xOk A (t, 1, 0) (.inr 0) (mset M 586 16 (M 586 16 + 1)) := ⟨ht, rfl, by rw [clA h 16 (by omega)]; exact cl_set h _ rfl⟩
theorem e4 {P : Prop} {a b c e : Nat} (h : P) (h1 : a ≤ b := by decide) (h2 : c ≤ e := by decide) : P ∧ a ≤ b ∧ c ≤ e := ⟨h, h1, h2⟩
end CX
