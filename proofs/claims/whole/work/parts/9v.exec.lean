set_option maxRecDepth 100000
/-! A WORK IS DONE -/
abbrev EX : Type := (Nat → Int32) × Int32 × Nat × Nat × Nat
noncomputable def doS (A : Mm) (R : Nat → Int32) (e : W5) (w : Int32) : N3 := if e.1 = 0 then nWalk A R e.2.1 e.2.2.1 w else if e.1 = 1 then nCall A R e.2.1 w else if e.1 = 2 then (1, bdF R e.2.1, w) else if 300 ≤ R 36 ∧ R 35 = 23 then (0, R, w) else (1, nHour R, w)
noncomputable def exS (A : Mm) (v : W5) (e : EX) : EX := ((doS A e.1 v e.2.1).2.1, (doS A e.1 v e.2.1).2.2, e.2.2.1 + 1, (if (doS A e.1 v e.2.1).1 = 0 then e.2.2.2.1 else e.2.2.2.1 + 1), (if (doS A e.1 v e.2.1).1 = 0 then e.2.2.2.2 + 1 else e.2.2.2.2))
def exB (e : EX) : EX := (e.1, e.2.1, e.2.2.1 + 1, e.2.2.2.1, e.2.2.2.2)
/-- 0: from i to j; 1: step i again, j turns were done -/
def Ex (A : Mm) (F : Nat → W5) : Nat → Nat → Nat → Nat → EX → EX → Prop
  | 0 => fun _ _ _ _ _ => False
  | f + 1 => fun md i j e e' =>
    (md = 0 ∧ ((¬ (i < j ∧ e.2.2.1 < 200) ∧ e' = e) ∨ ((i < j ∧ e.2.2.1 < 200) ∧ (((F i).1 = 4 ∧ ∃ e1, Ex A F f 1 i 0 (exB e) e1 ∧ Ex A F f 0 (F i).2.2.2.1 j e1 e') ∨ ((F i).1 ≠ 4 ∧ Ex A F f 0 (F i).2.2.2.1 j (exS A (F i) e) e'))))) ∨
    (md = 1 ∧ ((¬ (j < (F i).2.1 ∧ e.2.2.1 < 200) ∧ e' = e) ∨ ((j < (F i).2.1 ∧ e.2.2.1 < 200) ∧ ∃ e1, Ex A F f 0 (i + 1) (F i).2.2.2.1 e e1 ∧ Ex A F f 1 i (j + 1) e1 e')))
def exI (A : Mm) (e : EX) : Prop := Nt A e.1 ∧ e.2.2.1 ≤ 200 ∧ e.2.2.2.1 + e.2.2.2.2 ≤ e.2.2.1
section EXP
variable {A : Mm} {F : Nat → W5} {c : Nat}
theorem doS_ok (hA : CtB A) {R : Nat → Int32} (hR : Nt A R) {v : W5} (h1 : v.1 < 3 → v.2.1 < nM A) (h0 : v.1 = 0 → v.2.2.1 < nS A) (w : Int32) : Nt A (doS A R v w).2.1 ∧ ((doS A R v w).1 = 0 ∨ (doS A R v w).1 = 1) := by
  unfold doS
  by_cases q0 : v.1 = 0
  · rw [if_pos q0]; exact ⟨Nt_walk hA hR (h1 (by omega)) (h0 q0) w, w01 _ _ _ _ _⟩
  · rw [if_neg q0]
    by_cases q1 : v.1 = 1
    · rw [if_pos q1]; exact ⟨Nt_call hA hR (h1 (by omega)) w, n01 _ _ _ _⟩
    · rw [if_neg q1]
      by_cases q2 : v.1 = 2
      · rw [if_pos q2]; exact ⟨Nt_bed hA hR (h1 (by omega)), Or.inr rfl⟩
      · rw [if_neg q2]
        by_cases q3 : 300 ≤ R 36 ∧ R 35 = 23
        · rw [if_pos q3]; exact ⟨hR, Or.inl rfl⟩
        · rw [if_neg q3]; exact ⟨Nt_hour hA hR, Or.inr rfl⟩
theorem exS_ok (hA : CtB A) {v : W5} (h1 : v.1 < 3 → v.2.1 < nM A) (h0 : v.1 = 0 → v.2.2.1 < nS A) {e : EX} (h : exI A e) (hb : e.2.2.1 < 200) : exI A (exS A v e) := by
  have hd := doS_ok hA h.1 h1 h0 e.2.1
  refine ⟨hd.1, hb, ?_⟩
  have h3 := h.2.2
  unfold exS
  by_cases q : (doS A e.1 v e.2.1).1 = 0
  · rw [if_pos q, if_pos q]; show e.2.2.2.1 + (e.2.2.2.2 + 1) ≤ e.2.2.1 + 1; omega
  · rw [if_neg q, if_neg q]; show e.2.2.2.1 + 1 + e.2.2.2.2 ≤ e.2.2.1 + 1; omega
theorem exB_ok {e : EX} (h : exI A e) (hb : e.2.2.1 < 200) : exI A (exB e) := ⟨h.1, hb, by have := h.2.2; show e.2.2.2.1 + e.2.2.2.2 ≤ e.2.2.1 + 1; omega⟩
theorem Ex_ok (hA : CtB A) (hF : ∀ i, i < c → okW (nM A) (nS A) 0 c F i) : ∀ (f md i j : Nat) (e e' : EX), Ex A F f md i j e e' → exI A e → (md = 0 → j ≤ c) → (md = 1 → i < c) → exI A e' ∧ e.2.2.1 ≤ e'.2.2.1 := by
  intro f
  induction f with
  | zero => intro md i j e e' h; exact absurd h (fun q => q)
  | succ f IH =>
    intro md i j e e' h hI hj hi
    rcases h with ⟨rfl, ⟨_, rfl⟩ | ⟨⟨h1, h2⟩, ⟨h3, e1, r1, r2⟩ | ⟨h3, r2⟩⟩⟩ | ⟨rfl, ⟨_, rfl⟩ | ⟨⟨h1, h2⟩, e1, r1, r2⟩⟩
    · exact ⟨hI, Nat.le_refl _⟩
    · have hjc := hj rfl
      have B := IH _ _ _ _ _ r1 (exB_ok hI h2) (fun z => absurd z (by decide)) (fun _ => by omega)
      have E := IH _ _ _ _ _ r2 B.1 (fun _ => hjc) (fun z => absurd z (by decide))
      have b2 : e.2.2.1 + 1 ≤ e1.2.2.1 := B.2
      exact ⟨E.1, by have := E.2; omega⟩
    · have hjc := hj rfl
      have ho := hF i (by omega)
      have E := IH _ _ _ _ _ r2 (exS_ok hA ho.2.2.2.2.2.1 ho.2.2.2.2.2.2.1 hI h2) (fun _ => hjc) (fun z => absurd z (by decide))
      have b2 : e.2.2.1 + 1 ≤ e'.2.2.1 := E.2
      exact ⟨E.1, by omega⟩
    · exact ⟨hI, Nat.le_refl _⟩
    · have hic := hi rfl
      have ho := hF i hic
      have B := IH _ _ _ _ _ r1 hI (fun _ => ho.2.1.2) (fun z => absurd z (by decide))
      have E := IH _ _ _ _ _ r2 B.1 (fun z => absurd z (by decide)) (fun _ => hic)
      exact ⟨E.1, by have := B.2; have := E.2; omega⟩
end EXP
/-- the reference while a work is done -/
def rE (A X0 : Mm) (e : EX) (m : Mm) : Prop := sim A m ∧ (∀ a, a ≠ 0 → a ≠ 411 → a ≠ 412 → a ≠ 494 → m a = X0 a) ∧ (∀ i, i ≠ 37 → i ≠ 40 → i ≠ 41 → i ≠ 42 → m 0 i = X0 0 i) ∧ m 494 = e.1 ∧ m 0 40 = e.2.1 ∧ m 0 41 = nI e.2.2.1 ∧ m 0 42 = nI e.2.2.2.1 ∧ m 0 37 = nI e.2.2.2.2
section R47
variable {l : Launch} {g : mG} {d : Nat} {A : Mm}
theorem r_does (hA : Sv A) {m : Mm} (hs : sim A m) (hd : 8 ≤ d) {i : Nat} (hi : i < 80) {v : W5} (hv : rowW m i v) (h4 : v.1 < 4) (h1 : v.1 < 3 → v.2.1 < nM A) (h0 : v.1 = 0 → v.2.2.1 < nS A) (hR : Nt A (m 494)) : mHi l g d k_X12_does [.ref 0, .ref 494, .ref (414 + i)] m (pN 494 m (doS A (m 494) v (m 0 40))) := by
  have hM6 := hA.1.2.2.1.2
  refine nBi 0 rfl rfl rfl (by decide) rfl (fun htr o Φ hΦ => mGoOn (mOk (by decide)) rfl [90] 400 ?_)
  show mReq (mIsB (414 + i) 1) (mReq (mInB (0 : Int32) (mLn (414 + i))) ((((m (414 + i) 0).toInt = 0 → mReq (mIsB (414 + i) 1) (mReq (mInB (1 : Int32) (mLn (414 + i))) (mReq (mIsB (414 + i) 1) (mReq (mInB (2 : Int32) (mLn (414 + i))) (True ∧ mCal l g d k_X12_does Φ 0 0 _ 36 k_X12_walks false [.ref 0, .ref 494, .int (m (414 + i) 1), .int (m (414 + i) 2)] [] [.ref 0, .ref 494, .ref (414 + i)] m o 0 0 1))))) ∧ ((m (414 + i) 0).toInt = 1 → mReq (mIsB (414 + i) 1) (mReq (mInB (1 : Int32) (mLn (414 + i))) (True ∧ mCal l g d k_X12_does Φ 0 0 _ 45 k_X12_callsOut false [.ref 0, .ref 494, .int (m (414 + i) 1)] [] [.ref 0, .ref 494, .ref (414 + i)] m o 0 0 1))) ∧ ((m (414 + i) 0).toInt = 2 → mReq (mIsB (414 + i) 1) (mReq (mInB (1 : Int32) (mLn (414 + i))) (mReq (mIsB (414 + i) 1) (mReq (mInB (1 : Int32) (mLn (414 + i))) (mReq (mInB ((12 : Int32) + (m (414 + i) 1)) 37) (mReq (mInB ((12 : Int32) + (m (414 + i) 1)) 37) (((1 : Int32) = 0 ∨ (1 : Int32) = 1) ∧ Φ (.inl (some (.int (1 : Int32)))) (mset m 494 (((12 : Int32) + (m (414 + i) 1)).toNatClampNeg) ((1 : Int32) - (m 494 (((12 : Int32) + (m (414 + i) 1)).toNatClampNeg)))) o ∧ 0 ≤ 0 ∧ 0 ≤ 0))))))) ∧ True) ∧ ((m (414 + i) 0).toInt < 0 ∨ 2 < (m (414 + i) 0).toInt → ((m 494 36) < (300 : Int32) → mWB l g d k_X12_does Φ 0 0 90 [.ref 0, .ref 494, .ref (414 + i)] [] m o 0 0) ∧ (¬ (m 494 36) < (300 : Int32) → (¬ (m 494 35) = (23 : Int32) → mWB l g d k_X12_does Φ 0 0 90 [.ref 0, .ref 494, .ref (414 + i)] [] m o 0 0) ∧ ((m 494 35) = (23 : Int32) → ((0 : Int32) = 0 ∨ (0 : Int32) = 1) ∧ Φ (.inl (some (.int (0 : Int32)))) m o ∧ 0 ≤ 0 ∧ 0 ≤ 0)))))
  rw [sB_5 (by omega), sL_5 (by omega), hv.1, nI_toInt (by omega)]
  unfold doS at hΦ
  refine mReq_i rfl (mReq_i rfl ⟨⟨fun z => ?_, fun z => ?_, fun z => ?_, trivial⟩, fun z => ?_⟩)
  · have e : v.1 = 0 := by omega
    rw [if_pos e] at hΦ
    rw [hv.2.1 (by omega), hv.2.2.1 e]
    refine mReq_i rfl (mReq_i rfl ⟨trivial, nCi htr (r_walks hA hs (by omega) (Or.inl rfl) (h1 (by omega)) (h0 e) hR.1) (by omega) ?_⟩)
    intro x m2 hq
    show (x = 0 ∨ x = 1) ∧ Φ (.inl (some (.int x))) m2 o ∧ 0 ≤ 0 ∧ 0 ≤ 0
    exact ⟨by rw [hq.1]; exact w01 _ _ _ _ _, eR (hΦ _ _ hq)⟩
  · have e : v.1 = 1 := by omega
    rw [if_neg (by omega), if_pos e] at hΦ
    rw [hv.2.1 (by omega)]
    refine mReq_i rfl (mReq_i rfl ⟨trivial, nCi htr (r_callsOut hA hs (by omega) (Or.inl rfl) (h1 (by omega)) hR.1) (by omega) ?_⟩)
    intro x m2 hq
    show (x = 0 ∨ x = 1) ∧ Φ (.inl (some (.int x))) m2 o ∧ 0 ≤ 0 ∧ 0 ≤ 0
    exact ⟨by rw [hq.1]; exact n01 _ _ _ _, eR (hΦ _ _ hq)⟩
  · have e : v.1 = 2 := by omega
    rw [if_neg (by omega), if_neg (by omega), if_pos e] at hΦ
    have hk := h1 (by omega)
    rw [hv.2.1 (by omega), show (12 : Int32) = nI 12 from rfl, nI_add, mIn_ok (show 12 + v.2.1 < 37 by omega) (by decide), nI_cl (by omega)]
    refine mReq_i rfl (mReq_i rfl (mReq_i rfl ⟨Or.inr rfl, eR (hΦ _ _ ⟨rfl, ⟨fun a a1 a2 a3 a4 => mset_ne _ _ _ a4, fun j hj => by rw [mset_ne _ _ _ (by decide)]⟩, ?_, by rw [mset_ne _ _ _ (by decide)]⟩)⟩))
    rw [mset_eq]
    rfl
  · have e : v.1 = 3 := by omega
    rw [if_neg (by omega), if_neg (by omega), if_neg (by omega)] at hΦ
    have k90 : ¬ (300 ≤ m 494 36 ∧ m 494 35 = 23) → mWB l g d k_X12_does Φ 0 0 90 [.ref 0, .ref 494, .ref (414 + i)] [] m o 0 0 := by
      intro y
      rw [if_neg y] at hΦ
      refine mGoOn (mOk (by decide)) rfl [] 400 ?_
      show mCal l g d k_X12_does Φ 0 0 _ 91 k_X12_hourEnds false [.ref 494] [] [.ref 0, .ref 494, .ref (414 + i)] m o 0 0 0
      refine nCv htr (r_hourEnds (Or.inl rfl)) (by omega) ?_
      rintro m2 ⟨q1, q2, q3⟩
      show ((1 : Int32) = 0 ∨ (1 : Int32) = 1) ∧ Φ (.inl (some (.int (1 : Int32)))) m2 o ∧ 0 ≤ 0 ∧ 0 ≤ 0
      exact ⟨Or.inr rfl, eR (hΦ _ _ ⟨rfl, q1, q2, by rw [q3]⟩)⟩
    refine ⟨fun y => k90 (fun u => (fa_of_lt y).2.1 u.1), fun y => ⟨fun y2 => k90 (fun u => y2 u.2), fun y2 => ?_⟩⟩
    rw [if_pos ⟨fa_of_nlt y, y2⟩] at hΦ
    exact ⟨Or.inl rfl, eR (hΦ _ _ ⟨rfl, fr_refl _ _, rfl, rfl⟩)⟩
end R47
