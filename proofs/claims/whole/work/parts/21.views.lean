/-! VIEWS OF THE MEMORY -/
theorem lit_add (n k : Nat) : (no_index (OfNat.ofNat n) : Int32) + nI k = nI (OfNat.ofNat n + k) := nI_add n k
theorem lit_sub {n k : Nat} (h : OfNat.ofNat n ≤ k) : nI k - (no_index (OfNat.ofNat n) : Int32) = nI (k - OfNat.ofNat n) := by
  have : nI k = nI (k - n) + nI n := by rw [nI_add]; congr 1; exact (Nat.sub_add_cancel h).symm
  rw [this]
  exact Int32.add_sub_cancel _ _
theorem add_lit (n k : Nat) : nI k + (no_index (OfNat.ofNat n) : Int32) = nI (k + OfNat.ofNat n) := nI_add k n
theorem lit_mul (n k : Nat) : (no_index (OfNat.ofNat n) : Int32) * nI k = nI (OfNat.ofNat n * k) := (Int32.ofNat_mul n k).symm
theorem lit_le {n k : Nat} (h : OfNat.ofNat n < 2 ^ 31) (hk : k < 2 ^ 31) : ((no_index (OfNat.ofNat n) : Int32) ≤ nI k) ↔ OfNat.ofNat n ≤ k := nI_leI h hk
theorem le_lit {n k : Nat} (h : OfNat.ofNat n < 2 ^ 31) (hk : k < 2 ^ 31) : (nI k ≤ (no_index (OfNat.ofNat n) : Int32)) ↔ k ≤ OfNat.ofNat n := nI_leI hk h
theorem lit_lt {n k : Nat} (h : OfNat.ofNat n < 2 ^ 31) (hk : k < 2 ^ 31) : ((no_index (OfNat.ofNat n) : Int32) < nI k) ↔ OfNat.ofNat n < k := nI_ltI h hk
theorem lt_lit {n k : Nat} (h : OfNat.ofNat n < 2 ^ 31) (hk : k < 2 ^ 31) : (nI k < (no_index (OfNat.ofNat n) : Int32)) ↔ k < OfNat.ofNat n := nI_ltI hk h
theorem eq_lit {n k : Nat} (h : OfNat.ofNat n < 2 ^ 31) (hk : k < 2 ^ 31) : (nI k = (no_index (OfNat.ofNat n) : Int32)) ↔ k = OfNat.ofNat n := nI_eq hk h
theorem mIn_0 {n : Nat} (h : 0 < n) : mInB (0 : Int32) n = true := by
  show (true && Nat.blt 0 n) = true
  simpa [Nat.blt_eq] using h
theorem mIn_1 {n : Nat} (h : 1 < n) : mInB (1 : Int32) n = true := by
  show (true && Nat.blt 1 n) = true
  simpa [Nat.blt_eq] using h
theorem mIn_2 {n : Nat} (h : 2 < n) : mInB (2 : Int32) n = true := by
  show (true && Nat.blt 2 n) = true
  simpa [Nat.blt_eq] using h
theorem mIn_3 {n : Nat} (h : 3 < n) : mInB (3 : Int32) n = true := by
  show (true && Nat.blt 3 n) = true
  simpa [Nat.blt_eq] using h
theorem mIn_lit {n N : Nat} (h : OfNat.ofNat n < N) (hN : N < 2 ^ 31) : mInB (no_index (OfNat.ofNat n) : Int32) N = true := mIn_nI h hN
theorem nI_l0 {n : Nat} (h : n < 2 ^ 31) : (nI n ≤ (0 : Int32)) = (n ≤ 0) := propext (nI_leI (b := 0) h (by decide))
theorem nI_p0 {n : Nat} (h : n < 2 ^ 31) : ((0 : Int32) ≤ nI n) = True := eq_true (nI_pos' h)
theorem sw_lane {a : Nat} (h : 8 ≤ a ∧ a < 22 ∨ 23 ≤ a ∧ a < 37 ∨ 52 ≤ a ∧ a < 60 ∨ 61 ≤ a ∧ a < 69) : mIsB a 1 = true ∧ mLn a = 2 := by
  rcases h with h | h | h | h
  · have := rw_8 (a - 8) (by omega); rwa [show 8 + (a - 8) = a by omega] at this
  · have := rw_23 (a - 23) (by omega); rwa [show 23 + (a - 23) = a by omega] at this
  · have := rw_52 (a - 52) (by omega); rwa [show 52 + (a - 52) = a by omega] at this
  · have := rw_61 (a - 61) (by omega); rwa [show 61 + (a - 61) = a by omega] at this
theorem sw_man {a : Nat} (h : 38 ≤ a ∧ a < 44 ∨ 45 ≤ a ∧ a < 51) : mIsB a 1 = true ∧ mLn a = 3 := by
  rcases h with h | h
  · have := rw_38 (a - 38) (by omega); rwa [show 38 + (a - 38) = a by omega] at this
  · have := rw_45 (a - 45) (by omega); rwa [show 45 + (a - 45) = a by omega] at this
theorem sw_law {a : Nat} (h : 70 ≤ a ∧ a < 230 ∨ 231 ≤ a ∧ a < 391 ∨ 392 ≤ a ∧ a < 401 ∨ 402 ≤ a ∧ a < 411) : mIsB a 1 = true ∧ mLn a = 2 := by
  rcases h with h | h | h | h
  · have := rw_70 (a - 70) (by omega); rwa [show 70 + (a - 70) = a by omega] at this
  · have := rw_231 (a - 231) (by omega); rwa [show 231 + (a - 231) = a by omega] at this
  · have := rw_392 (a - 392) (by omega); rwa [show 392 + (a - 392) = a by omega] at this
  · have := rw_402 (a - 402) (by omega); rwa [show 402 + (a - 402) = a by omega] at this
theorem sB_2 {a : Nat} (h : 8 ≤ a ∧ a < 22 ∨ 23 ≤ a ∧ a < 37 ∨ 52 ≤ a ∧ a < 60 ∨ 61 ≤ a ∧ a < 69) : mIsB a 1 = true := (sw_lane h).1
theorem sL_2 {a : Nat} (h : 8 ≤ a ∧ a < 22 ∨ 23 ≤ a ∧ a < 37 ∨ 52 ≤ a ∧ a < 60 ∨ 61 ≤ a ∧ a < 69) : mLn a = 2 := (sw_lane h).2
theorem sB_3 {a : Nat} (h : 38 ≤ a ∧ a < 44 ∨ 45 ≤ a ∧ a < 51) : mIsB a 1 = true := (sw_man h).1
theorem sL_3 {a : Nat} (h : 38 ≤ a ∧ a < 44 ∨ 45 ≤ a ∧ a < 51) : mLn a = 3 := (sw_man h).2
theorem sB_4 {a : Nat} (h : 70 ≤ a ∧ a < 230 ∨ 231 ≤ a ∧ a < 391 ∨ 392 ≤ a ∧ a < 401 ∨ 402 ≤ a ∧ a < 411) : mIsB a 1 = true := (sw_law h).1
theorem sL_4 {a : Nat} (h : 70 ≤ a ∧ a < 230 ∨ 231 ≤ a ∧ a < 391 ∨ 392 ≤ a ∧ a < 401 ∨ 402 ≤ a ∧ a < 411) : mLn a = 2 := (sw_law h).2
theorem sB_5 {a : Nat} (h : 414 ≤ a ∧ a < 494) : mIsB a 1 = true := by
  have := rw_414 (a - 414) (by omega); rw [show 414 + (a - 414) = a by omega] at this; exact this.1
theorem sL_5 {a : Nat} (h : 414 ≤ a ∧ a < 494) : mLn a = 4 := by
  have := rw_414 (a - 414) (by omega); rw [show 414 + (a - 414) = a by omega] at this; exact this.2
theorem sB_6 {a : Nat} (h : 497 ≤ a ∧ a < 513) : mIsB a 1 = true := by
  have := rw_497 (a - 497) (by omega); rw [show 497 + (a - 497) = a by omega] at this; exact this.1
theorem sL_6 {a : Nat} (h : 497 ≤ a ∧ a < 513) : mLn a = 37 := by
  have := rw_497 (a - 497) (by omega); rw [show 497 + (a - 497) = a by omega] at this; exact this.2
theorem sB_7 {a : Nat} (h : 514 ≤ a ∧ a < 517) : mIsB a 1 = true := by
  have := rw_514 (a - 514) (by omega); rw [show 514 + (a - 514) = a by omega] at this; exact this.1
theorem sL_7 {a : Nat} (h : 514 ≤ a ∧ a < 517) : mLn a = 630 := by
  have := rw_514 (a - 514) (by omega); rw [show 514 + (a - 514) = a by omega] at this; exact this.2
theorem clA {m A : Mm} (hm : cl m = A) {a : Nat} (i : Nat) (h : 1 ≤ a ∧ a ≤ 410 ∨ 413 ≤ a ∧ a ≤ 494 ∨ 496 ≤ a ∧ a ≤ 516 ∨ 585 ≤ a ∧ a ≤ 601 ∨ 604 ≤ a ∧ a ≤ 695 ∨ 707 ≤ a) : m a i = A a i := by
  refine cl_at hm ?_
  unfold sc
  have h0 : Nat.beq a 0 = false := by cases h2 : Nat.beq a 0 with | false => rfl | true => have := Nat.eq_of_beq_eq_true h2; omega
  rw [h0, cond_false]
  cases h2 : (Nat.beq a 411 || Nat.beq a 412 || Nat.beq a 495 || (Nat.ble 517 a && Nat.ble a 584) || Nat.beq a 602 || Nat.beq a 603 || (Nat.ble 696 a && Nat.ble a 706)) with
  | false => rfl
  | true =>
    exfalso
    simp only [Bool.or_eq_true, Bool.and_eq_true, Nat.beq_eq, Nat.ble_eq] at h2
    omega
theorem clO {m A : Mm} (hm : cl m = A) {i : Nat} (h : i ≠ 0 ∧ i ≠ 40 ∧ i ≠ 47 ∧ i ≠ 48) : m 0 i = A 0 i := by
  refine cl_at hm ?_
  show (Nat.beq i 0 || Nat.beq i 40 || Nat.beq i 47 || Nat.beq i 48) = false
  cases h2 : (Nat.beq i 0 || Nat.beq i 40 || Nat.beq i 47 || Nat.beq i 48) with
  | false => rfl
  | true =>
    exfalso
    simp only [Bool.or_eq_true, Nat.beq_eq] at h2
    omega
theorem clF {m A : Mm} (hm : cl m = A) {a : Nat} (h : 1 ≤ a ∧ a ≤ 410 ∨ 413 ≤ a ∧ a ≤ 494 ∨ 496 ≤ a ∧ a ≤ 516 ∨ 585 ≤ a ∧ a ≤ 601 ∨ 604 ≤ a ∧ a ≤ 695 ∨ 707 ≤ a) : m a = A a := funext fun i => clA hm i h
/-- how many streets, lanes, men, sleepers -/
def nS (A : Mm) : Nat := (A 4 0).toNatClampNeg
def nL (A : Mm) : Nat := (A 4 1).toNatClampNeg
def nM (A : Mm) : Nat := (A 4 2).toNatClampNeg
def nP (A : Mm) : Nat := (A 4 3).toNatClampNeg
def In (x : Int32) (n : Nat) : Prop := ∃ k, k < n ∧ x = nI k
def CtB (A : Mm) : Prop := (A 4 0 = nI (nS A) ∧ nS A ≤ 9) ∧ (A 4 1 = nI (nL A) ∧ nL A ≤ 14) ∧ (A 4 2 = nI (nM A) ∧ nM A ≤ 6) ∧ (A 4 3 = nI (nP A) ∧ nP A ≤ 8)
/-- what is sure of a city that was told -/
def Cty (A : Mm) : Prop := CtB A ∧ (∀ s, s < nS A → In (A 6 s) 31) ∧ (∀ e, e < nL A → In (A (23 + e) 0) (nS A) ∧ In (A (23 + e) 1) (nS A) ∧ A (23 + e) 0 ≠ A (23 + e) 1) ∧
  (∀ k, k < nM A → In (A (45 + k) 0) (nS A) ∧ In (A (45 + k) 1) 24 ∧ In (A (45 + k) 2) 25 ∧ A (45 + k) 2 ≠ 0) ∧ (∀ p, p < nP A → In (A (61 + p) 0) (nS A) ∧ In (A (61 + p) 1) 24)
def LnE (A : Mm) (x y : Int32) (e : Nat) : Prop := A (23 + e) 0 = x ∧ A (23 + e) 1 = y ∨ A (23 + e) 0 = y ∧ A (23 + e) 1 = x
def Ln (A : Mm) (x y : Int32) : Prop := ∃ e, e < nL A ∧ LnE A x y e
section R5
variable {l : Launch} {g : mG} {d : Nat} {A : Mm}
theorem r_isLane (hA : CtB A) {m : Mm} (hm : cl m = A) (x y : Int32) : mFi l g d k_X12_isLane [.ref 0, .int x, .int y] m (pI (Ln A x y)) m := by
  refine nFi 1 rfl rfl rfl (by decide) rfl (fun htr o Φ hΦ => mGoOn (mOk (by decide)) rfl [2] 400 ?_)
  show mWB l g d k_X12_isLane Φ 0 0 2 [.ref 0, .int x, .int y, .int (0 : Int32)] [] m o 0 0
  have hN := hA.2.1
  refine mLoop (P := fun e => (∀ j, j < e → ¬ LnE A x y j) → mWB l g d k_X12_isLane Φ 0 0 2 [.ref 0, .int x, .int y, .int (nI e)] [] m o 0 0) (N := nL A) ?_ ?_ 0 (Nat.zero_le _) (fun j h => by omega)
  · intro e he ih hb
    refine mGoOn (mOk (by decide)) rfl [2] 400 ?_
    show ((m 4 1) ≤ (nI e) → ((0 : Int32) = 0 ∨ (0 : Int32) = 1) ∧ Φ (.inl (some (.int (0 : Int32)))) m o ∧ 0 ≤ 0 ∧ 0 ≤ 0) ∧ (¬ (m 4 1) ≤ (nI e) → mReq (mInB (nI e) 14) (mReq (mIsB (mRF 22 ((nI e).toNatClampNeg)) 1) (mReq (mInB (0 : Int32) (mLn (mRF 22 ((nI e).toNatClampNeg)))) ((¬ (m (mRF 22 ((nI e).toNatClampNeg)) 0) = x → mReq (mInB (nI e) 14) (mReq (mIsB (mRF 22 ((nI e).toNatClampNeg)) 1) (mReq (mInB (0 : Int32) (mLn (mRF 22 ((nI e).toNatClampNeg)))) ((¬ (m (mRF 22 ((nI e).toNatClampNeg)) 0) = y → mWB l g d k_X12_isLane Φ 0 0 2 [.ref 0, .int x, .int y, .int ((nI e) + (1 : Int32))] [] m o 0 0) ∧ ((m (mRF 22 ((nI e).toNatClampNeg)) 0) = y → mReq (mInB (nI e) 14) (mReq (mIsB (mRF 22 ((nI e).toNatClampNeg)) 1) (mReq (mInB (1 : Int32) (mLn (mRF 22 ((nI e).toNatClampNeg)))) ((¬ (m (mRF 22 ((nI e).toNatClampNeg)) 1) = x → mWB l g d k_X12_isLane Φ 0 0 2 [.ref 0, .int x, .int y, .int ((nI e) + (1 : Int32))] [] m o 0 0) ∧ ((m (mRF 22 ((nI e).toNatClampNeg)) 1) = x → ((1 : Int32) = 0 ∨ (1 : Int32) = 1) ∧ Φ (.inl (some (.int (1 : Int32)))) m o ∧ 0 ≤ 0 ∧ 0 ≤ 0))))))))) ∧ ((m (mRF 22 ((nI e).toNatClampNeg)) 0) = x → mReq (mInB (nI e) 14) (mReq (mIsB (mRF 22 ((nI e).toNatClampNeg)) 1) (mReq (mInB (1 : Int32) (mLn (mRF 22 ((nI e).toNatClampNeg)))) (((m (mRF 22 ((nI e).toNatClampNeg)) 1) = y → ((1 : Int32) = 0 ∨ (1 : Int32) = 1) ∧ Φ (.inl (some (.int (1 : Int32)))) m o ∧ 0 ≤ 0 ∧ 0 ≤ 0) ∧ (¬ (m (mRF 22 ((nI e).toNatClampNeg)) 1) = y → mReq (mInB (nI e) 14) (mReq (mIsB (mRF 22 ((nI e).toNatClampNeg)) 1) (mReq (mInB (0 : Int32) (mLn (mRF 22 ((nI e).toNatClampNeg)))) ((¬ (m (mRF 22 ((nI e).toNatClampNeg)) 0) = y → mWB l g d k_X12_isLane Φ 0 0 2 [.ref 0, .int x, .int y, .int ((nI e) + (1 : Int32))] [] m o 0 0) ∧ ((m (mRF 22 ((nI e).toNatClampNeg)) 0) = y → mReq (mInB (nI e) 14) (mReq (mIsB (mRF 22 ((nI e).toNatClampNeg)) 1) (mReq (mInB (1 : Int32) (mLn (mRF 22 ((nI e).toNatClampNeg)))) ((¬ (m (mRF 22 ((nI e).toNatClampNeg)) 1) = x → mWB l g d k_X12_isLane Φ 0 0 2 [.ref 0, .int x, .int y, .int ((nI e) + (1 : Int32))] [] m o 0 0) ∧ ((m (mRF 22 ((nI e).toNatClampNeg)) 1) = x → ((1 : Int32) = 0 ∨ (1 : Int32) = 1) ∧ Φ (.inl (some (.int (1 : Int32)))) m o ∧ 0 ≤ 0 ∧ 0 ≤ 0)))))))))))))))))
    have hf : ¬ nL A ≤ e := by omega
    simp (disch := omega) only [mReq_tt, nI_0a, nI_a0, nI_cl, mIn_ok, lit_add, lit_sub, add_lit, lit_le, le_lit, lit_lt, lt_lit, eq_lit, nI_add, nI_1, nI_leI, nI_ltI, nI_eq, mIn_lit, mIn_0, mIn_1, mIn_2, mIn_3, nI_l0, nI_p0, rf_22, rf_44, rf_60, rf_69, rf_391, rf_7, rf_37, rf_51, rf_230, rf_401, rf_413, rf_496, rf_513, rf_518, sB_2, sB_3, sB_4, sB_5, sB_6, sB_7, sL_2, sL_3, sL_4, sL_5, sL_6, sL_7, not_true_eq_false, not_false_eq_true, false_implies, true_implies, true_and, and_true, eq_self, true_or, or_true, Nat.le_refl, Nat.zero_add, Nat.add_zero, sB_2, sL_2, clA hm, hN.1, hf]
    have hk : ¬ LnE A x y e → mWB l g d k_X12_isLane Φ 0 0 2 [.ref 0, .int x, .int y, .int (nI (e + 1))] [] m o 0 0 := fun q => ih (fun j hj => by
      rcases Nat.lt_or_eq_of_le (Nat.le_of_lt_succ hj) with h | h
      · exact hb j h
      · rw [h]; exact q)
    have hr : LnE A x y e → Φ (.inl (some (.int 1))) m o := fun q => by
      rw [pI_t (show Ln A x y from ⟨e, he, q⟩)] at hΦ
      exact hΦ
    unfold LnE at hk hr
    grind
  · intro hb
    refine mGoOn (mOk (by decide)) rfl [2] 400 ?_
    show ((m 4 1) ≤ (nI (nL A)) → ((0 : Int32) = 0 ∨ (0 : Int32) = 1) ∧ Φ (.inl (some (.int (0 : Int32)))) m o ∧ 0 ≤ 0 ∧ 0 ≤ 0) ∧ (¬ (m 4 1) ≤ (nI (nL A)) → mReq (mInB (nI (nL A)) 14) (mReq (mIsB (mRF 22 ((nI (nL A)).toNatClampNeg)) 1) (mReq (mInB (0 : Int32) (mLn (mRF 22 ((nI (nL A)).toNatClampNeg)))) ((¬ (m (mRF 22 ((nI (nL A)).toNatClampNeg)) 0) = x → mReq (mInB (nI (nL A)) 14) (mReq (mIsB (mRF 22 ((nI (nL A)).toNatClampNeg)) 1) (mReq (mInB (0 : Int32) (mLn (mRF 22 ((nI (nL A)).toNatClampNeg)))) ((¬ (m (mRF 22 ((nI (nL A)).toNatClampNeg)) 0) = y → mWB l g d k_X12_isLane Φ 0 0 2 [.ref 0, .int x, .int y, .int ((nI (nL A)) + (1 : Int32))] [] m o 0 0) ∧ ((m (mRF 22 ((nI (nL A)).toNatClampNeg)) 0) = y → mReq (mInB (nI (nL A)) 14) (mReq (mIsB (mRF 22 ((nI (nL A)).toNatClampNeg)) 1) (mReq (mInB (1 : Int32) (mLn (mRF 22 ((nI (nL A)).toNatClampNeg)))) ((¬ (m (mRF 22 ((nI (nL A)).toNatClampNeg)) 1) = x → mWB l g d k_X12_isLane Φ 0 0 2 [.ref 0, .int x, .int y, .int ((nI (nL A)) + (1 : Int32))] [] m o 0 0) ∧ ((m (mRF 22 ((nI (nL A)).toNatClampNeg)) 1) = x → ((1 : Int32) = 0 ∨ (1 : Int32) = 1) ∧ Φ (.inl (some (.int (1 : Int32)))) m o ∧ 0 ≤ 0 ∧ 0 ≤ 0))))))))) ∧ ((m (mRF 22 ((nI (nL A)).toNatClampNeg)) 0) = x → mReq (mInB (nI (nL A)) 14) (mReq (mIsB (mRF 22 ((nI (nL A)).toNatClampNeg)) 1) (mReq (mInB (1 : Int32) (mLn (mRF 22 ((nI (nL A)).toNatClampNeg)))) (((m (mRF 22 ((nI (nL A)).toNatClampNeg)) 1) = y → ((1 : Int32) = 0 ∨ (1 : Int32) = 1) ∧ Φ (.inl (some (.int (1 : Int32)))) m o ∧ 0 ≤ 0 ∧ 0 ≤ 0) ∧ (¬ (m (mRF 22 ((nI (nL A)).toNatClampNeg)) 1) = y → mReq (mInB (nI (nL A)) 14) (mReq (mIsB (mRF 22 ((nI (nL A)).toNatClampNeg)) 1) (mReq (mInB (0 : Int32) (mLn (mRF 22 ((nI (nL A)).toNatClampNeg)))) ((¬ (m (mRF 22 ((nI (nL A)).toNatClampNeg)) 0) = y → mWB l g d k_X12_isLane Φ 0 0 2 [.ref 0, .int x, .int y, .int ((nI (nL A)) + (1 : Int32))] [] m o 0 0) ∧ ((m (mRF 22 ((nI (nL A)).toNatClampNeg)) 0) = y → mReq (mInB (nI (nL A)) 14) (mReq (mIsB (mRF 22 ((nI (nL A)).toNatClampNeg)) 1) (mReq (mInB (1 : Int32) (mLn (mRF 22 ((nI (nL A)).toNatClampNeg)))) ((¬ (m (mRF 22 ((nI (nL A)).toNatClampNeg)) 1) = x → mWB l g d k_X12_isLane Φ 0 0 2 [.ref 0, .int x, .int y, .int ((nI (nL A)) + (1 : Int32))] [] m o 0 0) ∧ ((m (mRF 22 ((nI (nL A)).toNatClampNeg)) 1) = x → ((1 : Int32) = 0 ∨ (1 : Int32) = 1) ∧ Φ (.inl (some (.int (1 : Int32)))) m o ∧ 0 ≤ 0 ∧ 0 ≤ 0)))))))))))))))))
    simp (disch := omega) only [mReq_tt, nI_0a, nI_a0, nI_cl, mIn_ok, lit_add, lit_sub, add_lit, lit_le, le_lit, lit_lt, lt_lit, eq_lit, nI_add, nI_1, nI_leI, nI_ltI, nI_eq, mIn_lit, mIn_0, mIn_1, mIn_2, mIn_3, nI_l0, nI_p0, rf_22, rf_44, rf_60, rf_69, rf_391, rf_7, rf_37, rf_51, rf_230, rf_401, rf_413, rf_496, rf_513, rf_518, sB_2, sB_3, sB_4, sB_5, sB_6, sB_7, sL_2, sL_3, sL_4, sL_5, sL_6, sL_7, not_true_eq_false, not_false_eq_true, false_implies, true_implies, true_and, and_true, eq_self, true_or, or_true, Nat.le_refl, Nat.zero_add, Nat.add_zero, clA hm, hN.1]
    rw [pI_f (show ¬ Ln A x y from fun ⟨e, he, q⟩ => hb e he q)] at hΦ
    exact hΦ
end R5
