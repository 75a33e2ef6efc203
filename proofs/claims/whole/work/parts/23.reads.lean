/-! THE REFERENCE'S METHODS THAT ONLY READ -/
def rowB (r : Nat) : Prop := mIsB r 1 = true ∧ mLn r = 37
theorem row_494 : rowB 494 := ⟨rfl, rfl⟩
theorem row_495 : rowB 495 := ⟨rfl, rfl⟩
theorem nI_toI {x : Int32} {n : Nat} (h : x = nI n) (hn : n < 2 ^ 31) : x.toInt = (n : Int) := by rw [h]; exact nI_toInt hn
section R6
variable {l : Launch} {g : mG} {d : Nat} {A : Mm}
theorem r_upIn (hA : CtB A) {m : Mm} (hm : cl m = A) {r : Nat} (hr : rowB r) : mFi l g d k_X12_upIn [.ref 0, .ref r] m (msk (fun k => m r (12 + k) = 0) (nM A)) m := by
  have hN := hA.2.2.1
  refine nFi 2 rfl rfl rfl (by decide) rfl (fun htr o Φ hΦ => mGoOn (mOk (by decide)) rfl [4] 400 ?_)
  show mWB l g d k_X12_upIn Φ 0 0 4 [.ref 0, .ref r, .int (0 : Int32), .int (0 : Int32)] [] m o 0 0
  refine mLoopZ (P := fun k => mWB l g d k_X12_upIn Φ 0 0 4 [.ref 0, .ref r, .int (msk (fun k => m r (12 + k) = 0) k), .int (nI k)] [] m o 0 0) (N := nM A) (mGoOn (mOk (by decide)) rfl [4] 400 ?_) (fun k hi ih => mGoOn (mOk (by decide)) rfl [4] 400 ?_)
  · show ((m 4 2) ≤ (nI (nM A)) → Φ (.inl (some (.int (msk (fun k => m r (12 + k) = 0) (nM A))))) m o ∧ 0 ≤ 0 ∧ 0 ≤ 0) ∧ (¬ (m 4 2) ≤ (nI (nM A)) → mReq (mIsB r 1) (mReq (mInB ((12 : Int32) + (nI (nM A))) (mLn r)) ((¬ (m r (((12 : Int32) + (nI (nM A))).toNatClampNeg)) = 0 → mWB l g d k_X12_upIn Φ 0 0 4 [.ref 0, .ref r, .int ((msk (fun k => m r (12 + k) = 0) (nM A)) ||| (0 : Int32)), .int ((nI (nM A)) + (1 : Int32))] [] m o 0 0) ∧ ((m r (((12 : Int32) + (nI (nM A))).toNatClampNeg)) = 0 → mWB l g d k_X12_upIn Φ 0 0 4 [.ref 0, .ref r, .int ((msk (fun k => m r (12 + k) = 0) (nM A)) ||| (jshl (1 : Int32) (nI (nM A)))), .int ((nI (nM A)) + (1 : Int32))] [] m o 0 0))))
    simp (disch := omega) only [mReq_tt, nI_0a, nI_a0, nI_cl, mIn_ok, lit_add, lit_sub, add_lit, lit_le, le_lit, lit_lt, lt_lit, eq_lit, nI_add, nI_1, nI_leI, nI_ltI, nI_eq, mIn_lit, mIn_0, mIn_1, mIn_2, mIn_3, nI_l0, nI_p0, rf_22, rf_44, rf_60, rf_69, rf_391, rf_7, rf_37, rf_51, rf_230, rf_401, rf_413, rf_496, rf_513, rf_518, sB_2, sB_3, sB_4, sB_5, sB_6, sB_7, sL_2, sL_3, sL_4, sL_5, sL_6, sL_7, not_true_eq_false, not_false_eq_true, false_implies, true_implies, true_and, and_true, eq_self, true_or, or_true, Nat.le_refl, Nat.zero_add, Nat.add_zero, clA hm, hN.1, hr.1, hr.2]
    exact hΦ
  show ((m 4 2) ≤ (nI k) → Φ (.inl (some (.int (msk (fun k => m r (12 + k) = 0) k)))) m o ∧ 0 ≤ 0 ∧ 0 ≤ 0) ∧ (¬ (m 4 2) ≤ (nI k) → mReq (mIsB r 1) (mReq (mInB ((12 : Int32) + (nI k)) (mLn r)) ((¬ (m r (((12 : Int32) + (nI k)).toNatClampNeg)) = 0 → mWB l g d k_X12_upIn Φ 0 0 4 [.ref 0, .ref r, .int ((msk (fun k => m r (12 + k) = 0) k) ||| (0 : Int32)), .int ((nI k) + (1 : Int32))] [] m o 0 0) ∧ ((m r (((12 : Int32) + (nI k)).toNatClampNeg)) = 0 → mWB l g d k_X12_upIn Φ 0 0 4 [.ref 0, .ref r, .int ((msk (fun k => m r (12 + k) = 0) k) ||| (jshl (1 : Int32) (nI k))), .int ((nI k) + (1 : Int32))] [] m o 0 0))))
  have hf : ¬ nM A ≤ k := by omega
  simp (disch := omega) only [mReq_tt, nI_0a, nI_a0, nI_cl, mIn_ok, lit_add, lit_sub, add_lit, lit_le, le_lit, lit_lt, lt_lit, eq_lit, nI_add, nI_1, nI_leI, nI_ltI, nI_eq, mIn_lit, mIn_0, mIn_1, mIn_2, mIn_3, nI_l0, nI_p0, rf_22, rf_44, rf_60, rf_69, rf_391, rf_7, rf_37, rf_51, rf_230, rf_401, rf_413, rf_496, rf_513, rf_518, sB_2, sB_3, sB_4, sB_5, sB_6, sB_7, sL_2, sL_3, sL_4, sL_5, sL_6, sL_7, not_true_eq_false, not_false_eq_true, false_implies, true_implies, true_and, and_true, eq_self, true_or, or_true, Nat.le_refl, Nat.zero_add, Nat.add_zero, clA hm, hN.1, hr.1, hr.2, hf]
  exact ⟨fun h => by rw [or_zero]; rw [msk_f h] at ih; exact ih, fun h => by rw [msk_t h] at ih; exact ih⟩
theorem r_awakeIn (hA : CtB A) {m : Mm} (hm : cl m = A) {r : Nat} (hr : rowB r) : mFi l g d k_X12_awakeIn [.ref 0, .ref r] m (msk (fun k => m r (27 + k) = 1) (nP A)) m := by
  have hN := hA.2.2.2
  refine nFi 2 rfl rfl rfl (by decide) rfl (fun htr o Φ hΦ => mGoOn (mOk (by decide)) rfl [4] 400 ?_)
  show mWB l g d k_X12_awakeIn Φ 0 0 4 [.ref 0, .ref r, .int (0 : Int32), .int (0 : Int32)] [] m o 0 0
  refine mLoopZ (P := fun k => mWB l g d k_X12_awakeIn Φ 0 0 4 [.ref 0, .ref r, .int (msk (fun k => m r (27 + k) = 1) k), .int (nI k)] [] m o 0 0) (N := nP A) (mGoOn (mOk (by decide)) rfl [4] 400 ?_) (fun k hi ih => mGoOn (mOk (by decide)) rfl [4] 400 ?_)
  · show ((m 4 3) ≤ (nI (nP A)) → Φ (.inl (some (.int (msk (fun k => m r (27 + k) = 1) (nP A))))) m o ∧ 0 ≤ 0 ∧ 0 ≤ 0) ∧ (¬ (m 4 3) ≤ (nI (nP A)) → mReq (mIsB r 1) (mReq (mInB ((27 : Int32) + (nI (nP A))) (mLn r)) ((¬ (m r (((27 : Int32) + (nI (nP A))).toNatClampNeg)) = (1 : Int32) → mWB l g d k_X12_awakeIn Φ 0 0 4 [.ref 0, .ref r, .int ((msk (fun k => m r (27 + k) = 1) (nP A)) ||| (0 : Int32)), .int ((nI (nP A)) + (1 : Int32))] [] m o 0 0) ∧ ((m r (((27 : Int32) + (nI (nP A))).toNatClampNeg)) = (1 : Int32) → mWB l g d k_X12_awakeIn Φ 0 0 4 [.ref 0, .ref r, .int ((msk (fun k => m r (27 + k) = 1) (nP A)) ||| (jshl (1 : Int32) (nI (nP A)))), .int ((nI (nP A)) + (1 : Int32))] [] m o 0 0))))
    simp (disch := omega) only [mReq_tt, nI_0a, nI_a0, nI_cl, mIn_ok, lit_add, lit_sub, add_lit, lit_le, le_lit, lit_lt, lt_lit, eq_lit, nI_add, nI_1, nI_leI, nI_ltI, nI_eq, mIn_lit, mIn_0, mIn_1, mIn_2, mIn_3, nI_l0, nI_p0, rf_22, rf_44, rf_60, rf_69, rf_391, rf_7, rf_37, rf_51, rf_230, rf_401, rf_413, rf_496, rf_513, rf_518, sB_2, sB_3, sB_4, sB_5, sB_6, sB_7, sL_2, sL_3, sL_4, sL_5, sL_6, sL_7, not_true_eq_false, not_false_eq_true, false_implies, true_implies, true_and, and_true, eq_self, true_or, or_true, Nat.le_refl, Nat.zero_add, Nat.add_zero, clA hm, hN.1, hr.1, hr.2]
    exact hΦ
  show ((m 4 3) ≤ (nI k) → Φ (.inl (some (.int (msk (fun k => m r (27 + k) = 1) k)))) m o ∧ 0 ≤ 0 ∧ 0 ≤ 0) ∧ (¬ (m 4 3) ≤ (nI k) → mReq (mIsB r 1) (mReq (mInB ((27 : Int32) + (nI k)) (mLn r)) ((¬ (m r (((27 : Int32) + (nI k)).toNatClampNeg)) = (1 : Int32) → mWB l g d k_X12_awakeIn Φ 0 0 4 [.ref 0, .ref r, .int ((msk (fun k => m r (27 + k) = 1) k) ||| (0 : Int32)), .int ((nI k) + (1 : Int32))] [] m o 0 0) ∧ ((m r (((27 : Int32) + (nI k)).toNatClampNeg)) = (1 : Int32) → mWB l g d k_X12_awakeIn Φ 0 0 4 [.ref 0, .ref r, .int ((msk (fun k => m r (27 + k) = 1) k) ||| (jshl (1 : Int32) (nI k))), .int ((nI k) + (1 : Int32))] [] m o 0 0))))
  have hf : ¬ nP A ≤ k := by omega
  simp (disch := omega) only [mReq_tt, nI_0a, nI_a0, nI_cl, mIn_ok, lit_add, lit_sub, add_lit, lit_le, le_lit, lit_lt, lt_lit, eq_lit, nI_add, nI_1, nI_leI, nI_ltI, nI_eq, mIn_lit, mIn_0, mIn_1, mIn_2, mIn_3, nI_l0, nI_p0, rf_22, rf_44, rf_60, rf_69, rf_391, rf_7, rf_37, rf_51, rf_230, rf_401, rf_413, rf_496, rf_513, rf_518, sB_2, sB_3, sB_4, sB_5, sB_6, sB_7, sL_2, sL_3, sL_4, sL_5, sL_6, sL_7, not_true_eq_false, not_false_eq_true, false_implies, true_implies, true_and, and_true, eq_self, true_or, or_true, Nat.le_refl, Nat.zero_add, Nat.add_zero, clA hm, hN.1, hr.1, hr.2, hf]
  exact ⟨fun h => by rw [or_zero]; rw [msk_f h] at ih; exact ih, fun h => by rw [msk_t h] at ih; exact ih⟩
theorem r_othersIn (hA : CtB A) {m : Mm} (hm : cl m = A) {r : Nat} (hr : rowB r) (x s : Int32) : mFi l g d k_X12_othersIn [.ref 0, .ref r, .int x, .int s] m (nI (cnt (fun k => nI k ≠ x ∧ m r k = s ∧ m r (12 + k) = 0) (nM A))) m := by
  have hN := hA.2.2.1
  refine nFi 2 rfl rfl rfl (by decide) rfl (fun htr o Φ hΦ => mGoOn (mOk (by decide)) rfl [6] 400 ?_)
  show mWB l g d k_X12_othersIn Φ 0 0 6 [.ref 0, .ref r, .int x, .int s, .int (0 : Int32), .int (0 : Int32)] [] m o 0 0
  refine mLoopZ (P := fun k => mWB l g d k_X12_othersIn Φ 0 0 6 [.ref 0, .ref r, .int x, .int s, .int (nI (cnt (fun k => nI k ≠ x ∧ m r k = s ∧ m r (12 + k) = 0) k)), .int (nI k)] [] m o 0 0) (N := nM A) (mGoOn (mOk (by decide)) rfl [6] 400 ?_) (fun k hi ih => mGoOn (mOk (by decide)) rfl [6] 400 ?_)
  · show ((m 4 2) ≤ (nI (nM A)) → Φ (.inl (some (.int (nI (cnt (fun k => nI k ≠ x ∧ m r k = s ∧ m r (12 + k) = 0) (nM A)))))) m o ∧ 0 ≤ 0 ∧ 0 ≤ 0) ∧ (¬ (m 4 2) ≤ (nI (nM A)) → ((nI (nM A)) = x → mWB l g d k_X12_othersIn Φ 0 0 6 [.ref 0, .ref r, .int x, .int s, .int ((nI (cnt (fun k => nI k ≠ x ∧ m r k = s ∧ m r (12 + k) = 0) (nM A))) + (0 : Int32)), .int ((nI (nM A)) + (1 : Int32))] [] m o 0 0) ∧ (¬ (nI (nM A)) = x → mReq (mIsB r 1) (mReq (mInB ((0 : Int32) + (nI (nM A))) (mLn r)) ((¬ (m r (((0 : Int32) + (nI (nM A))).toNatClampNeg)) = s → mWB l g d k_X12_othersIn Φ 0 0 6 [.ref 0, .ref r, .int x, .int s, .int ((nI (cnt (fun k => nI k ≠ x ∧ m r k = s ∧ m r (12 + k) = 0) (nM A))) + (0 : Int32)), .int ((nI (nM A)) + (1 : Int32))] [] m o 0 0) ∧ ((m r (((0 : Int32) + (nI (nM A))).toNatClampNeg)) = s → mReq (mIsB r 1) (mReq (mInB ((12 : Int32) + (nI (nM A))) (mLn r)) ((¬ (m r (((12 : Int32) + (nI (nM A))).toNatClampNeg)) = 0 → mWB l g d k_X12_othersIn Φ 0 0 6 [.ref 0, .ref r, .int x, .int s, .int ((nI (cnt (fun k => nI k ≠ x ∧ m r k = s ∧ m r (12 + k) = 0) (nM A))) + (0 : Int32)), .int ((nI (nM A)) + (1 : Int32))] [] m o 0 0) ∧ ((m r (((12 : Int32) + (nI (nM A))).toNatClampNeg)) = 0 → mWB l g d k_X12_othersIn Φ 0 0 6 [.ref 0, .ref r, .int x, .int s, .int ((nI (cnt (fun k => nI k ≠ x ∧ m r k = s ∧ m r (12 + k) = 0) (nM A))) + (1 : Int32)), .int ((nI (nM A)) + (1 : Int32))] [] m o 0 0))))))))
    simp (disch := omega) only [mReq_tt, nI_0a, nI_a0, nI_cl, mIn_ok, lit_add, lit_sub, add_lit, lit_le, le_lit, lit_lt, lt_lit, eq_lit, nI_add, nI_1, nI_leI, nI_ltI, nI_eq, mIn_lit, mIn_0, mIn_1, mIn_2, mIn_3, nI_l0, nI_p0, rf_22, rf_44, rf_60, rf_69, rf_391, rf_7, rf_37, rf_51, rf_230, rf_401, rf_413, rf_496, rf_513, rf_518, sB_2, sB_3, sB_4, sB_5, sB_6, sB_7, sL_2, sL_3, sL_4, sL_5, sL_6, sL_7, not_true_eq_false, not_false_eq_true, false_implies, true_implies, true_and, and_true, eq_self, true_or, or_true, Nat.le_refl, Nat.zero_add, Nat.add_zero, clA hm, hN.1, hr.1, hr.2]
    exact hΦ
  show ((m 4 2) ≤ (nI k) → Φ (.inl (some (.int (nI (cnt (fun k => nI k ≠ x ∧ m r k = s ∧ m r (12 + k) = 0) k))))) m o ∧ 0 ≤ 0 ∧ 0 ≤ 0) ∧ (¬ (m 4 2) ≤ (nI k) → ((nI k) = x → mWB l g d k_X12_othersIn Φ 0 0 6 [.ref 0, .ref r, .int x, .int s, .int ((nI (cnt (fun k => nI k ≠ x ∧ m r k = s ∧ m r (12 + k) = 0) k)) + (0 : Int32)), .int ((nI k) + (1 : Int32))] [] m o 0 0) ∧ (¬ (nI k) = x → mReq (mIsB r 1) (mReq (mInB ((0 : Int32) + (nI k)) (mLn r)) ((¬ (m r (((0 : Int32) + (nI k)).toNatClampNeg)) = s → mWB l g d k_X12_othersIn Φ 0 0 6 [.ref 0, .ref r, .int x, .int s, .int ((nI (cnt (fun k => nI k ≠ x ∧ m r k = s ∧ m r (12 + k) = 0) k)) + (0 : Int32)), .int ((nI k) + (1 : Int32))] [] m o 0 0) ∧ ((m r (((0 : Int32) + (nI k)).toNatClampNeg)) = s → mReq (mIsB r 1) (mReq (mInB ((12 : Int32) + (nI k)) (mLn r)) ((¬ (m r (((12 : Int32) + (nI k)).toNatClampNeg)) = 0 → mWB l g d k_X12_othersIn Φ 0 0 6 [.ref 0, .ref r, .int x, .int s, .int ((nI (cnt (fun k => nI k ≠ x ∧ m r k = s ∧ m r (12 + k) = 0) k)) + (0 : Int32)), .int ((nI k) + (1 : Int32))] [] m o 0 0) ∧ ((m r (((12 : Int32) + (nI k)).toNatClampNeg)) = 0 → mWB l g d k_X12_othersIn Φ 0 0 6 [.ref 0, .ref r, .int x, .int s, .int ((nI (cnt (fun k => nI k ≠ x ∧ m r k = s ∧ m r (12 + k) = 0) k)) + (1 : Int32)), .int ((nI k) + (1 : Int32))] [] m o 0 0))))))))
  have hf : ¬ nM A ≤ k := by omega
  simp (disch := omega) only [mReq_tt, nI_0a, nI_a0, nI_cl, mIn_ok, lit_add, lit_sub, add_lit, lit_le, le_lit, lit_lt, lt_lit, eq_lit, nI_add, nI_1, nI_leI, nI_ltI, nI_eq, mIn_lit, mIn_0, mIn_1, mIn_2, mIn_3, nI_l0, nI_p0, rf_22, rf_44, rf_60, rf_69, rf_391, rf_7, rf_37, rf_51, rf_230, rf_401, rf_413, rf_496, rf_513, rf_518, sB_2, sB_3, sB_4, sB_5, sB_6, sB_7, sL_2, sL_3, sL_4, sL_5, sL_6, sL_7, not_true_eq_false, not_false_eq_true, false_implies, true_implies, true_and, and_true, eq_self, true_or, or_true, Nat.le_refl, Nat.zero_add, Nat.add_zero, clA hm, hN.1, hr.1, hr.2, hf]
  have h1 : ¬ (nI k ≠ x ∧ m r k = s ∧ m r (12 + k) = 0) → mWB l g d k_X12_othersIn Φ 0 0 6 [.ref 0, .ref r, .int x, .int s, .int (nI (cnt (fun k => nI k ≠ x ∧ m r k = s ∧ m r (12 + k) = 0) k)), .int (nI (k + 1))] [] m o 0 0 := fun h => by
    rw [cnt_f h] at ih; exact ih
  have h2 : (nI k ≠ x ∧ m r k = s ∧ m r (12 + k) = 0) → mWB l g d k_X12_othersIn Φ 0 0 6 [.ref 0, .ref r, .int x, .int s, .int (nI (cnt (fun k => nI k ≠ x ∧ m r k = s ∧ m r (12 + k) = 0) k + 1)), .int (nI (k + 1))] [] m o 0 0 := fun h => by
    rw [cnt_t h] at ih; exact ih
  repeat' (first | refine ⟨fun _ => ?_, fun _ => ?_⟩ | fail)
  all_goals first | exact h1 (by simp [*]) | exact h2 (by simp [*])
end R6
theorem in_In {s : Int32} {n : Nat} (hn : n < 2 ^ 31) : (0 ≤ s ∧ s ≤ nI n - 1) ↔ In s n := by
  unfold In
  have h1 : (nI n - 1).toInt = (n : Int) - 1 := by
    rw [Int32.toInt_sub, nI_toInt (by omega)]
    show ((n : Int) - 1).bmod (2 ^ 32) = _
    rw [Int.bmod_eq_of_le_mul_two] <;> omega
  constructor
  · rintro ⟨h2, h3⟩
    rw [fa_le] at h2 h3
    have h2 : 0 ≤ s.toInt := h2
    rw [h1] at h3
    refine ⟨s.toInt.toNat, by omega, ?_⟩
    rw [fa_eq, nI_toInt (by omega)]
    omega
  · rintro ⟨k, hk, rfl⟩
    refine ⟨nI_pos' (by omega), ?_⟩
    rw [fa_le, h1, nI_toInt (by omega)]
    omega
section R7
variable {l : Launch} {g : mG} {d : Nat} {A : Mm}
theorem r_isStreet (hA : CtB A) {m : Mm} (hm : cl m = A) (hd : 1 ≤ d) (s : Int32) : mFi l g d k_X12_isStreet [.ref 0, .int s] m (pI (In s (nS A))) m := by
  have hN := hA.1
  refine nFi 0 rfl rfl rfl (by decide) rfl (fun htr o Φ hΦ => mGoOn (mOk (by decide)) rfl [] 400 ?_)
  show mCal l g d k_X12_isStreet Φ 0 0 _ 10 k_X12_in false [.int s, .int (0 : Int32), .int ((m 4 0) - (1 : Int32))] [] [.ref 0, .int s] m o 0 0 1
  refine fCi htr (q_in _ _ _ _) hd ?_
  rw [clA hm 0 (by omega), hN.1, in_In (by omega)]
  show ((pI (In s (nS A))) = 0 ∨ (pI (In s (nS A))) = 1) ∧ Φ (.inl (some (.int (pI (In s (nS A)))))) m o ∧ 0 ≤ 0 ∧ 0 ≤ 0
  exact eB hΦ (pI_01 _) rfl rfl
theorem r_isMan (hA : CtB A) {m : Mm} (hm : cl m = A) (hd : 1 ≤ d) (s : Int32) : mFi l g d k_X12_isMan [.ref 0, .int s] m (pI (In s (nM A))) m := by
  have hN := hA.2.2.1
  refine nFi 0 rfl rfl rfl (by decide) rfl (fun htr o Φ hΦ => mGoOn (mOk (by decide)) rfl [] 400 ?_)
  show mCal l g d k_X12_isMan Φ 0 0 _ 10 k_X12_in false [.int s, .int (0 : Int32), .int ((m 4 2) - (1 : Int32))] [] [.ref 0, .int s] m o 0 0 1
  refine fCi htr (q_in _ _ _ _) hd ?_
  rw [clA hm 2 (by omega), hN.1, in_In (by omega)]
  show ((pI (In s (nM A))) = 0 ∨ (pI (In s (nM A))) = 1) ∧ Φ (.inl (some (.int (pI (In s (nM A)))))) m o ∧ 0 ≤ 0 ∧ 0 ≤ 0
  exact eB hΦ (pI_01 _) rfl rfl
theorem in_23 (s : Int32) : (0 ≤ s ∧ s ≤ 23) ↔ In s 24 := in_In (n := 24) (by omega)
theorem r_isHour {m : Mm} (hd : 1 ≤ d) (s : Int32) : mFi l g d k_X12_isHour [.int s] m (pI (In s 24)) m := by
  refine nFi 0 rfl rfl rfl (by decide) rfl (fun htr o Φ hΦ => mGoOn (mOk (by decide)) rfl [] 400 ?_)
  show mCal l g d k_X12_isHour Φ 0 0 _ 4 k_X12_in false [.int s, .int (0 : Int32), .int (23 : Int32)] [] [.int s] m o 0 0 1
  refine fCi htr (q_in _ _ _ _) hd ?_
  rw [in_23]
  show ((pI (In s 24)) = 0 ∨ (pI (In s 24)) = 1) ∧ Φ (.inl (some (.int (pI (In s 24))))) m o ∧ 0 ≤ 0 ∧ 0 ≤ 0
  exact eB hΦ (pI_01 _) rfl rfl
theorem r_all (hA : CtB A) {m : Mm} (hm : cl m = A) : mFi l g d k_X12_all [.ref 0] m (jshl 1 (nI (nS A)) - 1) m := by
  have hN := hA.1
  refine nFi 0 rfl rfl rfl (by decide) rfl (fun htr o Φ hΦ => mGoOn (mOk (by decide)) rfl [] 400 ?_)
  show Φ (.inl (some (.int ((jshl (1 : Int32) (m 4 0)) - (1 : Int32))))) m o ∧ 0 ≤ 0 ∧ 0 ≤ 0
  rw [clA hm 0 (by omega), hN.1]
  exact eI hΦ rfl rfl
theorem r_soundsOf (hA : CtB A) {m : Mm} (hm : cl m = A) (h : Int32) : mFi l g d k_X12_soundsOf [.ref 0, .int h] m (msk (fun k => A 494 (18 + k) = h) (nS A)) m := by
  have hN := hA.1
  refine nFi 2 rfl rfl rfl (by decide) rfl (fun htr o Φ hΦ => mGoOn (mOk (by decide)) rfl [4] 400 ?_)
  show mWB l g d k_X12_soundsOf Φ 0 0 4 [.ref 0, .int h, .int (0 : Int32), .int (0 : Int32)] [] m o 0 0
  refine mLoopZ (P := fun k => mWB l g d k_X12_soundsOf Φ 0 0 4 [.ref 0, .int h, .int (msk (fun k => A 494 (18 + k) = h) k), .int (nI k)] [] m o 0 0) (N := nS A) (mGoOn (mOk (by decide)) rfl [4] 400 ?_) (fun k hi ih => mGoOn (mOk (by decide)) rfl [4] 400 ?_)
  · show ((m 4 0) ≤ (nI (nS A)) → Φ (.inl (some (.int (msk (fun k => A 494 (18 + k) = h) (nS A))))) m o ∧ 0 ≤ 0 ∧ 0 ≤ 0) ∧ (¬ (m 4 0) ≤ (nI (nS A)) → mReq (mInB ((18 : Int32) + (nI (nS A))) 37) ((¬ (m 494 (((18 : Int32) + (nI (nS A))).toNatClampNeg)) = h → mWB l g d k_X12_soundsOf Φ 0 0 4 [.ref 0, .int h, .int ((msk (fun k => A 494 (18 + k) = h) (nS A)) ||| (0 : Int32)), .int ((nI (nS A)) + (1 : Int32))] [] m o 0 0) ∧ ((m 494 (((18 : Int32) + (nI (nS A))).toNatClampNeg)) = h → mWB l g d k_X12_soundsOf Φ 0 0 4 [.ref 0, .int h, .int ((msk (fun k => A 494 (18 + k) = h) (nS A)) ||| (jshl (1 : Int32) (nI (nS A)))), .int ((nI (nS A)) + (1 : Int32))] [] m o 0 0)))
    simp (disch := omega) only [mReq_tt, nI_0a, nI_a0, nI_cl, mIn_ok, lit_add, lit_sub, add_lit, lit_le, le_lit, lit_lt, lt_lit, eq_lit, nI_add, nI_1, nI_leI, nI_ltI, nI_eq, mIn_lit, mIn_0, mIn_1, mIn_2, mIn_3, nI_l0, nI_p0, rf_22, rf_44, rf_60, rf_69, rf_391, rf_7, rf_37, rf_51, rf_230, rf_401, rf_413, rf_496, rf_513, rf_518, sB_2, sB_3, sB_4, sB_5, sB_6, sB_7, sL_2, sL_3, sL_4, sL_5, sL_6, sL_7, not_true_eq_false, not_false_eq_true, false_implies, true_implies, true_and, and_true, eq_self, true_or, or_true, Nat.le_refl, Nat.zero_add, Nat.add_zero, clA hm, hN.1]
    exact hΦ
  show ((m 4 0) ≤ (nI k) → Φ (.inl (some (.int (msk (fun k => A 494 (18 + k) = h) k)))) m o ∧ 0 ≤ 0 ∧ 0 ≤ 0) ∧ (¬ (m 4 0) ≤ (nI k) → mReq (mInB ((18 : Int32) + (nI k)) 37) ((¬ (m 494 (((18 : Int32) + (nI k)).toNatClampNeg)) = h → mWB l g d k_X12_soundsOf Φ 0 0 4 [.ref 0, .int h, .int ((msk (fun k => A 494 (18 + k) = h) k) ||| (0 : Int32)), .int ((nI k) + (1 : Int32))] [] m o 0 0) ∧ ((m 494 (((18 : Int32) + (nI k)).toNatClampNeg)) = h → mWB l g d k_X12_soundsOf Φ 0 0 4 [.ref 0, .int h, .int ((msk (fun k => A 494 (18 + k) = h) k) ||| (jshl (1 : Int32) (nI k))), .int ((nI k) + (1 : Int32))] [] m o 0 0)))
  have hf : ¬ nS A ≤ k := by omega
  simp (disch := omega) only [mReq_tt, nI_0a, nI_a0, nI_cl, mIn_ok, lit_add, lit_sub, add_lit, lit_le, le_lit, lit_lt, lt_lit, eq_lit, nI_add, nI_1, nI_leI, nI_ltI, nI_eq, mIn_lit, mIn_0, mIn_1, mIn_2, mIn_3, nI_l0, nI_p0, rf_22, rf_44, rf_60, rf_69, rf_391, rf_7, rf_37, rf_51, rf_230, rf_401, rf_413, rf_496, rf_513, rf_518, sB_2, sB_3, sB_4, sB_5, sB_6, sB_7, sL_2, sL_3, sL_4, sL_5, sL_6, sL_7, not_true_eq_false, not_false_eq_true, false_implies, true_implies, true_and, and_true, eq_self, true_or, or_true, Nat.le_refl, Nat.zero_add, Nat.add_zero, clA hm, hN.1, hf]
  exact ⟨fun h => by rw [or_zero]; rw [msk_f h] at ih; exact ih, fun h => by rw [msk_t h] at ih; exact ih⟩
theorem r_lanesOf (hA : CtB A) {m : Mm} (hm : cl m = A) (hd : 1 ≤ d) (x : Int32) : mFi l g d k_X12_lanesOf [.ref 0, .int x] m (msk (fun k => Ln A x (nI k)) (nS A)) m := by
  have hN := hA.1
  refine nFi 2 rfl rfl rfl (by decide) rfl (fun htr o Φ hΦ => mGoOn (mOk (by decide)) rfl [4] 400 ?_)
  show mWB l g d k_X12_lanesOf Φ 0 0 4 [.ref 0, .int x, .int (0 : Int32), .int (0 : Int32)] [] m o 0 0
  refine mLoopZ (P := fun k => mWB l g d k_X12_lanesOf Φ 0 0 4 [.ref 0, .int x, .int (msk (fun k => Ln A x (nI k)) k), .int (nI k)] [] m o 0 0) (N := nS A) (mGoOn (mOk (by decide)) rfl [4] 400 ?_) (fun k hi ih => mGoOn (mOk (by decide)) rfl [4] 400 ?_)
  · show ((m 4 0) ≤ (nI (nS A)) → Φ (.inl (some (.int (msk (fun k => Ln A x (nI k)) (nS A))))) m o ∧ 0 ≤ 0 ∧ 0 ≤ 0) ∧ (¬ (m 4 0) ≤ (nI (nS A)) → True ∧ mCal l g d k_X12_lanesOf Φ 0 0 _ 18 k_X12_isLane false [.ref 0, .int x, .int (nI (nS A))] [.int (msk (fun k => Ln A x (nI k)) (nS A))] [.ref 0, .int x, .int (msk (fun k => Ln A x (nI k)) (nS A)), .int (nI (nS A))] m o 0 0 1)
    simp (disch := omega) only [mReq_tt, nI_0a, nI_a0, nI_cl, mIn_ok, lit_add, lit_sub, add_lit, lit_le, le_lit, lit_lt, lt_lit, eq_lit, nI_add, nI_1, nI_leI, nI_ltI, nI_eq, mIn_lit, mIn_0, mIn_1, mIn_2, mIn_3, nI_l0, nI_p0, rf_22, rf_44, rf_60, rf_69, rf_391, rf_7, rf_37, rf_51, rf_230, rf_401, rf_413, rf_496, rf_513, rf_518, sB_2, sB_3, sB_4, sB_5, sB_6, sB_7, sL_2, sL_3, sL_4, sL_5, sL_6, sL_7, not_true_eq_false, not_false_eq_true, false_implies, true_implies, true_and, and_true, eq_self, true_or, or_true, Nat.le_refl, Nat.zero_add, Nat.add_zero, clA hm, hN.1]
    exact hΦ
  show ((m 4 0) ≤ (nI k) → Φ (.inl (some (.int (msk (fun k => Ln A x (nI k)) k)))) m o ∧ 0 ≤ 0 ∧ 0 ≤ 0) ∧ (¬ (m 4 0) ≤ (nI k) → True ∧ mCal l g d k_X12_lanesOf Φ 0 0 _ 18 k_X12_isLane false [.ref 0, .int x, .int (nI k)] [.int (msk (fun k => Ln A x (nI k)) k)] [.ref 0, .int x, .int (msk (fun k => Ln A x (nI k)) k), .int (nI k)] m o 0 0 1)
  have hf : ¬ nS A ≤ k := by omega
  simp (disch := omega) only [mReq_tt, nI_0a, nI_a0, nI_cl, mIn_ok, lit_add, lit_sub, add_lit, lit_le, le_lit, lit_lt, lt_lit, eq_lit, nI_add, nI_1, nI_leI, nI_ltI, nI_eq, mIn_lit, mIn_0, mIn_1, mIn_2, mIn_3, nI_l0, nI_p0, rf_22, rf_44, rf_60, rf_69, rf_391, rf_7, rf_37, rf_51, rf_230, rf_401, rf_413, rf_496, rf_513, rf_518, sB_2, sB_3, sB_4, sB_5, sB_6, sB_7, sL_2, sL_3, sL_4, sL_5, sL_6, sL_7, not_true_eq_false, not_false_eq_true, false_implies, true_implies, true_and, and_true, eq_self, true_or, or_true, Nat.le_refl, Nat.zero_add, Nat.add_zero, clA hm, hN.1, hf]
  refine fCi htr (r_isLane hA hm _ _) hd ?_
  show ((pI (Ln A x (nI k))) = 0 → mWB l g d k_X12_lanesOf Φ 0 0 4 [.ref 0, .int x, .int ((msk (fun k => Ln A x (nI k)) k) ||| (0 : Int32)), .int ((nI k) + (1 : Int32))] [] m o 0 0) ∧ (¬ (pI (Ln A x (nI k))) = 0 → mWB l g d k_X12_lanesOf Φ 0 0 4 [.ref 0, .int x, .int ((msk (fun k => Ln A x (nI k)) k) ||| (jshl (1 : Int32) (nI k))), .int ((nI k) + (1 : Int32))] [] m o 0 0)
  rw [nI_1]
  exact ⟨fun h => by rw [or_zero]; rw [msk_f (pI_0.mp h)] at ih; exact ih, fun h => by rw [msk_t (pI_1.mp h)] at ih; exact ih⟩
theorem one_nI (x : Int32) {k : Nat} (hk : k < 32) (c : Nat) : nI c + (jshr x (nI k) &&& 1) = nI (ifp (hB x k) (c + 1) c) := by
  by_cases h : hB x k
  · rw [ifp_t h, (hB_has hk).mpr h, nI_1]
  · rw [ifp_f h]
    have h0 : jshr x (nI k) &&& 1 = 0 := by
      have h1 := fun q => h ((hB_has hk).mp q)
      apply b_ext
      intro i hi
      rw [b_0, b_and, bt_one i hi]
      by_cases h2 : i = 0
      · subst h2
        cases h3 : bt (jshr x (nI k)) 0 with
        | false => rfl
        | true =>
          exfalso
          apply h1
          apply b_ext
          intro j hj
          rw [b_and, bt_one j hj]
          by_cases h4 : j = 0
          · subst h4; rw [h3]; rfl
          · simp [h4]
      · simp [h2]
    rw [h0]
    exact Int32.add_zero _
/-- how many bits of the first 24 -/
noncomputable def one24 (x : Int32) : Nat := cnt (hB x) 24
theorem r_ones (m : Mm) (x : Int32) : mFi l g d k_X12_ones [.int x] m (nI (one24 x)) m := by
  refine nFi 2 rfl rfl rfl (by decide) rfl (fun htr o Φ hΦ => mGoOn (mOk (by decide)) rfl [4] 400 ?_)
  show mWB l g d k_X12_ones Φ 0 0 4 [.int x, .int (0 : Int32), .int (0 : Int32)] [] m o 0 0
  refine mLoopZ (P := fun k => mWB l g d k_X12_ones Φ 0 0 4 [.int x, .int (nI (cnt (hB x) k)), .int (nI k)] [] m o 0 0) (N := 24) (mGoOn (mOk (by decide)) rfl [4] 400 ?_) (fun k hi ih => mGoOn (mOk (by decide)) rfl [4] 400 ?_)
  · show ((24 : Int32) ≤ (nI 24) → Φ (.inl (some (.int (nI (cnt (hB x) 24))))) m o ∧ 0 ≤ 0 ∧ 0 ≤ 0) ∧ (¬ (24 : Int32) ≤ (nI 24) → mWB l g d k_X12_ones Φ 0 0 4 [.int x, .int ((nI (cnt (hB x) 24)) + ((jshr x (nI 24)) &&& (1 : Int32))), .int ((nI 24) + (1 : Int32))] [] m o 0 0)
    simp (disch := omega) only [mReq_tt, nI_0a, nI_a0, nI_cl, mIn_ok, lit_add, lit_sub, add_lit, lit_le, le_lit, lit_lt, lt_lit, eq_lit, nI_add, nI_1, nI_leI, nI_ltI, nI_eq, mIn_lit, mIn_0, mIn_1, mIn_2, mIn_3, nI_l0, nI_p0, rf_22, rf_44, rf_60, rf_69, rf_391, rf_7, rf_37, rf_51, rf_230, rf_401, rf_413, rf_496, rf_513, rf_518, sB_2, sB_3, sB_4, sB_5, sB_6, sB_7, sL_2, sL_3, sL_4, sL_5, sL_6, sL_7, not_true_eq_false, not_false_eq_true, false_implies, true_implies, true_and, and_true, eq_self, true_or, or_true, Nat.le_refl, Nat.zero_add, Nat.add_zero]
    exact hΦ
  show ((24 : Int32) ≤ (nI k) → Φ (.inl (some (.int (nI (cnt (hB x) k))))) m o ∧ 0 ≤ 0 ∧ 0 ≤ 0) ∧ (¬ (24 : Int32) ≤ (nI k) → mWB l g d k_X12_ones Φ 0 0 4 [.int x, .int ((nI (cnt (hB x) k)) + ((jshr x (nI k)) &&& (1 : Int32))), .int ((nI k) + (1 : Int32))] [] m o 0 0)
  have hf : ¬ 24 ≤ k := by omega
  simp (disch := omega) only [mReq_tt, nI_0a, nI_a0, nI_cl, mIn_ok, lit_add, lit_sub, add_lit, lit_le, le_lit, lit_lt, lt_lit, eq_lit, nI_add, nI_1, nI_leI, nI_ltI, nI_eq, mIn_lit, mIn_0, mIn_1, mIn_2, mIn_3, nI_l0, nI_p0, rf_22, rf_44, rf_60, rf_69, rf_391, rf_7, rf_37, rf_51, rf_230, rf_401, rf_413, rf_496, rf_513, rf_518, sB_2, sB_3, sB_4, sB_5, sB_6, sB_7, sL_2, sL_3, sL_4, sL_5, sL_6, sL_7, not_true_eq_false, not_false_eq_true, false_implies, true_implies, true_and, and_true, eq_self, true_or, or_true, Nat.le_refl, Nat.zero_add, Nat.add_zero, hf]
  rw [one_nI x (by omega)]
  exact ih
end R7
