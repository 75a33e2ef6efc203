set_option maxRecDepth 100000
/-! WHAT A MAN WOULD CALL -/
noncomputable def oth (A : Mm) (R : Nat → Int32) (k s : Nat) : Nat := cnt (fun j => j ≠ k ∧ R j = nI s ∧ R (12 + j) = 0) (nM A)
noncomputable def sayR (A : Mm) (R : Nat → Int32) (k s : Nat) (h : Int32) : Int32 := wl A (A (45 + k) 1) h (R (6 + k)) (nI s) (nI (oth A R k s)) (A (45 + k) 2) (R 36) (R (18 + s))
/-- what he calls tonight, were it that hour -/
noncomputable def sayN (A : Mm) (k s : Nat) (h : Int32) : Int32 := sayR A (A 494) k s h
/-- whom he wakes tonight -/
noncomputable def wkB (A : Mm) (k s : Nat) : Int32 := msk (fun p => A (61 + p) 0 = nI s ∧ A (61 + p) 1 = sayN A k s (A 494 35)) (nP A)
theorem sayR_In (A : Mm) (R : Nat → Int32) (k s : Nat) (h : Int32) : In (sayR A R k s h) 24 := fm_In _
/-- clean, and nothing thrown -/
def Cn (A m : Mm) : Prop := cl m = A ∧ m 0 0 = 0
theorem eqK_Cn {A m m2 : Mm} (h : eqL lK m m2) (hm : Cn A m) : Cn A m2 := ⟨eqK_cl h hm.1, by rw [h 0 (by decide)]; exact hm.2⟩
def Sv (A : Mm) : Prop := CtB A ∧ LwOk A
section R9
variable {l : Launch} {g : mG} {d : Nat} {A : Mm}
theorem r_callBy (hA : LwOk A) {m : Mm} (hm : cl m = A) (hd : 3 ≤ d) (a b c e f w n h : Int32) : mHi l g d k_X12_callBy [.ref 0, .int a, .int b, .int c, .int e, .int f, .int w, .int n, .int h] m (fun r m2 => r = wl A a b c e f w n h ∧ eqL lK m m2) := by
  refine nBi 0 rfl rfl rfl (by decide) rfl (fun htr o Φ hΦ => mGoOn (mOk (by decide)) rfl [] 400 ?_)
  show True ∧ mCal l g d k_X12_callBy Φ 0 0 _ 64 k_X12_byLaw false [.ref 0] [] [.ref 0, .int a, .int b, .int c, .int e, .int f, .int w, .int n, .int h] (mset (mset (mset (mset (mset (mset (mset (mset m 412 0 a) 412 1 b) 412 2 c) 412 3 e) 412 4 f) 412 5 w) 412 6 n) 412 7 h) o 0 0 1
  refine ⟨trivial, ?_⟩
  have he : eqL lK m (mset (mset (mset (mset (mset (mset (mset (mset m 412 0 a) 412 1 b) 412 2 c) 412 3 e) 412 4 f) 412 5 w) 412 6 n) 412 7 h) := by
    iterate 8 refine eqL_mset ?_ (by simp) _ _
    exact eqL_refl _ _
  refine nCi htr (r_byLaw hA (eqK_cl he hm) (by omega) (kn := kn8 a b c e f w n h) ?_) (by omega) ?_
  · intro j hj
    have : j = 0 ∨ j = 1 ∨ j = 2 ∨ j = 3 ∨ j = 4 ∨ j = 5 ∨ j = 6 ∨ j = 7 := by omega
    rcases this with rfl | rfl | rfl | rfl | rfl | rfl | rfl | rfl <;> rfl
  · intro x m2 hx
    exact eR (hΦ _ _ ⟨hx.1, eqL_trans he hx.2⟩)
theorem r_saysAt (hA : Sv A) {m : Mm} (hm : cl m = A) (hd : 4 ≤ d) {r : Nat} (hr : rowB r) {k s : Nat} (hk : k < nM A) (hs : s < 9) (h : Int32) : mHi l g d k_X12_saysAt [.ref 0, .ref r, .int (nI k), .int (nI s), .int h] m (fun x m2 => x = sayR A (m r) k s h ∧ eqL lK m m2) := by
  have hN := hA.1.2.2.1
  refine nBi 0 rfl rfl rfl (by decide) rfl (fun htr o Φ hΦ => mGoOn (mOk (by decide)) rfl [] 400 ?_)
  show mReq (mInB (nI k) 6) (mReq (mIsB (mRF 44 ((nI k).toNatClampNeg)) 1) (mReq (mInB (1 : Int32) (mLn (mRF 44 ((nI k).toNatClampNeg)))) (mReq (mIsB r 1) (mReq (mInB ((6 : Int32) + (nI k)) (mLn r)) (True ∧ mCal l g d k_X12_saysAt Φ 0 0 _ 22 k_X12_othersIn false [.ref 0, .ref r, .int (nI k), .int (nI s)] [.int (nI s), .int (m r (((6 : Int32) + (nI k)).toNatClampNeg)), .int h, .int (m (mRF 44 ((nI k).toNatClampNeg)) 1), .ref 0] [.ref 0, .ref r, .int (nI k), .int (nI s), .int h] m o 0 0 1)))))
  simp (disch := omega) only [mReq_tt, nI_0a, nI_a0, nI_cl, mIn_ok, lit_add, lit_sub, add_lit, lit_le, le_lit, lit_lt, lt_lit, eq_lit, nI_add, nI_1, nI_leI, nI_ltI, nI_eq, mIn_lit, mIn_0, mIn_1, mIn_2, mIn_3, nI_l0, nI_p0, rf_22, rf_44, rf_60, rf_69, rf_391, rf_7, rf_37, rf_51, rf_230, rf_401, rf_413, rf_496, rf_513, rf_518, sB_2, sB_3, sB_4, sB_5, sB_6, sB_7, sL_2, sL_3, sL_4, sL_5, sL_6, sL_7, not_true_eq_false, not_false_eq_true, false_implies, true_implies, true_and, and_true, eq_self, true_or, or_true, Nat.le_refl, Nat.zero_add, Nat.add_zero, clA hm, hr.1, hr.2]
  refine fCi htr (r_othersIn hA.1 hm hr _ _) (by omega) ?_
  rw [show cnt (fun j => nI j ≠ nI k ∧ m r j = nI s ∧ m r (12 + j) = 0) (nM A) = oth A (m r) k s from cnt_cong (fun j hj => by
    show ¬ (nI j = nI k) ∧ _ ↔ ¬ (j = k) ∧ _
    rw [nI_eq (by omega) (by omega)])]
  show mReq (mInB (nI k) 6) (mReq (mIsB (mRF 44 ((nI k).toNatClampNeg)) 1) (mReq (mInB (2 : Int32) (mLn (mRF 44 ((nI k).toNatClampNeg)))) (mReq (mIsB r 1) (mReq (mInB (36 : Int32) (mLn r)) (mReq (mIsB r 1) (mReq (mInB ((18 : Int32) + (nI s)) (mLn r)) (True ∧ mCal l g d k_X12_saysAt Φ 0 0 _ 43 k_X12_callBy false [.ref 0, .int (A (45 + k) 1), .int h, .int (m r (6 + k)), .int (nI s), .int (nI (oth A (m r) k s)), .int (m (mRF 44 ((nI k).toNatClampNeg)) 2), .int (m r 36), .int (m r (((18 : Int32) + (nI s)).toNatClampNeg))] [] [.ref 0, .ref r, .int (nI k), .int (nI s), .int h] m o 0 0 1)))))))
  simp (disch := omega) only [mReq_tt, nI_0a, nI_a0, nI_cl, mIn_ok, lit_add, lit_sub, add_lit, lit_le, le_lit, lit_lt, lt_lit, eq_lit, nI_add, nI_1, nI_leI, nI_ltI, nI_eq, mIn_lit, mIn_0, mIn_1, mIn_2, mIn_3, nI_l0, nI_p0, rf_22, rf_44, rf_60, rf_69, rf_391, rf_7, rf_37, rf_51, rf_230, rf_401, rf_413, rf_496, rf_513, rf_518, sB_2, sB_3, sB_4, sB_5, sB_6, sB_7, sL_2, sL_3, sL_4, sL_5, sL_6, sL_7, not_true_eq_false, not_false_eq_true, false_implies, true_implies, true_and, and_true, eq_self, true_or, or_true, Nat.le_refl, Nat.zero_add, Nat.add_zero, clA hm, hr.1, hr.2]
  refine nCi htr (r_callBy hA.2 hm (by omega) _ _ _ _ _ _ _ _) (by omega) ?_
  intro x m2 hx
  exact eR (hΦ _ _ hx)
theorem r_saysIn (hA : Sv A) {m : Mm} (hm : cl m = A) (hd : 5 ≤ d) {r : Nat} (hr : rowB r) {k s : Nat} (hk : k < nM A) (hs : s < 9) : mHi l g d k_X12_saysIn [.ref 0, .ref r, .int (nI k), .int (nI s)] m (fun x m2 => x = sayR A (m r) k s (m r 35) ∧ eqL lK m m2) := by
  refine nBi 0 rfl rfl rfl (by decide) rfl (fun htr o Φ hΦ => mGoOn (mOk (by decide)) rfl [] 400 ?_)
  show mReq (mIsB r 1) (mReq (mInB (35 : Int32) (mLn r)) (True ∧ mCal l g d k_X12_saysIn Φ 0 0 _ 8 k_X12_saysAt false [.ref 0, .ref r, .int (nI k), .int (nI s), .int (m r 35)] [] [.ref 0, .ref r, .int (nI k), .int (nI s)] m o 0 0 1))
  simp (disch := omega) only [mReq_tt, nI_0a, nI_a0, nI_cl, mIn_ok, lit_add, lit_sub, add_lit, lit_le, le_lit, lit_lt, lt_lit, eq_lit, nI_add, nI_1, nI_leI, nI_ltI, nI_eq, mIn_lit, mIn_0, mIn_1, mIn_2, mIn_3, nI_l0, nI_p0, rf_22, rf_44, rf_60, rf_69, rf_391, rf_7, rf_37, rf_51, rf_230, rf_401, rf_413, rf_496, rf_513, rf_518, sB_2, sB_3, sB_4, sB_5, sB_6, sB_7, sL_2, sL_3, sL_4, sL_5, sL_6, sL_7, not_true_eq_false, not_false_eq_true, false_implies, true_implies, true_and, and_true, eq_self, true_or, or_true, Nat.le_refl, Nat.zero_add, Nat.add_zero, hr.1, hr.2]
  refine nCi htr (r_saysAt hA hm (by omega) hr hk hs _) (by omega) ?_
  intro x m2 hx
  exact eR (hΦ _ _ hx)
theorem r_sayAN (hA : Sv A) {m : Mm} (hm : Cn A m) (hd : 4 ≤ d) {k s : Nat} (hk : k < nM A) (hs : s < 9) (h : Int32) : mHi l g d k_X12_saysAt [.ref 0, .ref 494, .int (nI k), .int (nI s), .int h] m (fun x m2 => x = sayN A k s h ∧ Cn A m2) :=
  mHi_mono (r_saysAt hA hm.1 hd row_494 hk hs h) (fun x m2 q => ⟨by rw [q.1, clF hm.1 (by omega)]; rfl, eqK_Cn q.2 hm⟩)
theorem r_sayN (hA : Sv A) {m : Mm} (hm : Cn A m) (hd : 5 ≤ d) {k s : Nat} (hk : k < nM A) (hs : s < 9) : mHi l g d k_X12_saysIn [.ref 0, .ref 494, .int (nI k), .int (nI s)] m (fun x m2 => x = sayN A k s (A 494 35) ∧ Cn A m2) :=
  mHi_mono (r_saysIn hA hm.1 hd row_494 hk hs) (fun x m2 q => ⟨by rw [q.1, clF hm.1 (by omega)]; rfl, eqK_Cn q.2 hm⟩)
theorem r_wakesBy (hA : Sv A) {m : Mm} (hm : Cn A m) (hd : 6 ≤ d) {k s : Nat} (hk : k < nM A) (hs : s < 9) : mHi l g d k_X12_wakesBy [.ref 0, .int (nI k), .int (nI s)] m (fun x m2 => x = wkB A k s ∧ Cn A m2) := by
  have hN := hA.1.2.2.2
  refine nBi 2 rfl rfl rfl (by decide) rfl (fun htr o Φ hΦ => mGoOn (mOk (by decide)) rfl [5] 400 ?_)
  show mWB l g d k_X12_wakesBy Φ 0 0 5 [.ref 0, .int (nI k), .int (nI s), .int (0 : Int32), .int (0 : Int32)] [] m o 0 0
  refine mLoopZ (P := fun p => ∀ m, Cn A m → mWB l g d k_X12_wakesBy Φ 0 0 5 [.ref 0, .int (nI k), .int (nI s), .int (msk (fun p => A (61 + p) 0 = nI s ∧ A (61 + p) 1 = sayN A k s (A 494 35)) p), .int (nI p)] [] m o 0 0) (N := nP A) (fun m hm => mGoOn (mOk (by decide)) rfl [5] 400 ?_) (fun p hi ih m hm => mGoOn (mOk (by decide)) rfl [5] 400 ?_) m hm
  · show ((m 4 3) ≤ (nI (nP A)) → Φ (.inl (some (.int (msk (fun p => A (61 + p) 0 = nI s ∧ A (61 + p) 1 = sayN A k s (A 494 35)) (nP A))))) m o ∧ 0 ≤ 0 ∧ 0 ≤ 0) ∧ (¬ (m 4 3) ≤ (nI (nP A)) → mReq (mInB (nI (nP A)) 8) (mReq (mIsB (mRF 60 ((nI (nP A)).toNatClampNeg)) 1) (mReq (mInB (0 : Int32) (mLn (mRF 60 ((nI (nP A)).toNatClampNeg)))) ((¬ (m (mRF 60 ((nI (nP A)).toNatClampNeg)) 0) = (nI s) → mWB l g d k_X12_wakesBy Φ 0 0 5 [.ref 0, .int (nI k), .int (nI s), .int ((msk (fun p => A (61 + p) 0 = nI s ∧ A (61 + p) 1 = sayN A k s (A 494 35)) (nP A)) ||| (0 : Int32)), .int ((nI (nP A)) + (1 : Int32))] [] m o 0 0) ∧ ((m (mRF 60 ((nI (nP A)).toNatClampNeg)) 0) = (nI s) → mReq (mInB (nI (nP A)) 8) (mReq (mIsB (mRF 60 ((nI (nP A)).toNatClampNeg)) 1) (mReq (mInB (1 : Int32) (mLn (mRF 60 ((nI (nP A)).toNatClampNeg)))) (True ∧ mCal l g d k_X12_wakesBy Φ 0 0 _ 46 k_X12_saysIn false [.ref 0, .ref 494, .int (nI k), .int (nI s)] [.int (m (mRF 60 ((nI (nP A)).toNatClampNeg)) 1), .int (msk (fun p => A (61 + p) 0 = nI s ∧ A (61 + p) 1 = sayN A k s (A 494 35)) (nP A))] [.ref 0, .int (nI k), .int (nI s), .int (msk (fun p => A (61 + p) 0 = nI s ∧ A (61 + p) 1 = sayN A k s (A 494 35)) (nP A)), .int (nI (nP A))] m o 0 0 1))))))))
    simp (disch := omega) only [mReq_tt, nI_0a, nI_a0, nI_cl, mIn_ok, lit_add, lit_sub, add_lit, lit_le, le_lit, lit_lt, lt_lit, eq_lit, nI_add, nI_1, nI_leI, nI_ltI, nI_eq, mIn_lit, mIn_0, mIn_1, mIn_2, mIn_3, nI_l0, nI_p0, rf_22, rf_44, rf_60, rf_69, rf_391, rf_7, rf_37, rf_51, rf_230, rf_401, rf_413, rf_496, rf_513, rf_518, sB_2, sB_3, sB_4, sB_5, sB_6, sB_7, sL_2, sL_3, sL_4, sL_5, sL_6, sL_7, not_true_eq_false, not_false_eq_true, false_implies, true_implies, true_and, and_true, eq_self, true_or, or_true, Nat.le_refl, Nat.zero_add, Nat.add_zero, clA hm.1, hN.1]
    exact hΦ _ _ ⟨rfl, hm⟩
  show ((m 4 3) ≤ (nI p) → Φ (.inl (some (.int (msk (fun p => A (61 + p) 0 = nI s ∧ A (61 + p) 1 = sayN A k s (A 494 35)) p)))) m o ∧ 0 ≤ 0 ∧ 0 ≤ 0) ∧ (¬ (m 4 3) ≤ (nI p) → mReq (mInB (nI p) 8) (mReq (mIsB (mRF 60 ((nI p).toNatClampNeg)) 1) (mReq (mInB (0 : Int32) (mLn (mRF 60 ((nI p).toNatClampNeg)))) ((¬ (m (mRF 60 ((nI p).toNatClampNeg)) 0) = (nI s) → mWB l g d k_X12_wakesBy Φ 0 0 5 [.ref 0, .int (nI k), .int (nI s), .int ((msk (fun p => A (61 + p) 0 = nI s ∧ A (61 + p) 1 = sayN A k s (A 494 35)) p) ||| (0 : Int32)), .int ((nI p) + (1 : Int32))] [] m o 0 0) ∧ ((m (mRF 60 ((nI p).toNatClampNeg)) 0) = (nI s) → mReq (mInB (nI p) 8) (mReq (mIsB (mRF 60 ((nI p).toNatClampNeg)) 1) (mReq (mInB (1 : Int32) (mLn (mRF 60 ((nI p).toNatClampNeg)))) (True ∧ mCal l g d k_X12_wakesBy Φ 0 0 _ 46 k_X12_saysIn false [.ref 0, .ref 494, .int (nI k), .int (nI s)] [.int (m (mRF 60 ((nI p).toNatClampNeg)) 1), .int (msk (fun p => A (61 + p) 0 = nI s ∧ A (61 + p) 1 = sayN A k s (A 494 35)) p)] [.ref 0, .int (nI k), .int (nI s), .int (msk (fun p => A (61 + p) 0 = nI s ∧ A (61 + p) 1 = sayN A k s (A 494 35)) p), .int (nI p)] m o 0 0 1))))))))
  have hf : ¬ nP A ≤ p := by omega
  simp (disch := omega) only [mReq_tt, nI_0a, nI_a0, nI_cl, mIn_ok, lit_add, lit_sub, add_lit, lit_le, le_lit, lit_lt, lt_lit, eq_lit, nI_add, nI_1, nI_leI, nI_ltI, nI_eq, mIn_lit, mIn_0, mIn_1, mIn_2, mIn_3, nI_l0, nI_p0, rf_22, rf_44, rf_60, rf_69, rf_391, rf_7, rf_37, rf_51, rf_230, rf_401, rf_413, rf_496, rf_513, rf_518, sB_2, sB_3, sB_4, sB_5, sB_6, sB_7, sL_2, sL_3, sL_4, sL_5, sL_6, sL_7, not_true_eq_false, not_false_eq_true, false_implies, true_implies, true_and, and_true, eq_self, true_or, or_true, Nat.le_refl, Nat.zero_add, Nat.add_zero, clA hm.1, hN.1, hf]
  refine ⟨fun h => ?_, fun h => ?_⟩
  · rw [or_zero]
    rw [msk_f (fun q => h q.1)] at ih
    exact ih m hm
  · refine nCi htr (r_sayN hA hm (by omega) hk hs) (by omega) ?_
    intro x m2 hx
    show (¬ (A (61 + p) 1) = x → mWB l g d k_X12_wakesBy Φ 0 0 5 [.ref 0, .int (nI k), .int (nI s), .int ((msk (fun p => A (61 + p) 0 = nI s ∧ A (61 + p) 1 = sayN A k s (A 494 35)) p) ||| (0 : Int32)), .int ((nI p) + (1 : Int32))] [] m2 o 0 0) ∧ ((A (61 + p) 1) = x → mWB l g d k_X12_wakesBy Φ 0 0 5 [.ref 0, .int (nI k), .int (nI s), .int ((msk (fun p => A (61 + p) 0 = nI s ∧ A (61 + p) 1 = sayN A k s (A 494 35)) p) ||| (jshl (1 : Int32) (nI p))), .int ((nI p) + (1 : Int32))] [] m2 o 0 0)
    rw [nI_1, hx.1]
    refine ⟨fun h2 => ?_, fun h2 => ?_⟩
    · rw [or_zero]
      rw [msk_f (fun q => h2 q.2)] at ih
      exact ih m2 hx.2
    · rw [msk_t ⟨h, h2⟩] at ih
      exact ih m2 hx.2
end R9
