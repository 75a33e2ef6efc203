set_option maxRecDepth 100000
/-! THE CLASS'S QUERIES OF WAYS -/
section X7
variable {l : Launch} {g : mG} {d : Nat} {A : Mm}
theorem x_way (hQ : Qr A) {m : Mm} (hm : cl m = A) (hd : 8 ≤ d) (a b : Int32) : xS l g d k_X11_way [.ref 586, .int a, .int b] m A (qWay A a b) := by
  have hA := hQ.1.1
  have hC := hQ.2.2.2.2.1
  have h9 := hA.1.2
  refine nBx 1 rfl rfl rfl (by decide) rfl (fun htr o Φ hΦ => mGoOn (mOk (by decide)) rfl [30] 400 ?_)
  show True ∧ mCal l g d k_X11_way Φ 4 24 _ 11 k_X1_hasStreet false [.ref 590, .int a] [.ref 586] [.ref 586, .int a, .int b, .ref 590] m o 0 0 1
  unfold qWay at hΦ
  have key : ∀ c : Int32, c = pI (In a (nS A) ∧ In b (nS A)) → mWB l g d k_X11_way Φ 4 24 30 [.ref 586, .int a, .int b, .ref 590] [.int c, .ref 586] m o 0 0 := by
    intro c hc
    subst hc
    refine mGoOn (mOk (by decide)) rfl [] 400 ?_
    show True ∧ mCal l g d k_X11_way Φ 4 24 _ 30 k_X11_needElement false [.ref 586, .int (pI (In a (nS A) ∧ In b (nS A)))] [] [.ref 586, .int a, .int b, .ref 590] m o 0 0 0
    refine ⟨trivial, cNeedE htr rfl (by omega) (by decide) (by decide) (fun h => ?_) (fun h => by
      replace h := pI_0.mp h
      rw [ifp_f (h)] at hΦ
      exact hΦ _ _ (xk_n hm))⟩
    replace h := pI_1.mp h
    rw [ifp_t (h)] at hΦ
    obtain ⟨⟨a, ha, rfl⟩, ⟨b, hb, rfl⟩⟩ := h
    rw [nI_cl (by omega), nI_cl (by omega)] at hΦ
    refine ⟨trivial, gCi htr (x_allStreets hC (csim_of hm)) (by omega) ?_⟩
    exact ⟨trivial, gCi htr (x_lanesBetween hA hC (csim_of hm) (by omega) ha hb _) (by omega) (e4 (hΦ _ _ (xk_v hm rfl)))⟩
  refine ⟨trivial, gCi htr (x_hasStreet hA hC (csim_of hm) a) (by omega) ?_⟩
  show ((pI (In a (nS A))) = 0 → mWB l g d k_X11_way Φ 4 24 30 [.ref 586, .int a, .int b, .ref 590] [.int (0 : Int32), .ref 586] m o 0 0) ∧ (¬ (pI (In a (nS A))) = 0 → True ∧ mCal l g d k_X11_way Φ 4 24 _ 19 k_X1_hasStreet false [.ref 590, .int b] [.ref 586] [.ref 586, .int a, .int b, .ref 590] m o 0 0 1)
  refine ⟨fun h => key 0 (pI_f (fun q => pI_0.mp h q.1)).symm, fun h => ⟨trivial, gCi htr (x_hasStreet hA hC (csim_of hm) b) (by omega) ?_⟩⟩
  show ((pI (In b (nS A))) = 0 → mWB l g d k_X11_way Φ 4 24 30 [.ref 586, .int a, .int b, .ref 590] [.int (0 : Int32), .ref 586] m o 0 0) ∧ (¬ (pI (In b (nS A))) = 0 → mWB l g d k_X11_way Φ 4 24 30 [.ref 586, .int a, .int b, .ref 590] [.int (1 : Int32), .ref 586] m o 0 0)
  exact ⟨fun h2 => key 0 (pI_f (fun q => pI_0.mp h2 q.2)).symm, fun h2 => key 1 (pI_t ⟨pI_1.mp h, pI_1.mp h2⟩).symm⟩
theorem x_past (hQ : Qr A) {m : Mm} (hm : cl m = A) (hd : 8 ≤ d) (a b e : Int32) : xS l g d k_X11_past [.ref 586, .int a, .int b, .int e] m A (qPst A a b e) := by
  have hA := hQ.1.1
  have hC := hQ.2.2.2.2.1
  have h9 := hA.1.2
  refine nBx 1 rfl rfl rfl (by decide) rfl (fun htr o Φ hΦ => mGoOn (mOk (by decide)) rfl [33] 400 ?_)
  show True ∧ mCal l g d k_X11_past Φ 4 24 _ 13 k_X1_hasStreet false [.ref 590, .int a] [.ref 586] [.ref 586, .int a, .int b, .int e, .ref 590] m o 0 0 1
  unfold qPst at hΦ
  have key : ∀ c : Int32, c = pI (In a (nS A) ∧ In b (nS A)) → mWB l g d k_X11_past Φ 4 24 33 [.ref 586, .int a, .int b, .int e, .ref 590] [.int c, .ref 586] m o 0 0 := by
    intro c hc
    subst hc
    refine mGoOn (mOk (by decide)) rfl [] 400 ?_
    show True ∧ mCal l g d k_X11_past Φ 4 24 _ 33 k_X11_needElement false [.ref 586, .int (pI (In a (nS A) ∧ In b (nS A)))] [] [.ref 586, .int a, .int b, .int e, .ref 590] m o 0 0 0
    refine ⟨trivial, cNeedE htr rfl (by omega) (by decide) (by decide) (fun h => ?_) (fun h => by
      replace h := pI_0.mp h
      rw [ifp_f (h)] at hΦ
      exact hΦ _ _ (xk_n hm))⟩
    replace h := pI_1.mp h
    rw [ifp_t (h)] at hΦ
    obtain ⟨⟨a, ha, rfl⟩, ⟨b, hb, rfl⟩⟩ := h
    rw [nI_cl (by omega), nI_cl (by omega)] at hΦ
    refine gCi htr (x_isHour m (by omega) e) (by omega) ?_
    show True ∧ mCal l g d k_X11_past Φ 4 24 _ 41 k_X11_needArgument false [.ref 586, .int (pI (In e 24))] [] [.ref 586, .int (nI a), .int (nI b), .int e, .ref 590] m o 1 6 0
    refine ⟨trivial, cNeedA htr rfl (by omega) (by decide) (by decide) (fun h2 => ?_) (fun h2 => by
      replace h2 := pI_0.mp h2
      rw [ifp_f (h2)] at hΦ
      exact hΦ _ _ (xk_a hm (by decide)))⟩
    replace h2 := pI_1.mp h2
    rw [ifp_t (h2)] at hΦ
    refine ⟨trivial, gCi htr (x_allStreets hC (csim_of hm)) (by omega) ?_⟩
    refine ⟨trivial, gCi htr (x_heardAt hQ hm (by omega) e) (by omega) ?_⟩
    exact ⟨trivial, gCi htr (x_lanesBetween hA hC (csim_of hm) (by omega) ha hb _) (by omega) (e4 (hΦ _ _ (xk_v hm rfl)))⟩
  refine ⟨trivial, gCi htr (x_hasStreet hA hC (csim_of hm) a) (by omega) ?_⟩
  show ((pI (In a (nS A))) = 0 → mWB l g d k_X11_past Φ 4 24 33 [.ref 586, .int a, .int b, .int e, .ref 590] [.int (0 : Int32), .ref 586] m o 0 0) ∧ (¬ (pI (In a (nS A))) = 0 → True ∧ mCal l g d k_X11_past Φ 4 24 _ 22 k_X1_hasStreet false [.ref 590, .int b] [.ref 586] [.ref 586, .int a, .int b, .int e, .ref 590] m o 0 0 1)
  refine ⟨fun h => key 0 (pI_f (fun q => pI_0.mp h q.1)).symm, fun h => ⟨trivial, gCi htr (x_hasStreet hA hC (csim_of hm) b) (by omega) ?_⟩⟩
  show ((pI (In b (nS A))) = 0 → mWB l g d k_X11_past Φ 4 24 33 [.ref 586, .int a, .int b, .int e, .ref 590] [.int (0 : Int32), .ref 586] m o 0 0) ∧ (¬ (pI (In b (nS A))) = 0 → mWB l g d k_X11_past Φ 4 24 33 [.ref 586, .int a, .int b, .int e, .ref 590] [.int (1 : Int32), .ref 586] m o 0 0)
  exact ⟨fun h2 => key 0 (pI_f (fun q => pI_0.mp h2 q.2)).symm, fun h2 => key 1 (pI_t ⟨pI_1.mp h, pI_1.mp h2⟩).symm⟩
theorem ends_0 {a b n : Nat} (ha : a < 9) (hb : b < 9) : nI n &&& (jshl 1 (nI a) ||| jshl 1 (nI b)) = 0 ↔ ¬ hB (nI n) a ∧ ¬ hB (nI n) b := by
  constructor
  · intro h
    refine ⟨fun q => ?_, fun q => ?_⟩
    · have : hB (nI n &&& (jshl 1 (nI a) ||| jshl 1 (nI b))) a := by rw [hB_and, hB_or, hB_sh (by omega) (by omega)]; exact ⟨q, Or.inl rfl⟩
      rw [h] at this
      exact hB_0 _ this
    · have : hB (nI n &&& (jshl 1 (nI a) ||| jshl 1 (nI b))) b := by rw [hB_and, hB_or, hB_sh (n := b) (by omega) (by omega)]; exact ⟨q, Or.inr rfl⟩
      rw [h] at this
      exact hB_0 _ this
  · rintro ⟨h1, h2⟩
    refine hB_ext (fun i hi => ?_)
    rw [hB_and, hB_or, hB_sh (by omega) hi, hB_sh (by omega) hi]
    constructor
    · rintro ⟨q, rfl | rfl⟩
      · exact absurd q h1
      · exact absurd q h2
    · exact fun q => absurd q (hB_0 _)
theorem ones_lt {n : Nat} (hn : n < 512) {a : Nat} (ha : a < 9) (h : ¬ hB (nI n) a) : f1s n < 9 := by
  have h1 : one24 (nI n) ≤ 8 := by
    rw [one24_pc]
    have : ¬ n.testBit a = true := fun q => h ((hB_nI (by omega)).mpr q)
    revert this
    exact (show ∀ n, n < 512 → ∀ a, a < 9 → ¬ n.testBit a = true → pc24 (nI n) ≤ 8 by decide +kernel) n hn a ha
  unfold f1s
  exact nI_lt (b := 9) (by omega) (by decide)
theorem x_shut (hQ : Qr A) {m : Mm} (hm : cl m = A) (hd : 8 ≤ d) (a b : Int32) : xS l g d k_X11_shut [.ref 586, .int a, .int b] m A (qSht A a b) := by
  have hA := hQ.1.1
  have hC := hQ.2.2.2.2.1
  have h9 := hA.1.2
  have hp9 : 2 ^ nS A ≤ 2 ^ 9 := Nat.pow_le_pow_right (by decide) h9
  have hp1 : 1 ≤ 2 ^ nS A := Nat.one_le_two_pow
  refine nBx 6 rfl rfl rfl (by decide) rfl (fun htr o Φ hΦ => mGoOn (mOk (by decide)) rfl [30,44,66,98] 400 ?_)
  show True ∧ mCal l g d k_X11_shut Φ 4 24 _ 11 k_X1_hasStreet false [.ref 590, .int a] [.ref 586] [.ref 586, .int a, .int b, .ref 590, mJ, mJ, mJ, mJ, mJ] m o 0 0 1
  unfold qSht at hΦ
  have loop : ∀ a b : Nat, a < nS A → b < nS A → (∀ r m2, xOk A (0, 0, amd (PSh A a b) f1s (2 ^ nS A) (2 ^ nS A)) r m2 → Φ r m2 o) → mWB l g d k_X11_shut Φ 4 24 66 [.ref 586, .int (nI a), .int (nI b), .ref 590, .int (jshl 1 (nI a) ||| jshl 1 (nI b)), .int (9 : Int32), .int (-1 : Int32), .int (0 : Int32), mJ] [] m o 4 24 := by
    intro a b ha hb hΦ
    rw [amd_amn _ _ (by omega)] at hΦ
    have hcf := cfo_amn (P := PSh A a b) (f := f1s) (K := 9) (N := 2 ^ nS A) (by omega) (fun n hn hP => ones_lt (by omega) (a := a) (by omega) hP.1)
    rw [← (hcf (2 ^ nS A) (Nat.le_refl _)).1] at hΦ
    show mWB l g d k_X11_shut Φ 4 24 66 [.ref 586, .int (nI a), .int (nI b), .ref 590, .int (jshl 1 (nI a) ||| jshl 1 (nI b)), .int ((cfo (PSh A a b) f1s 9 0).1), .int ((cfo (PSh A a b) f1s 9 0).2), .int (nI 0), mJ] [] m o 4 24
    refine mLoopZ (P := fun n => mWB l g d k_X11_shut Φ 4 24 66 [.ref 586, .int (nI a), .int (nI b), .ref 590, .int (jshl 1 (nI a) ||| jshl 1 (nI b)), .int ((cfo (PSh A a b) f1s 9 n).1), .int ((cfo (PSh A a b) f1s 9 n).2), .int (nI n), mJ] [] m o 4 24) (N := 2 ^ nS A) ?_ ?_
    · refine mGoOn (mOk (by decide)) rfl [66,98] 400 ?_
      show True ∧ mCal l g d k_X11_shut Φ 4 24 _ 69 k_X1_allStreets false [.ref 590] [.int (nI (2 ^ nS A))] [.ref 586, .int (nI a), .int (nI b), .ref 590, .int (jshl 1 (nI a) ||| jshl 1 (nI b)), .int ((cfo (PSh A a b) f1s 9 (2 ^ nS A)).1), .int ((cfo (PSh A a b) f1s 9 (2 ^ nS A)).2), .int (nI (2 ^ nS A)), mJ] m o 4 24 1
      refine ⟨trivial, gCi htr (x_allStreets hC (csim_of hm)) (by omega) ?_⟩
      rw [aS_pow hA]
      show ((nI (2 ^ nS A - 1)) < (nI (2 ^ nS A)) → Φ (.inl (some (.int ((cfo (PSh A a b) f1s 9 (2 ^ nS A)).2)))) m o ∧ 4 ≤ 4 ∧ 24 ≤ 24) ∧ (¬ (nI (2 ^ nS A - 1)) < (nI (2 ^ nS A)) → (¬ ((nI (2 ^ nS A)) &&& (jshl 1 (nI a) ||| jshl 1 (nI b))) = 0 → mWB l g d k_X11_shut Φ 4 24 98 [.ref 586, .int (nI a), .int (nI b), .ref 590, .int (jshl 1 (nI a) ||| jshl 1 (nI b)), .int ((cfo (PSh A a b) f1s 9 (2 ^ nS A)).1), .int ((cfo (PSh A a b) f1s 9 (2 ^ nS A)).2), .int (nI (2 ^ nS A)), mJ] [.int (0 : Int32)] m o 4 24) ∧ (((nI (2 ^ nS A)) &&& (jshl 1 (nI a) ||| jshl 1 (nI b))) = 0 → mCal l g d k_X11_shut Φ 4 24 _ 85 k_J6_bitCount_0f7a4 false [.int (nI (2 ^ nS A))] [] [.ref 586, .int (nI a), .int (nI b), .ref 590, .int (jshl 1 (nI a) ||| jshl 1 (nI b)), .int ((cfo (PSh A a b) f1s 9 (2 ^ nS A)).1), .int ((cfo (PSh A a b) f1s 9 (2 ^ nS A)).2), .int (nI (2 ^ nS A)), mJ] m o 4 24 1))
      have hlt : 2 ^ nS A - 1 < 2 ^ nS A := by omega
      simp (disch := omega) only [mReq_tt, nI_0a, nI_a0, nI_cl, mIn_ok, lit_add, lit_sub, add_lit, lit_le, le_lit, lit_lt, lt_lit, eq_lit, nI_add, nI_1, nI_leI, nI_ltI, nI_eq, mIn_lit, mIn_0, mIn_1, mIn_2, mIn_3, nI_l0, nI_p0, rf_22, rf_44, rf_60, rf_69, rf_391, rf_7, rf_37, rf_51, rf_230, rf_401, rf_413, rf_496, rf_513, rf_518, sB_2, sB_3, sB_4, sB_5, sB_6, sB_7, sL_2, sL_3, sL_4, sL_5, sL_6, sL_7, not_true_eq_false, not_false_eq_true, false_implies, true_implies, true_and, and_true, eq_self, true_or, or_true, Nat.le_refl, Nat.zero_add, Nat.add_zero, hlt]
      exact hΦ _ _ (xk_v hm rfl)
    · intro n hn ih
      refine mGoOn (mOk (by decide)) rfl [66,98] 400 ?_
      show True ∧ mCal l g d k_X11_shut Φ 4 24 _ 69 k_X1_allStreets false [.ref 590] [.int (nI n)] [.ref 586, .int (nI a), .int (nI b), .ref 590, .int (jshl 1 (nI a) ||| jshl 1 (nI b)), .int ((cfo (PSh A a b) f1s 9 n).1), .int ((cfo (PSh A a b) f1s 9 n).2), .int (nI n), mJ] m o 4 24 1
      refine ⟨trivial, gCi htr (x_allStreets hC (csim_of hm)) (by omega) ?_⟩
      rw [aS_pow hA]
      show ((nI (2 ^ nS A - 1)) < (nI n) → Φ (.inl (some (.int ((cfo (PSh A a b) f1s 9 n).2)))) m o ∧ 4 ≤ 4 ∧ 24 ≤ 24) ∧ (¬ (nI (2 ^ nS A - 1)) < (nI n) → (¬ ((nI n) &&& (jshl 1 (nI a) ||| jshl 1 (nI b))) = 0 → mWB l g d k_X11_shut Φ 4 24 98 [.ref 586, .int (nI a), .int (nI b), .ref 590, .int (jshl 1 (nI a) ||| jshl 1 (nI b)), .int ((cfo (PSh A a b) f1s 9 n).1), .int ((cfo (PSh A a b) f1s 9 n).2), .int (nI n), mJ] [.int (0 : Int32)] m o 4 24) ∧ (((nI n) &&& (jshl 1 (nI a) ||| jshl 1 (nI b))) = 0 → mCal l g d k_X11_shut Φ 4 24 _ 85 k_J6_bitCount_0f7a4 false [.int (nI n)] [] [.ref 586, .int (nI a), .int (nI b), .ref 590, .int (jshl 1 (nI a) ||| jshl 1 (nI b)), .int ((cfo (PSh A a b) f1s 9 n).1), .int ((cfo (PSh A a b) f1s 9 n).2), .int (nI n), mJ] m o 4 24 1))
      have hlt : ¬ 2 ^ nS A - 1 < n := by omega
      simp (disch := omega) only [mReq_tt, nI_0a, nI_a0, nI_cl, mIn_ok, lit_add, lit_sub, add_lit, lit_le, le_lit, lit_lt, lt_lit, eq_lit, nI_add, nI_1, nI_leI, nI_ltI, nI_eq, mIn_lit, mIn_0, mIn_1, mIn_2, mIn_3, nI_l0, nI_p0, rf_22, rf_44, rf_60, rf_69, rf_391, rf_7, rf_37, rf_51, rf_230, rf_401, rf_413, rf_496, rf_513, rf_518, sB_2, sB_3, sB_4, sB_5, sB_6, sB_7, sL_2, sL_3, sL_4, sL_5, sL_6, sL_7, not_true_eq_false, not_false_eq_true, false_implies, true_implies, true_and, and_true, eq_self, true_or, or_true, Nat.le_refl, Nat.zero_add, Nat.add_zero, hlt]
      have k98 : ∀ z : Int32, (z = 0 → ¬ (f1s n < (cfo (PSh A a b) f1s 9 n).1 ∧ PSh A a b n)) → (z ≠ 0 → f1s n < (cfo (PSh A a b) f1s 9 n).1 ∧ ¬ hB (nI n) a ∧ ¬ hB (nI n) b) → mWB l g d k_X11_shut Φ 4 24 98 [.ref 586, .int (nI a), .int (nI b), .ref 590, .int (jshl 1 (nI a) ||| jshl 1 (nI b)), .int ((cfo (PSh A a b) f1s 9 n).1), .int ((cfo (PSh A a b) f1s 9 n).2), .int (nI n), mJ] [.int z] m o 4 24 := by
        intro z hz0 hz1
        refine mGoOn (mOk (by decide)) rfl [66] 400 ?_
        show (z = 0 → mWB l g d k_X11_shut Φ 4 24 66 [.ref 586, .int (nI a), .int (nI b), .ref 590, .int (jshl 1 (nI a) ||| jshl 1 (nI b)), .int ((cfo (PSh A a b) f1s 9 n).1), .int ((cfo (PSh A a b) f1s 9 n).2), .int ((nI n) + (1 : Int32)), .int z] [] m o 4 24) ∧ (¬ z = 0 → True ∧ mCal l g d k_X11_shut Φ 4 24 _ 109 k_X1_allStreets false [.ref 590] [.int (nI b), .int (nI a), .ref 590] [.ref 586, .int (nI a), .int (nI b), .ref 590, .int (jshl 1 (nI a) ||| jshl 1 (nI b)), .int ((cfo (PSh A a b) f1s 9 n).1), .int ((cfo (PSh A a b) f1s 9 n).2), .int (nI n), .int z] m o 4 24 1)
        refine ⟨fun q => ?_, fun q => ⟨trivial, gCi htr (x_allStreets hC (csim_of hm)) (by omega) ?_⟩⟩
        · rw [cfo_f (hz0 q)] at ih
          rw [nI_1]
          exact mWB_wk ih ⟨Or.inr rfl, Or.inr rfl, Or.inr rfl, Or.inr rfl, Or.inr rfl, Or.inr rfl, Or.inr rfl, Or.inr rfl, Or.inl rfl, trivial⟩
        · refine ⟨trivial, gCi htr (x_lanesBetween hA hC (csim_of hm) (by omega) ha hb _) (by omega) ?_⟩
          show (¬ (fl A (aS A &&& (nI n ^^^ -1)) a (nS A) b) = (-1 : Int32) → mWB l g d k_X11_shut Φ 4 24 66 [.ref 586, .int (nI a), .int (nI b), .ref 590, .int (jshl 1 (nI a) ||| jshl 1 (nI b)), .int ((cfo (PSh A a b) f1s 9 n).1), .int ((cfo (PSh A a b) f1s 9 n).2), .int ((nI n) + (1 : Int32)), .int z] [] m o 4 24) ∧ ((fl A (aS A &&& (nI n ^^^ -1)) a (nS A) b) = (-1 : Int32) → mCal l g d k_X11_shut Φ 4 24 _ 126 k_J6_bitCount_0f7a4 false [.int (nI n)] [] [.ref 586, .int (nI a), .int (nI b), .ref 590, .int (jshl 1 (nI a) ||| jshl 1 (nI b)), .int ((cfo (PSh A a b) f1s 9 n).1), .int ((cfo (PSh A a b) f1s 9 n).2), .int (nI n), .int z] m o 4 24 1)
          generalize hfl : fl A (aS A &&& (nI n ^^^ -1)) a (nS A) b = v
          obtain ⟨g1, g2, g3⟩ := hz1 q
          refine ⟨fun y => ?_, fun y => gCi htr (j_bitCount m (n := n) (by omega)) (by omega) ?_⟩
          · rw [cfo_f (fun x => y (hfl.symm.trans x.2.2.2))] at ih
            rw [nI_1]
            exact mWB_wk ih ⟨Or.inr rfl, Or.inr rfl, Or.inr rfl, Or.inr rfl, Or.inr rfl, Or.inr rfl, Or.inr rfl, Or.inr rfl, Or.inl rfl, trivial⟩
          · rw [cfo_t g1 ⟨g2, g3, hfl.trans y⟩] at ih
            show mWB l g d k_X11_shut Φ 4 24 66 [.ref 586, .int (nI a), .int (nI b), .ref 590, .int (jshl 1 (nI a) ||| jshl 1 (nI b)), .int (f1s n), .int (nI n), .int (nI n + 1), .int z] [] m o 4 24
            rw [nI_1]
            exact mWB_wk ih ⟨Or.inr rfl, Or.inr rfl, Or.inr rfl, Or.inr rfl, Or.inr rfl, Or.inr rfl, Or.inr rfl, Or.inr rfl, Or.inl rfl, trivial⟩
      refine ⟨fun q => k98 0 (fun _ y => q ((ends_0 (by omega) (by omega)).mpr ⟨y.2.1, y.2.2.1⟩)) (fun y => absurd rfl y), fun q => gCi htr (j_bitCount m (n := n) (by omega)) (by omega) ?_⟩
      have hq := (ends_0 (n := n) (by omega) (by omega)).mp q
      show ((cfo (PSh A a b) f1s 9 n).1 ≤ f1s n → _) ∧ (¬ (cfo (PSh A a b) f1s 9 n).1 ≤ f1s n → _)
      exact ⟨fun y => k98 0 (fun _ x => (fa_of_lt x.1).2.1 y) (fun x => absurd rfl x), fun y => k98 1 (fun x => absurd x (by decide)) (fun _ => ⟨fa_of_nle y, hq⟩)⟩
  have k44 : ∀ a b : Nat, a < nS A → b < nS A → (∀ r m2, xOk A (ifp (¬ nI a = nI b) (0, 0, amd (PSh A a b) f1s (2 ^ nS A) (2 ^ nS A)) (2, 1, 0)) r m2 → Φ r m2 o) → ∀ z : Int32, z = pI (¬ nI a = nI b) → mWB l g d k_X11_shut Φ 4 24 44 [.ref 586, .int (nI a), .int (nI b), .ref 590, mJ, mJ, mJ, mJ, mJ] [.int z, .ref 586] m o 1 6 := by
    intro a b ha hb hΦ z hz
    subst hz
    refine mGoOn (mOk (by decide)) rfl [66] 400 ?_
    show True ∧ mCal l g d k_X11_shut Φ 4 24 _ 44 k_X11_needArgument false [.ref 586, .int (pI (¬ nI a = nI b))] [] [.ref 586, .int (nI a), .int (nI b), .ref 590, mJ, mJ, mJ, mJ, mJ] m o 1 6 0
    refine ⟨trivial, cNeedA htr rfl (by omega) (by decide) (by decide) (fun h => ?_) (fun h => by
      replace h := pI_0.mp h
      rw [ifp_f (h)] at hΦ
      exact hΦ _ _ (xk_a hm (by decide)))⟩
    replace h := pI_1.mp h
    rw [ifp_t (h)] at hΦ
    exact mWB_widen (loop a b ha hb hΦ) (by decide) (by decide)
  have key : ∀ c : Int32, c = pI (In a (nS A) ∧ In b (nS A)) → mWB l g d k_X11_shut Φ 4 24 30 [.ref 586, .int a, .int b, .ref 590, mJ, mJ, mJ, mJ, mJ] [.int c, .ref 586] m o 0 0 := by
    intro c hc
    subst hc
    refine mGoOn (mOk (by decide)) rfl [44] 400 ?_
    show True ∧ mCal l g d k_X11_shut Φ 4 24 _ 30 k_X11_needElement false [.ref 586, .int (pI (In a (nS A) ∧ In b (nS A)))] [] [.ref 586, .int a, .int b, .ref 590, mJ, mJ, mJ, mJ, mJ] m o 0 0 0
    refine ⟨trivial, cNeedE htr rfl (by omega) (by decide) (by decide) (fun h => ?_) (fun h => by
      replace h := pI_0.mp h
      rw [ifp_f (h)] at hΦ
      exact hΦ _ _ (xk_n hm))⟩
    replace h := pI_1.mp h
    rw [ifp_t (h)] at hΦ
    obtain ⟨⟨a, ha, rfl⟩, ⟨b, hb, rfl⟩⟩ := h
    rw [nI_cl (by omega), nI_cl (by omega)] at hΦ
    exact ⟨fun q => k44 a b ha hb hΦ 0 (pI_f (fun y => y q)).symm, fun q => k44 a b ha hb hΦ 1 (pI_t q).symm⟩
  refine ⟨trivial, gCi htr (x_hasStreet hA hC (csim_of hm) a) (by omega) ?_⟩
  show ((pI (In a (nS A))) = 0 → mWB l g d k_X11_shut Φ 4 24 30 [.ref 586, .int a, .int b, .ref 590, mJ, mJ, mJ, mJ, mJ] [.int (0 : Int32), .ref 586] m o 0 0) ∧ (¬ (pI (In a (nS A))) = 0 → True ∧ mCal l g d k_X11_shut Φ 4 24 _ 19 k_X1_hasStreet false [.ref 590, .int b] [.ref 586] [.ref 586, .int a, .int b, .ref 590, mJ, mJ, mJ, mJ, mJ] m o 0 0 1)
  refine ⟨fun h => key 0 (pI_f (fun q => pI_0.mp h q.1)).symm, fun h => ⟨trivial, gCi htr (x_hasStreet hA hC (csim_of hm) b) (by omega) ?_⟩⟩
  show ((pI (In b (nS A))) = 0 → mWB l g d k_X11_shut Φ 4 24 30 [.ref 586, .int a, .int b, .ref 590, mJ, mJ, mJ, mJ, mJ] [.int (0 : Int32), .ref 586] m o 0 0) ∧ (¬ (pI (In b (nS A))) = 0 → mWB l g d k_X11_shut Φ 4 24 30 [.ref 586, .int a, .int b, .ref 590, mJ, mJ, mJ, mJ, mJ] [.int (1 : Int32), .ref 586] m o 0 0)
  exact ⟨fun h2 => key 0 (pI_f (fun q => pI_0.mp h2 q.2)).symm, fun h2 => key 1 (pI_t ⟨pI_1.mp h, pI_1.mp h2⟩).symm⟩
theorem x_reach (hQ : Qr A) {m : Mm} (hm : cl m = A) (hd : 8 ≤ d) (k : Int32) : xS l g d k_X11_reach [.ref 586, .int k] m A (qRch A k) := by
  have hA := hQ.1.1
  have hC := hQ.2.2.2.2.1
  have h6 := hA.2.2.1.2
  have h9 := hA.1.2
  refine nBx 3 rfl rfl rfl (by decide) rfl (fun htr o Φ hΦ => mGoOn (mOk (by decide)) rfl [37] 400 ?_)
  show True ∧ mCal l g d k_X11_reach Φ 4 24 _ 11 k_X1_hasMan false [.ref 590, .int k] [.ref 586] [.ref 586, .int k, .ref 590, mJ, mJ] m o 0 0 1
  unfold qRch at hΦ
  refine ⟨trivial, gCi htr (x_hasMan hA hC (csim_of hm) k) (by omega) ?_⟩
  show True ∧ mCal l g d k_X11_reach Φ 4 24 _ 14 k_X11_needElement false [.ref 586, .int (pI (In k (nM A)))] [] [.ref 586, .int k, .ref 590, mJ, mJ] m o 0 0 0
  refine ⟨trivial, cNeedE htr rfl (by omega) (by decide) (by decide) (fun h => ?_) (fun h => by
    replace h := pI_0.mp h
    rw [ifp_f (h)] at hΦ
    exact hΦ _ _ (xk_n hm))⟩
  replace h := pI_1.mp h
  rw [ifp_t (h)] at hΦ
  obtain ⟨k, hk, rfl⟩ := h
  rw [nI_cl (by omega)] at hΦ
  have hp := In_cl (hQ.2.2.2.1.1 k hk) (by omega)
  refine gCi htr (x_at m (a := 627) (n := 6) rfl rfl (by decide) (by omega)) (by omega) ?_
  rw [(nrNow hQ hm).2.2.2.2.1 k hk, hp.1]
  unfold fM at hΦ
  generalize (A 494 k).toNatClampNeg = a at hp hΦ ⊢
  have ha := hp.2
  show mWB l g d k_X11_reach Φ 4 24 37 [.ref 586, .int (nI k), .ref 590, .int (cm A (aS A) (jshl 1 (nI a)) 0), .int (nI 0)] [] m o 1 6
  refine mWB_widen (cN' := 4) (sN' := 24) ?_ (by decide) (by decide)
  refine mLoopZ (P := fun n => mWB l g d k_X11_reach Φ 4 24 37 [.ref 586, .int (nI k), .ref 590, .int (cm A (aS A) (jshl 1 (nI a)) n), .int (nI n)] [] m o 4 24) (N := 9) ?_ ?_
  · refine mGoOn (mOk (by decide)) rfl [37] 400 ?_
    show ((9 : Int32) ≤ (nI 9) → Φ (.inl (some (.int (cm A (aS A) (jshl 1 (nI a)) 9)))) m o ∧ 4 ≤ 4 ∧ 24 ≤ 24) ∧ (¬ (9 : Int32) ≤ (nI 9) → True ∧ mCal l g d k_X11_reach Φ 4 24 _ 47 k_X1_allStreets false [.ref 590] [.int (cm A (aS A) (jshl 1 (nI a)) 9), .ref 590] [.ref 586, .int (nI k), .ref 590, .int (cm A (aS A) (jshl 1 (nI a)) 9), .int (nI 9)] m o 4 24 1)
    simp (disch := omega) only [mReq_tt, nI_0a, nI_a0, nI_cl, mIn_ok, lit_add, lit_sub, add_lit, lit_le, le_lit, lit_lt, lt_lit, eq_lit, nI_add, nI_1, nI_leI, nI_ltI, nI_eq, mIn_lit, mIn_0, mIn_1, mIn_2, mIn_3, nI_l0, nI_p0, rf_22, rf_44, rf_60, rf_69, rf_391, rf_7, rf_37, rf_51, rf_230, rf_401, rf_413, rf_496, rf_513, rf_518, sB_2, sB_3, sB_4, sB_5, sB_6, sB_7, sL_2, sL_3, sL_4, sL_5, sL_6, sL_7, not_true_eq_false, not_false_eq_true, false_implies, true_implies, true_and, and_true, eq_self, true_or, or_true, Nat.le_refl, Nat.zero_add, Nat.add_zero]
    refine hΦ _ _ (xk_v hm ?_)
    have hcb : ∀ t, t < nS A → (hB (jshl 1 (nI a)) t ↔ t = a ∧ hB (aS A) t) := fun t ht => by
      rw [hB_sh (by omega) (by omega), hB_aS hA (by omega)]
      exact ⟨fun q => ⟨q, ht⟩, fun q => q.1⟩
    refine hB_ext (fun i hi => ?_)
    rw [hB_msk (by omega) hi]
    constructor
    · intro q
      have h1 := (cm_in hA (op := aS A) (c := jshl 1 (nI a)) (fun t ht y => by
        rw [hB_sh (by omega) ht] at y
        subst y
        exact ⟨ha, (hB_aS hA ht).mpr ha⟩) 9 i hi q).1
      refine ⟨h1, ?_⟩
      have := (cm_fl hA hcb 9 (by omega) i h1).mp q
      rwa [fl_stab (by omega) h1 h9] at this
    · rintro ⟨h1, q⟩
      refine (cm_fl hA hcb 9 (by omega) i h1).mpr ?_
      rw [fl_stab (by omega) h1 h9]
      exact q
  · intro n hn ih
    refine mGoOn (mOk (by decide)) rfl [37] 400 ?_
    show ((9 : Int32) ≤ (nI n) → Φ (.inl (some (.int (cm A (aS A) (jshl 1 (nI a)) n)))) m o ∧ 4 ≤ 4 ∧ 24 ≤ 24) ∧ (¬ (9 : Int32) ≤ (nI n) → True ∧ mCal l g d k_X11_reach Φ 4 24 _ 47 k_X1_allStreets false [.ref 590] [.int (cm A (aS A) (jshl 1 (nI a)) n), .ref 590] [.ref 586, .int (nI k), .ref 590, .int (cm A (aS A) (jshl 1 (nI a)) n), .int (nI n)] m o 4 24 1)
    have hf : ¬ 9 ≤ n := by omega
    simp (disch := omega) only [mReq_tt, nI_0a, nI_a0, nI_cl, mIn_ok, lit_add, lit_sub, add_lit, lit_le, le_lit, lit_lt, lt_lit, eq_lit, nI_add, nI_1, nI_leI, nI_ltI, nI_eq, mIn_lit, mIn_0, mIn_1, mIn_2, mIn_3, nI_l0, nI_p0, rf_22, rf_44, rf_60, rf_69, rf_391, rf_7, rf_37, rf_51, rf_230, rf_401, rf_413, rf_496, rf_513, rf_518, sB_2, sB_3, sB_4, sB_5, sB_6, sB_7, sL_2, sL_3, sL_4, sL_5, sL_6, sL_7, not_true_eq_false, not_false_eq_true, false_implies, true_implies, true_and, and_true, eq_self, true_or, or_true, Nat.le_refl, Nat.zero_add, Nat.add_zero, hf]
    refine gCi htr (x_allStreets hC (csim_of hm)) (by omega) ?_
    refine ⟨trivial, gCi htr (x_grown hA hC (csim_of hm) (by omega) _ _) (by omega) ?_⟩
    show mWB l g d k_X11_reach Φ 4 24 37 [.ref 586, .int (nI k), .ref 590, .int (gr A (aS A) (cm A (aS A) (jshl 1 (nI a)) n)), .int (nI n + 1)] [] m o 4 24
    rw [nI_1]
    exact ih
theorem x_waker (hQ : Qr A) {m : Mm} (hm : cl m = A) (hd : 8 ≤ d) (p w : Int32) : xS l g d k_X11_waker [.ref 586, .int p, .int w] m A (qWkr A p w) := by
  have hA := hQ.1.1
  have hC := hQ.2.2.2.2.1
  have h6 := hA.2.2.1.2
  have h8 := hA.2.2.2.2
  have h9 := hA.1.2
  refine nBx 7 rfl rfl rfl (by decide) rfl (fun htr o Φ hΦ => mGoOn (mOk (by decide)) rfl [45,100,104,105,139] 400 ?_)
  show True ∧ mCal l g d k_X11_waker Φ 4 24 _ 11 k_X1_hasSleeper false [.ref 590, .int p] [.ref 586] [.ref 586, .int p, .int w, .ref 590, mJ, mJ, mJ, mJ, mJ, mJ] m o 0 0 1
  unfold qWkr at hΦ
  refine ⟨trivial, gCi htr (x_hasSleeper hA hC (csim_of hm) p) (by omega) ?_⟩
  show True ∧ mCal l g d k_X11_waker Φ 4 24 _ 14 k_X11_needElement false [.ref 586, .int (pI (In p (nP A)))] [] [.ref 586, .int p, .int w, .ref 590, mJ, mJ, mJ, mJ, mJ, mJ] m o 0 0 0
  refine ⟨trivial, cNeedE htr rfl (by omega) (by decide) (by decide) (fun h => ?_) (fun h => by
    replace h := pI_0.mp h
    rw [ifp_f (h)] at hΦ
    exact hΦ _ _ (xk_n hm))⟩
  replace h := pI_1.mp h
  rw [ifp_t (h)] at hΦ
  obtain ⟨p, hp, rfl⟩ := h
  rw [nI_cl (by omega)] at hΦ
  refine gCi htr (x_isChoice m (by omega) w (n := 2) (by decide)) (by omega) ?_
  show True ∧ mCal l g d k_X11_waker Φ 4 24 _ 23 k_X11_needArgument false [.ref 586, .int (pI (In w 2))] [] [.ref 586, .int (nI p), .int w, .ref 590, mJ, mJ, mJ, mJ, mJ, mJ] m o 1 6 0
  refine ⟨trivial, cNeedA htr rfl (by omega) (by decide) (by decide) (fun h2 => ?_) (fun h2 => by
    replace h2 := pI_0.mp h2
    rw [ifp_f (h2)] at hΦ
    exact hΦ _ _ (xk_a hm (by decide)))⟩
  replace h2 := pI_1.mp h2
  rw [ifp_t (h2)] at hΦ
  dsimp only at hΦ
  refine gCi htr (x_at m (a := 598) (n := 8) rfl rfl (by decide) (by omega)) (by omega) ?_
  have hps := (hQ.1.2.2.2.2 p hp).1
  have hs := In_cl hps (by omega)
  rw [ar hm 598 p, (hC.2.2.2.2.2 p hp).1, hs.1]
  have hfW : ∀ k, fWk A p k = fl A (aS A) (A (61 + p) 0).toNatClampNeg (nS A) (A 494 k).toNatClampNeg := fun k => rfl
  have hPW : ∀ k, PWk A p k ↔ fWk A p k ≠ -1 ∧ sayN A k (A (61 + p) 0).toNatClampNeg (A 494 35) = A (61 + p) 1 := fun k => Iff.rfl
  generalize PWk A p = P at hΦ hPW
  generalize fWk A p = f at hΦ hfW hPW
  generalize (A (61 + p) 0).toNatClampNeg = s at hs hfW hPW ⊢
  have hs9 := hs.2
  show mWB l g d k_X11_waker Φ 4 24 45 [.ref 586, .int (nI p), .int w, .ref 590, .int (nI s), .int (amn P f 0), .int (lst1 f (amn P f 0)), .int (nI 0), mJ, mJ] [] m o 2 12
  refine mWB_widen (cN' := 4) (sN' := 24) ?_ (by decide) (by decide)
  refine mLoopZ (P := fun k => ∀ m, cl m = A → mWB l g d k_X11_waker Φ 4 24 45 [.ref 586, .int (nI p), .int w, .ref 590, .int (nI s), .int (amn P f k), .int (lst1 f (amn P f k)), .int (nI k), mJ, mJ] [] m o 4 24) (N := nM A) (fun m hm => mGoOn (mOk (by decide)) rfl [45,100,104,105,139] 400 ?_) (fun k hi ih m hm => mGoOn (mOk (by decide)) rfl [45,100,104,105,139] 400 ?_) m hm
  · show ((m 590 2) ≤ (nI (nM A)) → (¬ w = 0 → Φ (.inl (some (.int (lst1 f (amn P f (nM A)))))) m o ∧ 4 ≤ 4 ∧ 24 ≤ 24) ∧ (w = 0 → Φ (.inl (some (.int (amn P f (nM A))))) m o ∧ 4 ≤ 4 ∧ 24 ≤ 24)) ∧ (¬ (m 590 2) ≤ (nI (nM A)) → mCal l g d k_X11_waker Φ 4 24 _ 67 k_X11_at false [.ref 627, .int (nI (nM A))] [.ref 590] [.ref 586, .int (nI p), .int w, .ref 590, .int (nI s), .int (amn P f (nM A)), .int (lst1 f (amn P f (nM A))), .int (nI (nM A)), mJ, mJ] m o 4 24 1)
    simp (disch := omega) only [mReq_tt, nI_0a, nI_a0, nI_cl, mIn_ok, lit_add, lit_sub, add_lit, lit_le, le_lit, lit_lt, lt_lit, eq_lit, nI_add, nI_1, nI_leI, nI_ltI, nI_eq, mIn_lit, mIn_0, mIn_1, mIn_2, mIn_3, nI_l0, nI_p0, rf_22, rf_44, rf_60, rf_69, rf_391, rf_7, rf_37, rf_51, rf_230, rf_401, rf_413, rf_496, rf_513, rf_518, sB_2, sB_3, sB_4, sB_5, sB_6, sB_7, sL_2, sL_3, sL_4, sL_5, sL_6, sL_7, not_true_eq_false, not_false_eq_true, false_implies, true_implies, true_and, and_true, eq_self, true_or, or_true, Nat.le_refl, Nat.zero_add, Nat.add_zero, ar hm 590 2, hC.1.2.2.1]
    exact ⟨fun q => hΦ _ _ (xk_v hm (by rw [if_neg q])), fun q => hΦ _ _ (xk_v hm (by rw [if_pos q]))⟩
  show ((m 590 2) ≤ (nI k) → (¬ w = 0 → Φ (.inl (some (.int (lst1 f (amn P f k))))) m o ∧ 4 ≤ 4 ∧ 24 ≤ 24) ∧ (w = 0 → Φ (.inl (some (.int (amn P f k)))) m o ∧ 4 ≤ 4 ∧ 24 ≤ 24)) ∧ (¬ (m 590 2) ≤ (nI k) → mCal l g d k_X11_waker Φ 4 24 _ 67 k_X11_at false [.ref 627, .int (nI k)] [.ref 590] [.ref 586, .int (nI p), .int w, .ref 590, .int (nI s), .int (amn P f k), .int (lst1 f (amn P f k)), .int (nI k), mJ, mJ] m o 4 24 1)
  have hf : ¬ nM A ≤ k := by omega
  simp (disch := omega) only [mReq_tt, nI_0a, nI_a0, nI_cl, mIn_ok, lit_add, lit_sub, add_lit, lit_le, le_lit, lit_lt, lt_lit, eq_lit, nI_add, nI_1, nI_leI, nI_ltI, nI_eq, mIn_lit, mIn_0, mIn_1, mIn_2, mIn_3, nI_l0, nI_p0, rf_22, rf_44, rf_60, rf_69, rf_391, rf_7, rf_37, rf_51, rf_230, rf_401, rf_413, rf_496, rf_513, rf_518, sB_2, sB_3, sB_4, sB_5, sB_6, sB_7, sL_2, sL_3, sL_4, sL_5, sL_6, sL_7, not_true_eq_false, not_false_eq_true, false_implies, true_implies, true_and, and_true, eq_self, true_or, or_true, Nat.le_refl, Nat.zero_add, Nat.add_zero, ar hm 590 2, hC.1.2.2.1, hf]
  refine gCi htr (x_at m (a := 627) (n := 6) rfl rfl (by decide) (by omega)) (by omega) ?_
  have hpk := In_cl (hQ.2.2.2.1.1 k hi) (by omega)
  rw [(nrNow hQ hm).2.2.2.2.1 k hi, hpk.1]
  refine ⟨trivial, gCi htr (x_allStreets hC (csim_of hm)) (by omega) ?_⟩
  refine ⟨trivial, gCi htr (x_lanesBetween hA hC (csim_of hm) (by omega) hpk.2 hs9 _) (by omega) ?_⟩
  rw [fl_sym hA (aS A) hpk.2 hs9 (by omega), ← hfW k]
  show ((f k) = (-1 : Int32) → mWB l g d k_X11_waker Φ 4 24 104 [.ref 586, .int (nI p), .int w, .ref 590, .int (nI s), .int (amn P f k), .int (lst1 f (amn P f k)), .int (nI k), .int (f k), mJ] [] m o 4 24) ∧ (¬ (f k) = (-1 : Int32) → ((amn P f k) = (-1 : Int32) → mWB l g d k_X11_waker Φ 4 24 100 [.ref 586, .int (nI p), .int w, .ref 590, .int (nI s), .int (amn P f k), .int (lst1 f (amn P f k)), .int (nI k), .int (f k), mJ] [] m o 4 24) ∧ (¬ (amn P f k) = (-1 : Int32) → ((lst1 f (amn P f k)) ≤ (f k) → mWB l g d k_X11_waker Φ 4 24 104 [.ref 586, .int (nI p), .int w, .ref 590, .int (nI s), .int (amn P f k), .int (lst1 f (amn P f k)), .int (nI k), .int (f k), mJ] [] m o 4 24) ∧ (¬ (lst1 f (amn P f k)) ≤ (f k) → mWB l g d k_X11_waker Φ 4 24 100 [.ref 586, .int (nI p), .int w, .ref 590, .int (nI s), .int (amn P f k), .int (lst1 f (amn P f k)), .int (nI k), .int (f k), mJ] [] m o 4 24)))
  have k139 : ∀ m, cl m = A → ∀ z : Int32, ¬ (P k ∧ (amn P f k = -1 ∨ ¬ f (amn P f k).toNatClampNeg ≤ f k)) → mWB l g d k_X11_waker Φ 4 24 139 [.ref 586, .int (nI p), .int w, .ref 590, .int (nI s), .int (amn P f k), .int (lst1 f (amn P f k)), .int (nI k), .int (f k), .int z] [] m o 4 24 := by
    intro m hm z hz
    refine mGoOn (mOk (by decide)) rfl [45] 400 ?_
    show mWB l g d k_X11_waker Φ 4 24 45 [.ref 586, .int (nI p), .int w, .ref 590, .int (nI s), .int (amn P f k), .int (lst1 f (amn P f k)), .int ((nI k) + (1 : Int32)), .int (f k), .int z] [] m o 4 24
    have ih := ih m hm
    rw [amn_f hz] at ih
    rw [nI_1]
    exact mWB_wk ih ⟨Or.inr rfl, Or.inr rfl, Or.inr rfl, Or.inr rfl, Or.inr rfl, Or.inr rfl, Or.inr rfl, Or.inr rfl, Or.inl rfl, Or.inl rfl, trivial⟩
  have k105 : ∀ z : Int32, (z = 0 → ¬ (P k ∧ (amn P f k = -1 ∨ ¬ f (amn P f k).toNatClampNeg ≤ f k))) → (z ≠ 0 → f k ≠ -1 ∧ (amn P f k = -1 ∨ ¬ f (amn P f k).toNatClampNeg ≤ f k)) → mWB l g d k_X11_waker Φ 4 24 105 [.ref 586, .int (nI p), .int w, .ref 590, .int (nI s), .int (amn P f k), .int (lst1 f (amn P f k)), .int (nI k), .int (f k), mJ] [.int z] m o 4 24 := by
    intro z hz0 hz1
    refine mGoOn (mOk (by decide)) rfl [45,139] 400 ?_
    show (z = 0 → mWB l g d k_X11_waker Φ 4 24 139 [.ref 586, .int (nI p), .int w, .ref 590, .int (nI s), .int (amn P f k), .int (lst1 f (amn P f k)), .int (nI k), .int (f k), .int z] [] m o 4 24) ∧ (¬ z = 0 → True ∧ mCal l g d k_X11_waker Φ 4 24 _ 117 k_X11_cryIn false [.ref 586, .int (nI k), .int (nI s)] [] [.ref 586, .int (nI p), .int w, .ref 590, .int (nI s), .int (amn P f k), .int (lst1 f (amn P f k)), .int (nI k), .int (f k), .int z] m o 4 24 1)
    refine ⟨fun q => k139 m hm z (hz0 q), fun q => ⟨trivial, hCi htr (x_cryIn hQ hm (by omega) hi (by omega)) (by omega) ?_⟩⟩
    intro x m2 hx
    show mCal l g d k_X11_waker Φ 4 24 _ 125 k_X11_at false [.ref 599, .int (nI p)] [.int x] [.ref 586, .int (nI p), .int w, .ref 590, .int (nI s), .int (amn P f k), .int (lst1 f (amn P f k)), .int (nI k), .int (f k), .int z] m2 o 4 24 1
    refine gCi htr (x_at m2 (a := 599) (n := 8) rfl rfl (by decide) (by omega)) (by omega) ?_
    rw [ar hx.2 599 p, (hC.2.2.2.2.2 p hp).2]
    show (¬ x = (A (61 + p) 1) → mWB l g d k_X11_waker Φ 4 24 139 [.ref 586, .int (nI p), .int w, .ref 590, .int (nI s), .int (amn P f k), .int (lst1 f (amn P f k)), .int (nI k), .int (f k), .int z] [] m2 o 4 24) ∧ (x = (A (61 + p) 1) → mWB l g d k_X11_waker Φ 4 24 139 [.ref 586, .int (nI p), .int w, .ref 590, .int (nI s), .int (nI k), .int (f k), .int (nI k), .int (f k), .int z] [] m2 o 4 24)
    obtain ⟨g1, g2⟩ := hz1 q
    refine ⟨fun y => k139 m2 hx.2 z (fun v => y (hx.1.trans ((hPW k).mp v.1).2)), fun y => ?_⟩
    have hP : P k := (hPW k).mpr ⟨g1, hx.1.symm.trans y⟩
    have ih := ih m2 hx.2
    rw [amn_t hP g2, show lst1 f (nI k) = f k from by unfold lst1; rw [if_neg (nI_m1 (by omega)), nI_cl (by omega)]] at ih
    refine mGoOn (mOk (by decide)) rfl [45] 400 ?_
    show mWB l g d k_X11_waker Φ 4 24 45 [.ref 586, .int (nI p), .int w, .ref 590, .int (nI s), .int (nI k), .int (f k), .int ((nI k) + (1 : Int32)), .int (f k), .int z] [] m2 o 4 24
    rw [nI_1]
    exact mWB_wk ih ⟨Or.inr rfl, Or.inr rfl, Or.inr rfl, Or.inr rfl, Or.inr rfl, Or.inr rfl, Or.inr rfl, Or.inr rfl, Or.inl rfl, Or.inl rfl, trivial⟩
  have k100 : f k ≠ -1 → (amn P f k = -1 ∨ ¬ f (amn P f k).toNatClampNeg ≤ f k) → mWB l g d k_X11_waker Φ 4 24 100 [.ref 586, .int (nI p), .int w, .ref 590, .int (nI s), .int (amn P f k), .int (lst1 f (amn P f k)), .int (nI k), .int (f k), mJ] [] m o 4 24 := by
    intro h1 h2
    refine mGoOn (mOk (by decide)) rfl [105] 400 ?_
    show mWB l g d k_X11_waker Φ 4 24 105 [.ref 586, .int (nI p), .int w, .ref 590, .int (nI s), .int (amn P f k), .int (lst1 f (amn P f k)), .int (nI k), .int (f k), mJ] [.int (1 : Int32)] m o 4 24
    exact k105 1 (fun q => absurd q (by decide)) (fun _ => ⟨h1, h2⟩)
  have k104 : ¬ (P k ∧ (amn P f k = -1 ∨ ¬ f (amn P f k).toNatClampNeg ≤ f k)) → mWB l g d k_X11_waker Φ 4 24 104 [.ref 586, .int (nI p), .int w, .ref 590, .int (nI s), .int (amn P f k), .int (lst1 f (amn P f k)), .int (nI k), .int (f k), mJ] [] m o 4 24 := by
    intro h1
    refine mGoOn (mOk (by decide)) rfl [105] 400 ?_
    show mWB l g d k_X11_waker Φ 4 24 105 [.ref 586, .int (nI p), .int w, .ref 590, .int (nI s), .int (amn P f k), .int (lst1 f (amn P f k)), .int (nI k), .int (f k), mJ] [.int (0 : Int32)] m o 4 24
    exact k105 0 (fun _ => h1) (fun q => absurd rfl q)
  refine ⟨fun q => k104 (fun y => ((hPW k).mp y.1).1 q), fun q => ⟨fun q2 => k100 q (Or.inl q2), fun q2 => ⟨fun q3 => k104 (fun y => y.2.elim q2 (fun x => ?_)), fun q3 => k100 q (Or.inr (fun x => ?_))⟩⟩⟩
  · unfold lst1 at q3
    rw [if_neg q2] at q3
    exact x q3
  · unfold lst1 at q3
    rw [if_neg q2] at q3
    exact q3 x
end X7
