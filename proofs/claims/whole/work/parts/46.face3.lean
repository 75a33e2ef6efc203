set_option maxRecDepth 100000
/-! THE CLASS'S QUERIES, on -/
theorem lat_min (A : Mm) (hR : Nt A (A 494)) {x : Int32} (hx : In x 24) : jrem (x - A 494 35 + 24) 24 = jfm (x - A 494 35) 24 := by
  obtain ⟨a, ha, rfl⟩ := hx
  obtain ⟨b, hb, eb⟩ := hR.2.2.2.2.1
  rw [eb]
  exact (show ∀ a, a < 24 → ∀ b, b < 24 → jrem (nI a - nI b + 24) 24 = jfm (nI a - nI b) 24 by unfold jfm jrem; decide +kernel) a ha b hb
theorem min_sw (n : Int32) : (if 24 - n < n then 24 - n else n) = (if n < 24 - n then n else 24 - n) := by
  by_cases h : 24 - n < n
  · rw [if_pos h, if_neg (fun q => (fa_of_lt h).2.2.1 q)]
  · rw [if_neg h]
    by_cases h2 : n < 24 - n
    · rw [if_pos h2]
    · rw [if_neg h2]
      rcases fa_three n (24 - n) with q | q | q
      · exact absurd q h2
      · exact q
      · exact absurd q h
section X5
variable {l : Launch} {g : mG} {d : Nat} {A : Mm}
theorem x_late (hQ : Qr A) {m : Mm} (hm : cl m = A) (hd : 8 ≤ d) (k : Int32) : xS l g d k_X11_late [.ref 586, .int k] m A (qLat A k) := by
  have hA := hQ.1.1
  have hC := hQ.2.2.2.2.1
  have h6 := hA.2.2.1.2
  refine nBx 1 rfl rfl rfl (by decide) rfl (fun htr o Φ hΦ => mGoOn (mOk (by decide)) rfl [33] 400 ?_)
  show True ∧ mCal l g d k_X11_late Φ 4 24 _ 9 k_X1_hasMan false [.ref 590, .int k] [.ref 586] [.ref 586, .int k, mJ] m o 0 0 1
  unfold qLat at hΦ
  refine ⟨trivial, gCi htr (x_hasMan hA hC (csim_of hm) k) (by omega) ?_⟩
  show True ∧ mCal l g d k_X11_late Φ 4 24 _ 12 k_X11_needElement false [.ref 586, .int (pI (In k (nM A)))] [] [.ref 586, .int k, mJ] m o 0 0 0
  refine ⟨trivial, cNeedE htr rfl (by omega) (by decide) (by decide) (fun h => ?_) (fun h => by
    replace h := pI_0.mp h
    rw [ifp_f (h)] at hΦ
    exact hΦ _ _ (xk_n hm))⟩
  replace h := pI_1.mp h
  rw [ifp_t (h)] at hΦ
  obtain ⟨k, hk, rfl⟩ := h
  rw [nI_cl (by omega)] at hΦ
  refine ⟨trivial, hCi htr (x_cryAtHome hQ hm (by omega) hk) (by omega) ?_⟩
  intro x m2 hx
  show mWB l g d k_X11_late Φ 4 24 33 [.ref 586, .int (nI k), mJ] [.int (24 : Int32), .int (x - (m2 626 0))] m2 o 1 6
  rw [(nrNow hQ hx.2).1]
  refine ms_fmod (mOk (by decide)) rfl htr (by omega) (by decide) (by decide) (by decide) (by decide) ?_
  have hin : In x 24 := by rw [hx.1]; exact sayR_In _ _ _ _ _
  have e1 := lat_min A hQ.2.2.2.1 hin
  show mWB l g d k_X11_late Φ 4 24 36 [.ref 586, .int (nI k), mJ] [.int (jfm (x - A 494 35) 24)] m2 o 1 6
  rw [← e1]
  refine mGoOn (mOk (by decide)) rfl [] 400 ?_
  show 1 ≤ d ∧ (([] : List Value).map fun v => v.category).sum ≤ 8 ∧ 1 ≤ 4 ∧ 6 ≤ 24 ∧ (Φ (.inl (some (.int (if ((24 : Int32) - (jrem (x - A 494 35 + 24) 24)) < (jrem (x - A 494 35 + 24) 24) then ((24 : Int32) - (jrem (x - A 494 35 + 24) 24)) else (jrem (x - A 494 35 + 24) 24))))) m2 o ∧ 1 ≤ 4 ∧ 6 ≤ 24)
  refine ⟨by omega, by decide, by decide, by decide, e4 (hΦ _ _ (xk_v hx.2 ?_))⟩
  rw [hx.1]
  exact min_sw _
theorem x_busiest (hQ : Qr A) {m : Mm} (hm : cl m = A) (hd : 8 ≤ d) (w : Int32) : xS l g d k_X11_busiest [.ref 586, .int w] m A (qBus A w) := by
  have hA := hQ.1.1
  have hC := hQ.2.2.2.2.1
  have h6 := hA.2.2.1.2
  have hN := nrNow hQ hm
  refine nBx 3 rfl rfl rfl (by decide) rfl (fun htr o Φ hΦ => mGoOn (mOk (by decide)) rfl [16] 400 ?_)
  show mCal l g d k_X11_busiest Φ 4 24 _ 3 k_X11_isChoice false [.int w, .int (2 : Int32)] [.ref 586] [.ref 586, .int w, mJ, mJ, mJ] m o 0 0 1
  unfold qBus at hΦ
  refine gCi htr (x_isChoice m (by omega) w (n := 2) (by decide)) (by omega) ?_
  show True ∧ mCal l g d k_X11_busiest Φ 4 24 _ 6 k_X11_needArgument false [.ref 586, .int (pI (In w 2))] [] [.ref 586, .int w, mJ, mJ, mJ] m o 0 0 0
  refine ⟨trivial, cNeedA htr rfl (by omega) (by decide) (by decide) (fun h => ?_) (fun h => by
    replace h := pI_0.mp h
    rw [ifp_f (h)] at hΦ
    exact hΦ _ _ (xk_a hm (by decide)))⟩
  replace h := pI_1.mp h
  rw [ifp_t (h)] at hΦ
  generalize hf : (fun k => A 494 (6 + k)) = f at hΦ
  have hcal : ∀ k, k < nM A → m 628 k = f k := fun k hk => by rw [← hf]; exact hN.2.2.2.2.2.1 k (by omega)
  show mWB l g d k_X11_busiest Φ 4 24 16 [.ref 586, .int w, .int ((amx f 0).1), .int ((amx f 0).2), .int (nI 0)] [] m o 1 6
  refine mWB_widen (cN' := 4) (sN' := 24) ?_ (by decide) (by decide)
  refine mLoopZ (P := fun k => mWB l g d k_X11_busiest Φ 4 24 16 [.ref 586, .int w, .int ((amx f k).1), .int ((amx f k).2), .int (nI k)] [] m o 4 24) (N := nM A) ?_ ?_
  · refine mGoOn (mOk (by decide)) rfl [16] 400 ?_
    show ((m 590 2) ≤ (nI (nM A)) → (w = 0 → Φ (.inl (some (.int ((amx f (nM A)).1)))) m o ∧ 4 ≤ 4 ∧ 24 ≤ 24) ∧ (¬ w = 0 → (¬ ((amx f (nM A)).1) = (-1 : Int32) → Φ (.inl (some (.int ((amx f (nM A)).2)))) m o ∧ 4 ≤ 4 ∧ 24 ≤ 24) ∧ (((amx f (nM A)).1) = (-1 : Int32) → Φ (.inl (some (.int ((amx f (nM A)).1)))) m o ∧ 4 ≤ 4 ∧ 24 ≤ 24))) ∧ (¬ (m 590 2) ≤ (nI (nM A)) → mCal l g d k_X11_busiest Φ 4 24 _ 43 k_X11_at false [.ref 628, .int (nI (nM A))] [] [.ref 586, .int w, .int ((amx f (nM A)).1), .int ((amx f (nM A)).2), .int (nI (nM A))] m o 4 24 1)
    rw [ar hm 590 2, hC.1.2.2.1]
    unfold vMx at hΦ
    simp (disch := omega) only [mReq_tt, nI_0a, nI_a0, nI_cl, mIn_ok, lit_add, lit_sub, add_lit, lit_le, le_lit, lit_lt, lt_lit, eq_lit, nI_add, nI_1, nI_leI, nI_ltI, nI_eq, mIn_lit, mIn_0, mIn_1, mIn_2, mIn_3, nI_l0, nI_p0, rf_22, rf_44, rf_60, rf_69, rf_391, rf_7, rf_37, rf_51, rf_230, rf_401, rf_413, rf_496, rf_513, rf_518, sB_2, sB_3, sB_4, sB_5, sB_6, sB_7, sL_2, sL_3, sL_4, sL_5, sL_6, sL_7, not_true_eq_false, not_false_eq_true, false_implies, true_implies, true_and, and_true, eq_self, true_or, or_true, Nat.le_refl, Nat.zero_add, Nat.add_zero]
    refine ⟨fun q => ?_, fun q => ⟨fun q2 => ?_, fun q2 => ?_⟩⟩
    · rw [if_pos (Or.inl q)] at hΦ; exact hΦ _ _ (xk_v hm rfl)
    · rw [if_neg (fun z => z.elim q q2)] at hΦ; exact hΦ _ _ (xk_v hm rfl)
    · rw [if_pos (Or.inr q2)] at hΦ; exact hΦ _ _ (xk_v hm rfl)
  · intro k hk ih
    refine mGoOn (mOk (by decide)) rfl [16] 400 ?_
    show ((m 590 2) ≤ (nI k) → (w = 0 → Φ (.inl (some (.int ((amx f k).1)))) m o ∧ 4 ≤ 4 ∧ 24 ≤ 24) ∧ (¬ w = 0 → (¬ ((amx f k).1) = (-1 : Int32) → Φ (.inl (some (.int ((amx f k).2)))) m o ∧ 4 ≤ 4 ∧ 24 ≤ 24) ∧ (((amx f k).1) = (-1 : Int32) → Φ (.inl (some (.int ((amx f k).1)))) m o ∧ 4 ≤ 4 ∧ 24 ≤ 24))) ∧ (¬ (m 590 2) ≤ (nI k) → mCal l g d k_X11_busiest Φ 4 24 _ 43 k_X11_at false [.ref 628, .int (nI k)] [] [.ref 586, .int w, .int ((amx f k).1), .int ((amx f k).2), .int (nI k)] m o 4 24 1)
    have hf : ¬ nM A ≤ k := by omega
    simp (disch := omega) only [mReq_tt, nI_0a, nI_a0, nI_cl, mIn_ok, lit_add, lit_sub, add_lit, lit_le, le_lit, lit_lt, lt_lit, eq_lit, nI_add, nI_1, nI_leI, nI_ltI, nI_eq, mIn_lit, mIn_0, mIn_1, mIn_2, mIn_3, nI_l0, nI_p0, rf_22, rf_44, rf_60, rf_69, rf_391, rf_7, rf_37, rf_51, rf_230, rf_401, rf_413, rf_496, rf_513, rf_518, sB_2, sB_3, sB_4, sB_5, sB_6, sB_7, sL_2, sL_3, sL_4, sL_5, sL_6, sL_7, not_true_eq_false, not_false_eq_true, false_implies, true_implies, true_and, and_true, eq_self, true_or, or_true, Nat.le_refl, Nat.zero_add, Nat.add_zero, ar hm 590 2, hC.1.2.2.1, hf]
    refine gCi htr (x_at m (a := 628) (n := 6) rfl rfl (by decide) (by omega)) (by omega) ?_
    rw [hcal k hk]
    show ((f k) ≤ ((amx f k).2) → mWB l g d k_X11_busiest Φ 4 24 16 [.ref 586, .int w, .int ((amx f k).1), .int ((amx f k).2), .int ((nI k) + (1 : Int32))] [] m o 4 24) ∧ (¬ (f k) ≤ ((amx f k).2) → mCal l g d k_X11_busiest Φ 4 24 _ 62 k_X11_at false [.ref 628, .int (nI k)] [] [.ref 586, .int w, .int ((amx f k).1), .int ((amx f k).2), .int (nI k)] m o 4 24 1)
    refine ⟨fun q => ?_, fun q => gCi htr (x_at m (a := 628) (n := 6) rfl rfl (by decide) (by omega)) (by omega) ?_⟩
    · rw [amx_f (fun z => (fa_of_lt z).2.1 q)] at ih
      rw [nI_1]
      exact ih
    · rw [hcal k hk]
      rw [amx_t (fa_of_nle q)] at ih
      show mWB l g d k_X11_busiest Φ 4 24 16 [.ref 586, .int w, .int (nI k), .int (f k), .int (nI k + 1)] [] m o 4 24
      rw [nI_1]
      exact ih
theorem dp_bits (A : Mm) (hA : CtB A) (R : Nat → Int32) (hR : Nt A R) (s : Int32) : ∃ n, n < 512 ∧ msk (fun p => A (61 + p) 0 = s) (nP A) &&& (msk (fun p => R (27 + p) = 1) (nP A) ^^^ (-1)) = nI n ∧ one24 (nI n) = cnt (fun p => A (61 + p) 0 = s ∧ R (27 + p) = 0) (nP A) := by
  have h8 := hA.2.2.2.2
  have hb : ∀ i, i < 32 → (hB (msk (fun p => A (61 + p) 0 = s) (nP A) &&& (msk (fun p => R (27 + p) = 1) (nP A) ^^^ (-1))) i ↔ i < nP A ∧ (A (61 + i) 0 = s ∧ R (27 + i) = 0)) := by
    intro i hi
    rw [hB_and, hB_msk (by omega) hi, hB_not _ hi, hB_msk (by omega) hi]
    constructor
    · rintro ⟨⟨a, b⟩, c⟩
      obtain ⟨z, hz, ez⟩ := hR.2.2.2.1 i (by omega)
      refine ⟨a, b, ?_⟩
      rcases (show z = 0 ∨ z = 1 by omega) with rfl | rfl
      · exact ez
      · exact absurd ⟨a, ez⟩ c
    · rintro ⟨a, b, c⟩
      refine ⟨⟨a, b⟩, fun q => ?_⟩
      have := q.2
      rw [c] at this
      exact absurd this (by decide)
  obtain ⟨n, hn, e⟩ := small9 (x := msk (fun p => A (61 + p) 0 = s) (nP A) &&& (msk (fun p => R (27 + p) = 1) (nP A) ^^^ (-1))) (fun i h1 h2 q => by
    have := ((hb i h2).mp q).1
    omega)
  refine ⟨n, hn, e, ?_⟩
  rw [← e]
  exact one24_of (by omega) (fun i hi => hb i (by omega))
theorem x_deepest (hQ : Qr A) {m : Mm} (hm : cl m = A) (hd : 8 ≤ d) (w : Int32) : xS l g d k_X11_deepest [.ref 586, .int w] m A (qDep A w) := by
  have hA := hQ.1.1
  have hC := hQ.2.2.2.2.1
  have h9 := hA.1.2
  have h8 := hA.2.2.2.2
  have hN := nrNow hQ hm
  refine nBx 5 rfl rfl rfl (by decide) rfl (fun htr o Φ hΦ => mGoOn (mOk (by decide)) rfl [25] 400 ?_)
  show mCal l g d k_X11_deepest Φ 4 24 _ 11 k_X11_isChoice false [.int w, .int (2 : Int32)] [.ref 586] [.ref 586, .int w, .ref 590, mJ, mJ, mJ, mJ] m o 0 0 1
  unfold qDep at hΦ
  refine gCi htr (x_isChoice m (by omega) w (n := 2) (by decide)) (by omega) ?_
  show True ∧ mCal l g d k_X11_deepest Φ 4 24 _ 14 k_X11_needArgument false [.ref 586, .int (pI (In w 2))] [] [.ref 586, .int w, .ref 590, mJ, mJ, mJ, mJ] m o 0 0 0
  refine ⟨trivial, cNeedA htr rfl (by omega) (by decide) (by decide) (fun h => ?_) (fun h => by
    replace h := pI_0.mp h
    rw [ifp_f (h)] at hΦ
    exact hΦ _ _ (xk_a hm (by decide)))⟩
  replace h := pI_1.mp h
  rw [ifp_t (h)] at hΦ
  have hdp : ∀ s, dpF A s = nI (cnt (fun p => A (61 + p) 0 = nI s ∧ A 494 (27 + p) = 0) (nP A)) := fun s => rfl
  generalize dpF A = f at hΦ hdp
  show mWB l g d k_X11_deepest Φ 4 24 25 [.ref 586, .int w, .ref 590, .int ((amx f 0).1), .int ((amx f 0).2), .int (nI 0), mJ] [] m o 1 6
  refine mWB_widen (cN' := 4) (sN' := 24) ?_ (by decide) (by decide)
  refine mLoopZ (P := fun k => mWB l g d k_X11_deepest Φ 4 24 25 [.ref 586, .int w, .ref 590, .int ((amx f k).1), .int ((amx f k).2), .int (nI k), mJ] [] m o 4 24) (N := nS A) ?_ ?_
  · refine mGoOn (mOk (by decide)) rfl [25] 400 ?_
    show ((m 590 0) ≤ (nI (nS A)) → (w = 0 → Φ (.inl (some (.int ((amx f (nS A)).1)))) m o ∧ 4 ≤ 4 ∧ 24 ≤ 24) ∧ (¬ w = 0 → (¬ ((amx f (nS A)).1) = (-1 : Int32) → Φ (.inl (some (.int ((amx f (nS A)).2)))) m o ∧ 4 ≤ 4 ∧ 24 ≤ 24) ∧ (((amx f (nS A)).1) = (-1 : Int32) → Φ (.inl (some (.int ((amx f (nS A)).1)))) m o ∧ 4 ≤ 4 ∧ 24 ≤ 24))) ∧ (¬ (m 590 0) ≤ (nI (nS A)) → mCal l g d k_X11_deepest Φ 4 24 _ 44 k_X11_places false [.ref 598, .int (m 590 3), .int (nI (nS A))] [] [.ref 586, .int w, .ref 590, .int ((amx f (nS A)).1), .int ((amx f (nS A)).2), .int (nI (nS A)), mJ] m o 4 24 1)
    rw [ar hm 590 0, hC.1.1]
    unfold vMx at hΦ
    simp (disch := omega) only [mReq_tt, nI_0a, nI_a0, nI_cl, mIn_ok, lit_add, lit_sub, add_lit, lit_le, le_lit, lit_lt, lt_lit, eq_lit, nI_add, nI_1, nI_leI, nI_ltI, nI_eq, mIn_lit, mIn_0, mIn_1, mIn_2, mIn_3, nI_l0, nI_p0, rf_22, rf_44, rf_60, rf_69, rf_391, rf_7, rf_37, rf_51, rf_230, rf_401, rf_413, rf_496, rf_513, rf_518, sB_2, sB_3, sB_4, sB_5, sB_6, sB_7, sL_2, sL_3, sL_4, sL_5, sL_6, sL_7, not_true_eq_false, not_false_eq_true, false_implies, true_implies, true_and, and_true, eq_self, true_or, or_true, Nat.le_refl, Nat.zero_add, Nat.add_zero]
    refine ⟨fun q => ?_, fun q => ⟨fun q2 => ?_, fun q2 => ?_⟩⟩
    · rw [if_pos (Or.inl q)] at hΦ; exact hΦ _ _ (xk_v hm rfl)
    · rw [if_neg (fun z => z.elim q q2)] at hΦ; exact hΦ _ _ (xk_v hm rfl)
    · rw [if_pos (Or.inr q2)] at hΦ; exact hΦ _ _ (xk_v hm rfl)
  · intro s hs ih
    refine mGoOn (mOk (by decide)) rfl [25] 400 ?_
    show ((m 590 0) ≤ (nI s) → (w = 0 → Φ (.inl (some (.int ((amx f s).1)))) m o ∧ 4 ≤ 4 ∧ 24 ≤ 24) ∧ (¬ w = 0 → (¬ ((amx f s).1) = (-1 : Int32) → Φ (.inl (some (.int ((amx f s).2)))) m o ∧ 4 ≤ 4 ∧ 24 ≤ 24) ∧ (((amx f s).1) = (-1 : Int32) → Φ (.inl (some (.int ((amx f s).1)))) m o ∧ 4 ≤ 4 ∧ 24 ≤ 24))) ∧ (¬ (m 590 0) ≤ (nI s) → mCal l g d k_X11_deepest Φ 4 24 _ 44 k_X11_places false [.ref 598, .int (m 590 3), .int (nI s)] [] [.ref 586, .int w, .ref 590, .int ((amx f s).1), .int ((amx f s).2), .int (nI s), mJ] m o 4 24 1)
    have hf : ¬ nS A ≤ s := by omega
    simp (disch := omega) only [mReq_tt, nI_0a, nI_a0, nI_cl, mIn_ok, lit_add, lit_sub, add_lit, lit_le, le_lit, lit_lt, lt_lit, eq_lit, nI_add, nI_1, nI_leI, nI_ltI, nI_eq, mIn_lit, mIn_0, mIn_1, mIn_2, mIn_3, nI_l0, nI_p0, rf_22, rf_44, rf_60, rf_69, rf_391, rf_7, rf_37, rf_51, rf_230, rf_401, rf_413, rf_496, rf_513, rf_518, sB_2, sB_3, sB_4, sB_5, sB_6, sB_7, sL_2, sL_3, sL_4, sL_5, sL_6, sL_7, not_true_eq_false, not_false_eq_true, false_implies, true_implies, true_and, and_true, eq_self, true_or, or_true, Nat.le_refl, Nat.zero_add, Nat.add_zero, ar hm 590 0, ar hm 590 3, hC.1.1, hC.1.2.2.2, hf]
    refine gCi htr (x_places m (a := 598) (n := 8) rfl rfl (by decide) h8 (by omega) _) (by omega) ?_
    rw [msk_cong (Q := fun p => A (61 + p) 0 = nI s) (fun p hp => by rw [ar hm 598 p, (hC.2.2.2.2.2 p hp).1])]
    show mCal l g d k_X11_deepest Φ 4 24 _ 64 k_J6_bitCount_0f7a4 false [.int ((msk (fun p => A (61 + p) 0 = nI s) (nP A)) &&& ((m 626 3) ^^^ (-1 : Int32)))] [] [.ref 586, .int w, .ref 590, .int ((amx f s).1), .int ((amx f s).2), .int (nI s), .int ((msk (fun p => A (61 + p) 0 = nI s) (nP A)) &&& ((m 626 3) ^^^ (-1 : Int32)))] m o 4 24 1
    obtain ⟨n, hn, eb, eo⟩ := dp_bits A hA (A 494) hQ.2.2.2.1 (nI s)
    rw [hN.2.2.2.1, eb]
    have hdp := hdp s
    rw [← eo] at hdp
    refine gCi htr (j_bitCount m hn) (by omega) ?_
    rw [← hdp]
    show ((f s) ≤ ((amx f s).2) → mWB l g d k_X11_deepest Φ 4 24 25 [.ref 586, .int w, .ref 590, .int ((amx f s).1), .int ((amx f s).2), .int ((nI s) + (1 : Int32)), .int (nI n)] [] m o 4 24) ∧ (¬ (f s) ≤ ((amx f s).2) → mCal l g d k_X11_deepest Φ 4 24 _ 74 k_J6_bitCount_0f7a4 false [.int (nI n)] [] [.ref 586, .int w, .ref 590, .int ((amx f s).1), .int ((amx f s).2), .int (nI s), .int (nI n)] m o 4 24 1)
    refine ⟨fun q => ?_, fun q => gCi htr (j_bitCount m hn) (by omega) ?_⟩
    · rw [amx_f (fun z => (fa_of_lt z).2.1 q)] at ih
      rw [nI_1]
      exact mWB_wk ih ⟨Or.inr rfl, Or.inr rfl, Or.inr rfl, Or.inr rfl, Or.inr rfl, Or.inr rfl, Or.inl rfl, trivial⟩
    · rw [← hdp]
      rw [amx_t (fa_of_nle q)] at ih
      show mWB l g d k_X11_deepest Φ 4 24 25 [.ref 586, .int w, .ref 590, .int (nI s), .int (f s), .int (nI s + 1), .int (nI n)] [] m o 4 24
      rw [nI_1]
      exact mWB_wk ih ⟨Or.inr rfl, Or.inr rfl, Or.inr rfl, Or.inr rfl, Or.inr rfl, Or.inr rfl, Or.inl rfl, trivial⟩
theorem x_range (hQ : Qr A) {m : Mm} (hm : cl m = A) (hd : 8 ≤ d) (k : Int32) : xS l g d k_X11_range [.ref 586, .int k] m A (qRng A k) := by
  have hA := hQ.1.1
  have hC := hQ.2.2.2.2.1
  have h6 := hA.2.2.1.2
  have h9 := hA.1.2
  refine nBx 2 rfl rfl rfl (by decide) rfl (fun htr o Φ hΦ => mGoOn (mOk (by decide)) rfl [19] 400 ?_)
  show True ∧ mCal l g d k_X11_range Φ 4 24 _ 9 k_X1_hasMan false [.ref 590, .int k] [.ref 586] [.ref 586, .int k, mJ, mJ] m o 0 0 1
  unfold qRng at hΦ
  refine ⟨trivial, gCi htr (x_hasMan hA hC (csim_of hm) k) (by omega) ?_⟩
  show True ∧ mCal l g d k_X11_range Φ 4 24 _ 12 k_X11_needElement false [.ref 586, .int (pI (In k (nM A)))] [] [.ref 586, .int k, mJ, mJ] m o 0 0 0
  refine ⟨trivial, cNeedE htr rfl (by omega) (by decide) (by decide) (fun h => ?_) (fun h => by
    replace h := pI_0.mp h
    rw [ifp_f (h)] at hΦ
    exact hΦ _ _ (xk_n hm))⟩
  replace h := pI_1.mp h
  rw [ifp_t (h)] at hΦ
  obtain ⟨k, hk, rfl⟩ := h
  rw [nI_cl (by omega)] at hΦ
  show mWB l g d k_X11_range Φ 4 24 19 [.ref 586, .int (nI k), .int (uni (fun s => jshl 1 (sayN A k s (A 494 35))) 0), .int (nI 0)] [] m o 1 6
  refine mWB_widen (cN' := 4) (sN' := 24) ?_ (by decide) (by decide)
  refine mLoopZ (P := fun s => ∀ m, cl m = A → mWB l g d k_X11_range Φ 4 24 19 [.ref 586, .int (nI k), .int (uni (fun s => jshl 1 (sayN A k s (A 494 35))) s), .int (nI s)] [] m o 4 24) (N := nS A) (fun m hm => mGoOn (mOk (by decide)) rfl [19] 400 ?_) (fun s hi ih m hm => mGoOn (mOk (by decide)) rfl [19] 400 ?_) m hm
  · show ((m 590 0) ≤ (nI (nS A)) → Φ (.inl (some (.int (uni (fun s => jshl 1 (sayN A k s (A 494 35))) (nS A))))) m o ∧ 4 ≤ 4 ∧ 24 ≤ 24) ∧ (¬ (m 590 0) ≤ (nI (nS A)) → True ∧ mCal l g d k_X11_range Φ 4 24 _ 38 k_X11_cryIn false [.ref 586, .int (nI k), .int (nI (nS A))] [.int (1 : Int32), .int (uni (fun s => jshl 1 (sayN A k s (A 494 35))) (nS A))] [.ref 586, .int (nI k), .int (uni (fun s => jshl 1 (sayN A k s (A 494 35))) (nS A)), .int (nI (nS A))] m o 4 24 1)
    simp (disch := omega) only [mReq_tt, nI_0a, nI_a0, nI_cl, mIn_ok, lit_add, lit_sub, add_lit, lit_le, le_lit, lit_lt, lt_lit, eq_lit, nI_add, nI_1, nI_leI, nI_ltI, nI_eq, mIn_lit, mIn_0, mIn_1, mIn_2, mIn_3, nI_l0, nI_p0, rf_22, rf_44, rf_60, rf_69, rf_391, rf_7, rf_37, rf_51, rf_230, rf_401, rf_413, rf_496, rf_513, rf_518, sB_2, sB_3, sB_4, sB_5, sB_6, sB_7, sL_2, sL_3, sL_4, sL_5, sL_6, sL_7, not_true_eq_false, not_false_eq_true, false_implies, true_implies, true_and, and_true, eq_self, true_or, or_true, Nat.le_refl, Nat.zero_add, Nat.add_zero, ar hm 590 0, hC.1.1]
    exact hΦ _ _ (xk_v hm rfl)
  show ((m 590 0) ≤ (nI s) → Φ (.inl (some (.int (uni (fun s => jshl 1 (sayN A k s (A 494 35))) s)))) m o ∧ 4 ≤ 4 ∧ 24 ≤ 24) ∧ (¬ (m 590 0) ≤ (nI s) → True ∧ mCal l g d k_X11_range Φ 4 24 _ 38 k_X11_cryIn false [.ref 586, .int (nI k), .int (nI s)] [.int (1 : Int32), .int (uni (fun s => jshl 1 (sayN A k s (A 494 35))) s)] [.ref 586, .int (nI k), .int (uni (fun s => jshl 1 (sayN A k s (A 494 35))) s), .int (nI s)] m o 4 24 1)
  have hf : ¬ nS A ≤ s := by omega
  simp (disch := omega) only [mReq_tt, nI_0a, nI_a0, nI_cl, mIn_ok, lit_add, lit_sub, add_lit, lit_le, le_lit, lit_lt, lt_lit, eq_lit, nI_add, nI_1, nI_leI, nI_ltI, nI_eq, mIn_lit, mIn_0, mIn_1, mIn_2, mIn_3, nI_l0, nI_p0, rf_22, rf_44, rf_60, rf_69, rf_391, rf_7, rf_37, rf_51, rf_230, rf_401, rf_413, rf_496, rf_513, rf_518, sB_2, sB_3, sB_4, sB_5, sB_6, sB_7, sL_2, sL_3, sL_4, sL_5, sL_6, sL_7, not_true_eq_false, not_false_eq_true, false_implies, true_implies, true_and, and_true, eq_self, true_or, or_true, Nat.le_refl, Nat.zero_add, Nat.add_zero, ar hm 590 0, hC.1.1, hf]
  refine hCi htr (x_cryIn hQ hm (by omega) hk (by omega)) (by omega) ?_
  intro x m2 hx
  show mWB l g d k_X11_range Φ 4 24 19 [.ref 586, .int (nI k), .int ((uni (fun s => jshl 1 (sayN A k s (A 494 35))) s) ||| (jshl (1 : Int32) x)), .int ((nI s) + (1 : Int32))] [] m2 o 4 24
  rw [hx.1, nI_1]
  exact ih m2 hx.2
theorem x_agree (hQ : Qr A) {m : Mm} (hm : cl m = A) (hd : 8 ≤ d) (w : Int32) : xS l g d k_X11_agree [.ref 586, .int w] m A (qAgr A w) := by
  have hA := hQ.1.1
  have hC := hQ.2.2.2.2.1
  have h6 := hA.2.2.1.2
  refine nBx 5 rfl rfl rfl (by decide) rfl (fun htr o Φ hΦ => mGoOn (mOk (by decide)) rfl [16,45] 400 ?_)
  show mCal l g d k_X11_agree Φ 4 24 _ 3 k_X11_isChoice false [.int w, .int (2 : Int32)] [.ref 586] [.ref 586, .int w, mJ, mJ, mJ, mJ, mJ] m o 0 0 1
  unfold qAgr at hΦ
  refine gCi htr (x_isChoice m (by omega) w (n := 2) (by decide)) (by omega) ?_
  show True ∧ mCal l g d k_X11_agree Φ 4 24 _ 6 k_X11_needArgument false [.ref 586, .int (pI (In w 2))] [] [.ref 586, .int w, mJ, mJ, mJ, mJ, mJ] m o 0 0 0
  refine ⟨trivial, cNeedA htr rfl (by omega) (by decide) (by decide) (fun h => ?_) (fun h => by
    replace h := pI_0.mp h
    rw [ifp_f (h)] at hΦ
    exact hΦ _ _ (xk_a hm (by decide)))⟩
  replace h := pI_1.mp h
  rw [ifp_t (h)] at hΦ
  dsimp only at hΦ
  show mWB l g d k_X11_agree Φ 4 24 16 [.ref 586, .int w, .int ((fo2 (agQ A) c10 (nM A) 0 (0, -1)).1), .int ((fo2 (agQ A) c10 (nM A) 0 (0, -1)).2), .int (nI 0), mJ, mJ] [] m o 1 6
  refine mWB_widen (cN' := 4) (sN' := 24) ?_ (by decide) (by decide)
  refine mLoopZ (P := fun a => ∀ m, cl m = A → mWB l g d k_X11_agree Φ 4 24 16 [.ref 586, .int w, .int ((fo2 (agQ A) c10 (nM A) a (0, -1)).1), .int ((fo2 (agQ A) c10 (nM A) a (0, -1)).2), .int (nI a), mJ, mJ] [] m o 4 24) (N := nM A) (fun m hm => mGoOn (mOk (by decide)) rfl [16,45] 400 ?_) (fun a hi ih m hm => mGoOn (mOk (by decide)) rfl [16,45] 400 ?_) m hm
  · show ((m 590 2) ≤ (nI (nM A)) → (¬ w = 0 → Φ (.inl (some (.int ((fo2 (agQ A) c10 (nM A) (nM A) (0, -1)).2)))) m o ∧ 4 ≤ 4 ∧ 24 ≤ 24) ∧ (w = 0 → Φ (.inl (some (.int ((fo2 (agQ A) c10 (nM A) (nM A) (0, -1)).1)))) m o ∧ 4 ≤ 4 ∧ 24 ≤ 24)) ∧ (¬ (m 590 2) ≤ (nI (nM A)) → True ∧ mCal l g d k_X11_agree Φ 4 24 _ 34 k_X11_cryAtHome false [.ref 586, .int (nI (nM A))] [] [.ref 586, .int w, .int ((fo2 (agQ A) c10 (nM A) (nM A) (0, -1)).1), .int ((fo2 (agQ A) c10 (nM A) (nM A) (0, -1)).2), .int (nI (nM A)), mJ, mJ] m o 4 24 1)
    simp (disch := omega) only [mReq_tt, nI_0a, nI_a0, nI_cl, mIn_ok, lit_add, lit_sub, add_lit, lit_le, le_lit, lit_lt, lt_lit, eq_lit, nI_add, nI_1, nI_leI, nI_ltI, nI_eq, mIn_lit, mIn_0, mIn_1, mIn_2, mIn_3, nI_l0, nI_p0, rf_22, rf_44, rf_60, rf_69, rf_391, rf_7, rf_37, rf_51, rf_230, rf_401, rf_413, rf_496, rf_513, rf_518, sB_2, sB_3, sB_4, sB_5, sB_6, sB_7, sL_2, sL_3, sL_4, sL_5, sL_6, sL_7, not_true_eq_false, not_false_eq_true, false_implies, true_implies, true_and, and_true, eq_self, true_or, or_true, Nat.le_refl, Nat.zero_add, Nat.add_zero, ar hm 590 2, hC.1.2.2.1]
    exact ⟨fun q => hΦ _ _ (xk_v hm (by rw [if_neg q])), fun q => hΦ _ _ (xk_v hm (by rw [if_pos q]))⟩
  show ((m 590 2) ≤ (nI a) → (¬ w = 0 → Φ (.inl (some (.int ((fo2 (agQ A) c10 (nM A) a (0, -1)).2)))) m o ∧ 4 ≤ 4 ∧ 24 ≤ 24) ∧ (w = 0 → Φ (.inl (some (.int ((fo2 (agQ A) c10 (nM A) a (0, -1)).1)))) m o ∧ 4 ≤ 4 ∧ 24 ≤ 24)) ∧ (¬ (m 590 2) ≤ (nI a) → True ∧ mCal l g d k_X11_agree Φ 4 24 _ 34 k_X11_cryAtHome false [.ref 586, .int (nI a)] [] [.ref 586, .int w, .int ((fo2 (agQ A) c10 (nM A) a (0, -1)).1), .int ((fo2 (agQ A) c10 (nM A) a (0, -1)).2), .int (nI a), mJ, mJ] m o 4 24 1)
  have hf : ¬ nM A ≤ a := by omega
  simp (disch := omega) only [mReq_tt, nI_0a, nI_a0, nI_cl, mIn_ok, lit_add, lit_sub, add_lit, lit_le, le_lit, lit_lt, lt_lit, eq_lit, nI_add, nI_1, nI_leI, nI_ltI, nI_eq, mIn_lit, mIn_0, mIn_1, mIn_2, mIn_3, nI_l0, nI_p0, rf_22, rf_44, rf_60, rf_69, rf_391, rf_7, rf_37, rf_51, rf_230, rf_401, rf_413, rf_496, rf_513, rf_518, sB_2, sB_3, sB_4, sB_5, sB_6, sB_7, sL_2, sL_3, sL_4, sL_5, sL_6, sL_7, not_true_eq_false, not_false_eq_true, false_implies, true_implies, true_and, and_true, eq_self, true_or, or_true, Nat.le_refl, Nat.zero_add, Nat.add_zero, ar hm 590 2, hC.1.2.2.1, hf]
  replace ih : ∀ m, cl m = A → mWB l g d k_X11_agree Φ 4 24 16 [.ref 586, .int w, .int ((fo (st2 (agQ A) c10 a) (nM A) (fo2 (agQ A) c10 (nM A) a (0, -1))).1), .int ((fo (st2 (agQ A) c10 a) (nM A) (fo2 (agQ A) c10 (nM A) a (0, -1))).2), .int (nI (a + 1)), mJ, mJ] [] m o 4 24 := ih
  generalize fo2 (agQ A) c10 (nM A) a (0, -1) = s0 at ih ⊢
  refine hCi htr (x_cryAtHome hQ hm (by omega) hi) (by omega) ?_
  intro x m2 hx
  have hx1 := hx.1
  have key : ∀ b, b ≤ nM A → a + 1 ≤ b → ∀ m, cl m = A → mWB l g d k_X11_agree Φ 4 24 45 [.ref 586, .int w, .int ((fo (st2 (agQ A) c10 a) b s0).1), .int ((fo (st2 (agQ A) c10 a) b s0).2), .int (nI a), .int x, .int (nI b)] [] m o 4 24 := by
    refine mLoop ?_ ?_
    · intro b hb ihb hab m hm
      refine mGoOn (mOk (by decide)) rfl [16,45] 400 ?_
      show ((m 590 2) ≤ (nI b) → mWB l g d k_X11_agree Φ 4 24 16 [.ref 586, .int w, .int ((fo (st2 (agQ A) c10 a) b s0).1), .int ((fo (st2 (agQ A) c10 a) b s0).2), .int ((nI a) + (1 : Int32)), .int x, .int (nI b)] [] m o 4 24) ∧ (¬ (m 590 2) ≤ (nI b) → True ∧ mCal l g d k_X11_agree Φ 4 24 _ 63 k_X11_cryAtHome false [.ref 586, .int (nI b)] [] [.ref 586, .int w, .int ((fo (st2 (agQ A) c10 a) b s0).1), .int ((fo (st2 (agQ A) c10 a) b s0).2), .int (nI a), .int x, .int (nI b)] m o 4 24 1)
      have hfb : ¬ nM A ≤ b := by omega
      simp (disch := omega) only [mReq_tt, nI_0a, nI_a0, nI_cl, mIn_ok, lit_add, lit_sub, add_lit, lit_le, le_lit, lit_lt, lt_lit, eq_lit, nI_add, nI_1, nI_leI, nI_ltI, nI_eq, mIn_lit, mIn_0, mIn_1, mIn_2, mIn_3, nI_l0, nI_p0, rf_22, rf_44, rf_60, rf_69, rf_391, rf_7, rf_37, rf_51, rf_230, rf_401, rf_413, rf_496, rf_513, rf_518, sB_2, sB_3, sB_4, sB_5, sB_6, sB_7, sL_2, sL_3, sL_4, sL_5, sL_6, sL_7, not_true_eq_false, not_false_eq_true, false_implies, true_implies, true_and, and_true, eq_self, true_or, or_true, Nat.le_refl, Nat.zero_add, Nat.add_zero, ar hm 590 2, hC.1.2.2.1, hfb]
      refine hCi htr (x_cryAtHome hQ hm (by omega) hb) (by omega) ?_
      intro y m3 hy
      show (¬ y = x → mWB l g d k_X11_agree Φ 4 24 45 [.ref 586, .int w, .int ((fo (st2 (agQ A) c10 a) b s0).1), .int ((fo (st2 (agQ A) c10 a) b s0).2), .int (nI a), .int x, .int ((nI b) + (1 : Int32))] [] m3 o 4 24) ∧ (y = x → (¬ ((fo (st2 (agQ A) c10 a) b s0).1) = 0 → mWB l g d k_X11_agree Φ 4 24 45 [.ref 586, .int w, .int (((fo (st2 (agQ A) c10 a) b s0).1) + (1 : Int32)), .int ((fo (st2 (agQ A) c10 a) b s0).2), .int (nI a), .int x, .int ((nI b) + (1 : Int32))] [] m3 o 4 24) ∧ (((fo (st2 (agQ A) c10 a) b s0).1) = 0 → mWB l g d k_X11_agree Φ 4 24 45 [.ref 586, .int w, .int (((fo (st2 (agQ A) c10 a) b s0).1) + (1 : Int32)), .int (((10 : Int32) * (nI a)) + (nI b)), .int (nI a), .int x, .int ((nI b) + (1 : Int32))] [] m3 o 4 24))
      rw [nI_1]
      have ihb := ihb (by omega) m3 hy.2
      rw [fo_s] at ihb
      generalize fo (st2 (agQ A) c10 a) b s0 = t at ihb ⊢
      unfold st2 at ihb
      refine ⟨fun q => ?_, fun q => ?_⟩
      · rw [ifp_f (fun z => q (hy.1.trans (z.2.symm.trans hx1.symm)))] at ihb
        exact ihb
      · rw [ifp_t ⟨by omega, hx1.symm.trans (q.symm.trans hy.1)⟩] at ihb
        exact ⟨fun z => by rw [if_neg z] at ihb; exact ihb, fun z => by rw [if_pos z] at ihb; exact ihb⟩
    · intro hab m hm
      refine mGoOn (mOk (by decide)) rfl [16,45] 400 ?_
      show ((m 590 2) ≤ (nI (nM A)) → mWB l g d k_X11_agree Φ 4 24 16 [.ref 586, .int w, .int ((fo (st2 (agQ A) c10 a) (nM A) s0).1), .int ((fo (st2 (agQ A) c10 a) (nM A) s0).2), .int ((nI a) + (1 : Int32)), .int x, .int (nI (nM A))] [] m o 4 24) ∧ (¬ (m 590 2) ≤ (nI (nM A)) → True ∧ mCal l g d k_X11_agree Φ 4 24 _ 63 k_X11_cryAtHome false [.ref 586, .int (nI (nM A))] [] [.ref 586, .int w, .int ((fo (st2 (agQ A) c10 a) (nM A) s0).1), .int ((fo (st2 (agQ A) c10 a) (nM A) s0).2), .int (nI a), .int x, .int (nI (nM A))] m o 4 24 1)
      simp (disch := omega) only [mReq_tt, nI_0a, nI_a0, nI_cl, mIn_ok, lit_add, lit_sub, add_lit, lit_le, le_lit, lit_lt, lt_lit, eq_lit, nI_add, nI_1, nI_leI, nI_ltI, nI_eq, mIn_lit, mIn_0, mIn_1, mIn_2, mIn_3, nI_l0, nI_p0, rf_22, rf_44, rf_60, rf_69, rf_391, rf_7, rf_37, rf_51, rf_230, rf_401, rf_413, rf_496, rf_513, rf_518, sB_2, sB_3, sB_4, sB_5, sB_6, sB_7, sL_2, sL_3, sL_4, sL_5, sL_6, sL_7, not_true_eq_false, not_false_eq_true, false_implies, true_implies, true_and, and_true, eq_self, true_or, or_true, Nat.le_refl, Nat.zero_add, Nat.add_zero, ar hm 590 2, hC.1.2.2.1]
      exact mWB_wk (ih m hm) ⟨Or.inr rfl, Or.inr rfl, Or.inr rfl, Or.inr rfl, Or.inr rfl, Or.inl rfl, Or.inl rfl, trivial⟩
  have k1 := key (a + 1) (by omega) (Nat.le_refl _) m2 hx.2
  rw [fo_id (st := st2 (agQ A) c10 a) (n := a + 1) (fun k hk s => ifp_f (fun z => by have := z.1; omega)), ← nI_1] at k1
  exact k1
theorem x_would (hQ : Qr A) {m : Mm} (hm : cl m = A) (hd : 8 ≤ d) (a b c s e w n h : Int32) : xS l g d k_X11_would [.ref 586, .int a, .int b, .int c, .int s, .int e, .int w, .int n, .int h] m A (qWld A a b c s e w n h) := by
  refine nBx 0 rfl rfl rfl (by decide) rfl (fun htr o Φ hΦ => mGoOn (mOk (by decide)) rfl [42,72,104,107] 400 ?_)
  show mCal l g d k_X11_would Φ 4 24 _ 2 k_X11_isHour false [.int a] [.ref 586] [.ref 586, .int a, .int b, .int c, .int s, .int e, .int w, .int n, .int h] m o 0 0 1
  unfold qWld at hΦ
  have wi : ∀ (v : Int32) (N : Nat) (hi : Int32), N < 2 ^ 31 → hi = nI N - 1 → mFi l g (d - 1) k_X11_within [.int v, .int 0, .int hi] m (pI (In v N)) m := by
    intro v N hi hN e
    have h := x_within (l := l) (g := g) (d := d - 1) m v 0 hi
    rwa [show pI (0 ≤ v ∧ v ≤ hi) = pI (In v N) from by rw [show (0 ≤ v ∧ v ≤ hi) = In v N from by rw [e]; exact propext (in_In hN)]] at h
  have fin : In a 24 ∧ In b 24 ∧ In c 1000 ∧ In s 9 ∧ In e 6 ∧ (1 ≤ w ∧ w ≤ 24) ∧ In n 301 ∧ In h 25 → mWB l g d k_X11_would Φ 4 24 107 [.ref 586, .int a, .int b, .int c, .int s, .int e, .int w, .int n, .int h] [] m o 3 18 := by
    intro hall
    rw [ifp_t hall] at hΦ
    refine mGoOn (mOk (by decide)) rfl [] 400 ?_
    show mCal l g d k_X11_would Φ 4 24 _ 113 k_X11_put false [.ref 706, .int (0 : Int32), .int a] [] [.ref 586, .int a, .int b, .int c, .int s, .int e, .int w, .int n, .int h] m o 3 18 0
    refine gCv htr (x_put m (a := 706) (n := 8) (k := 0) rfl rfl (by decide) (by decide) _) (by omega) ?_
    refine gCv htr (x_put _ (a := 706) (n := 8) (k := 1) rfl rfl (by decide) (by decide) _) (by omega) ?_
    refine gCv htr (x_put _ (a := 706) (n := 8) (k := 2) rfl rfl (by decide) (by decide) _) (by omega) ?_
    refine gCv htr (x_put _ (a := 706) (n := 8) (k := 3) rfl rfl (by decide) (by decide) _) (by omega) ?_
    refine gCv htr (x_put _ (a := 706) (n := 8) (k := 4) rfl rfl (by decide) (by decide) _) (by omega) ?_
    refine gCv htr (x_put _ (a := 706) (n := 8) (k := 5) rfl rfl (by decide) (by decide) _) (by omega) ?_
    refine gCv htr (x_put _ (a := 706) (n := 8) (k := 6) rfl rfl (by decide) (by decide) _) (by omega) ?_
    refine gCv htr (x_put _ (a := 706) (n := 8) (k := 7) rfl rfl (by decide) (by decide) _) (by omega) ?_
    have hm2 : cl (mset (mset (mset (mset (mset (mset (mset (mset m 706 0 a) 706 1 b) 706 2 c) 706 3 s) 706 4 e) 706 5 w) 706 6 n) 706 7 h) = A := cl_mset (cl_mset (cl_mset (cl_mset (cl_mset (cl_mset (cl_mset (cl_mset hm _ rfl) _ rfl) _ rfl) _ rfl) _ rfl) _ rfl) _ rfl) _ rfl
    have hkn : ∀ j, j < 8 → mset (mset (mset (mset (mset (mset (mset (mset m 706 0 a) 706 1 b) 706 2 c) 706 3 s) 706 4 e) 706 5 w) 706 6 n) 706 7 h 706 j = kn8 a b c s e w n h j := by
      intro j hj
      simp only [mset_eq, upd_at]
      unfold kn8
      rcases (show j = 0 ∨ j = 1 ∨ j = 2 ∨ j = 3 ∨ j = 4 ∨ j = 5 ∨ j = 6 ∨ j = 7 by omega) with rfl | rfl | rfl | rfl | rfl | rfl | rfl | rfl <;> rfl
    generalize mset (mset (mset (mset (mset (mset (mset (mset m 706 0 a) 706 1 b) 706 2 c) 706 3 s) 706 4 e) 706 5 w) 706 6 n) 706 7 h = m2 at hm2 hkn ⊢
    refine ⟨trivial, hCi htr (x_hourFor hQ.2.1 hQ.2.2.2.2.2.1 (csim_of hm2) (by omega) (Or.inr rfl) hkn) (by omega) ?_⟩
    intro x m3 hx
    exact e4 (hΦ _ _ (xk_v (eqC_cl (eqV_C hx.2) hm2) hx.1))
  have k3 : In a 24 ∧ In b 24 ∧ In c 1000 ∧ In s 9 ∧ In e 6 ∧ (1 ≤ w ∧ w ≤ 24) → ∀ z : Int32, z = pI (In n 301 ∧ In h 25) → mWB l g d k_X11_would Φ 4 24 104 [.ref 586, .int a, .int b, .int c, .int s, .int e, .int w, .int n, .int h] [.int z, .ref 586] m o 2 12 := by
    rintro ⟨h1, h2, h3, h4, h5, h6⟩ z rfl
    refine mGoOn (mOk (by decide)) rfl [107] 400 ?_
    show True ∧ mCal l g d k_X11_would Φ 4 24 _ 104 k_X11_needArgument false [.ref 586, .int (pI (In n 301 ∧ In h 25))] [] [.ref 586, .int a, .int b, .int c, .int s, .int e, .int w, .int n, .int h] m o 2 12 0
    refine ⟨trivial, cNeedA htr rfl (by omega) (by decide) (by decide) (fun q => ?_) (fun q => by
      replace q := pI_0.mp q
      rw [ifp_f (fun z => q ⟨z.2.2.2.2.2.2.1, z.2.2.2.2.2.2.2⟩)] at hΦ
      exact hΦ _ _ (xk_a hm (by decide)))⟩
    replace q := pI_1.mp q
    exact fin ⟨h1, h2, h3, h4, h5, h6, q⟩
  have k2 : In a 24 ∧ In b 24 ∧ In c 1000 ∧ In s 9 → ∀ z : Int32, z = pI (In e 6 ∧ (1 ≤ w ∧ w ≤ 24)) → mWB l g d k_X11_would Φ 4 24 72 [.ref 586, .int a, .int b, .int c, .int s, .int e, .int w, .int n, .int h] [.int z, .ref 586] m o 1 6 := by
    rintro ⟨h1, h2, h3, h4⟩ z rfl
    refine mGoOn (mOk (by decide)) rfl [104] 400 ?_
    show True ∧ mCal l g d k_X11_would Φ 4 24 _ 72 k_X11_needArgument false [.ref 586, .int (pI (In e 6 ∧ (1 ≤ w ∧ w ≤ 24)))] [] [.ref 586, .int a, .int b, .int c, .int s, .int e, .int w, .int n, .int h] m o 1 6 0
    refine ⟨trivial, cNeedA htr rfl (by omega) (by decide) (by decide) (fun q => ?_) (fun q => by
      replace q := pI_0.mp q
      rw [ifp_f (fun z => q ⟨z.2.2.2.2.1, z.2.2.2.2.2.1⟩)] at hΦ
      exact hΦ _ _ (xk_a hm (by decide)))⟩
    replace q := pI_1.mp q
    refine gCi htr (wi n 301 300 (by decide) rfl) (by omega) ?_
    show ((pI (In n 301)) = 0 → mWB l g d k_X11_would Φ 4 24 104 [.ref 586, .int a, .int b, .int c, .int s, .int e, .int w, .int n, .int h] [.int (0 : Int32), .ref 586] m o 2 12) ∧ (¬ (pI (In n 301)) = 0 → mCal l g d k_X11_would Φ 4 24 _ 93 k_X11_within false [.int h, .int (0 : Int32), .int (24 : Int32)] [.ref 586] [.ref 586, .int a, .int b, .int c, .int s, .int e, .int w, .int n, .int h] m o 2 12 1)
    refine ⟨fun z => k3 ⟨h1, h2, h3, h4, q⟩ 0 (pI_f (fun y => pI_0.mp z y.1)).symm, fun z => gCi htr (wi h 25 24 (by decide) rfl) (by omega) ?_⟩
    show ((pI (In h 25)) = 0 → mWB l g d k_X11_would Φ 4 24 104 [.ref 586, .int a, .int b, .int c, .int s, .int e, .int w, .int n, .int h] [.int (0 : Int32), .ref 586] m o 2 12) ∧ (¬ (pI (In h 25)) = 0 → mWB l g d k_X11_would Φ 4 24 104 [.ref 586, .int a, .int b, .int c, .int s, .int e, .int w, .int n, .int h] [.int (1 : Int32), .ref 586] m o 2 12)
    exact ⟨fun y => k3 ⟨h1, h2, h3, h4, q⟩ 0 (pI_f (fun x => pI_0.mp y x.2)).symm, fun y => k3 ⟨h1, h2, h3, h4, q⟩ 1 (pI_t ⟨pI_1.mp z, pI_1.mp y⟩).symm⟩
  have k1 : ∀ z : Int32, z = pI (In a 24 ∧ In b 24 ∧ In c 1000 ∧ In s 9) → mWB l g d k_X11_would Φ 4 24 42 [.ref 586, .int a, .int b, .int c, .int s, .int e, .int w, .int n, .int h] [.int z, .ref 586] m o 0 0 := by
    rintro z rfl
    refine mGoOn (mOk (by decide)) rfl [72] 400 ?_
    show True ∧ mCal l g d k_X11_would Φ 4 24 _ 42 k_X11_needArgument false [.ref 586, .int (pI (In a 24 ∧ In b 24 ∧ In c 1000 ∧ In s 9))] [] [.ref 586, .int a, .int b, .int c, .int s, .int e, .int w, .int n, .int h] m o 0 0 0
    refine ⟨trivial, cNeedA htr rfl (by omega) (by decide) (by decide) (fun q => ?_) (fun q => by
      replace q := pI_0.mp q
      rw [ifp_f (fun z => q ⟨z.1, z.2.1, z.2.2.1, z.2.2.2.1⟩)] at hΦ
      exact hΦ _ _ (xk_a hm (by decide)))⟩
    replace q := pI_1.mp q
    refine gCi htr (wi e 6 5 (by decide) rfl) (by omega) ?_
    show ((pI (In e 6)) = 0 → mWB l g d k_X11_would Φ 4 24 72 [.ref 586, .int a, .int b, .int c, .int s, .int e, .int w, .int n, .int h] [.int (0 : Int32), .ref 586] m o 1 6) ∧ (¬ (pI (In e 6)) = 0 → mCal l g d k_X11_would Φ 4 24 _ 61 k_X11_within false [.int w, .int (1 : Int32), .int (24 : Int32)] [.ref 586] [.ref 586, .int a, .int b, .int c, .int s, .int e, .int w, .int n, .int h] m o 1 6 1)
    refine ⟨fun z => k2 q 0 (pI_f (fun y => pI_0.mp z y.1)).symm, fun z => gCi htr (x_within m w 1 24) (by omega) ?_⟩
    show ((pI (1 ≤ w ∧ w ≤ 24)) = 0 → mWB l g d k_X11_would Φ 4 24 72 [.ref 586, .int a, .int b, .int c, .int s, .int e, .int w, .int n, .int h] [.int (0 : Int32), .ref 586] m o 1 6) ∧ (¬ (pI (1 ≤ w ∧ w ≤ 24)) = 0 → mWB l g d k_X11_would Φ 4 24 72 [.ref 586, .int a, .int b, .int c, .int s, .int e, .int w, .int n, .int h] [.int (1 : Int32), .ref 586] m o 1 6)
    exact ⟨fun y => k2 q 0 (pI_f (fun x => pI_0.mp y x.2)).symm, fun y => k2 q 1 (pI_t ⟨pI_1.mp z, pI_1.mp y⟩).symm⟩
  refine gCi htr (x_isHour m (by omega) a) (by omega) ?_
  show ((pI (In a 24)) = 0 → mWB l g d k_X11_would Φ 4 24 42 [.ref 586, .int a, .int b, .int c, .int s, .int e, .int w, .int n, .int h] [.int (0 : Int32), .ref 586] m o 0 0) ∧ (¬ (pI (In a 24)) = 0 → mCal l g d k_X11_would Φ 4 24 _ 9 k_X11_isHour false [.int b] [.ref 586] [.ref 586, .int a, .int b, .int c, .int s, .int e, .int w, .int n, .int h] m o 0 0 1)
  refine ⟨fun z => k1 0 (pI_f (fun y => pI_0.mp z y.1)).symm, fun z1 => gCi htr (x_isHour m (by omega) b) (by omega) ?_⟩
  show ((pI (In b 24)) = 0 → mWB l g d k_X11_would Φ 4 24 42 [.ref 586, .int a, .int b, .int c, .int s, .int e, .int w, .int n, .int h] [.int (0 : Int32), .ref 586] m o 0 0) ∧ (¬ (pI (In b 24)) = 0 → mCal l g d k_X11_would Φ 4 24 _ 20 k_X11_within false [.int c, .int (0 : Int32), .int (999 : Int32)] [.ref 586] [.ref 586, .int a, .int b, .int c, .int s, .int e, .int w, .int n, .int h] m o 0 0 1)
  refine ⟨fun z => k1 0 (pI_f (fun y => pI_0.mp z y.2.1)).symm, fun z2 => gCi htr (wi c 1000 999 (by decide) rfl) (by omega) ?_⟩
  show ((pI (In c 1000)) = 0 → mWB l g d k_X11_would Φ 4 24 42 [.ref 586, .int a, .int b, .int c, .int s, .int e, .int w, .int n, .int h] [.int (0 : Int32), .ref 586] m o 0 0) ∧ (¬ (pI (In c 1000)) = 0 → mCal l g d k_X11_would Φ 4 24 _ 31 k_X11_within false [.int s, .int (0 : Int32), .int (8 : Int32)] [.ref 586] [.ref 586, .int a, .int b, .int c, .int s, .int e, .int w, .int n, .int h] m o 0 0 1)
  refine ⟨fun z => k1 0 (pI_f (fun y => pI_0.mp z y.2.2.1)).symm, fun z3 => gCi htr (wi s 9 8 (by decide) rfl) (by omega) ?_⟩
  show ((pI (In s 9)) = 0 → mWB l g d k_X11_would Φ 4 24 42 [.ref 586, .int a, .int b, .int c, .int s, .int e, .int w, .int n, .int h] [.int (0 : Int32), .ref 586] m o 0 0) ∧ (¬ (pI (In s 9)) = 0 → mWB l g d k_X11_would Φ 4 24 42 [.ref 586, .int a, .int b, .int c, .int s, .int e, .int w, .int n, .int h] [.int (1 : Int32), .ref 586] m o 0 0)
  exact ⟨fun z => k1 0 (pI_f (fun y => pI_0.mp z y.2.2.2)).symm, fun z4 => k1 1 (pI_t ⟨pI_1.mp z1, pI_1.mp z2, pI_1.mp z3, pI_1.mp z4⟩).symm⟩
end X5
