set_option maxRecDepth 100000
/-! THE NEAREST AND THE FARTHEST -/
theorem hB_ne0 {x : Int32} (h : x ≠ 0) : ∃ i, i < 32 ∧ hB x i := by
  by_cases q : ∃ i, i < 32 ∧ hB x i
  · exact q
  · exact absurd (hB_ext (fun i hi => ⟨fun z => absurd ⟨i, hi, z⟩ q, fun z => absurd z (hB_0 _)⟩)) h
theorem hcb_all {A : Mm} (hA : CtB A) {a : Nat} (ha : a < nS A) : ∀ t, t < nS A → (hB (jshl 1 (nI a)) t ↔ t = a ∧ hB (aS A) t) := fun t ht => by
  have h9 := hA.1.2
  rw [hB_sh (by omega) (by omega), hB_aS hA (by omega)]
  exact ⟨fun q => ⟨q, ht⟩, fun q => q.1⟩
theorem cm_all_in {A : Mm} (hA : CtB A) {a : Nat} (ha : a < nS A) (n : Nat) {t : Nat} (ht : t < 32) (h : hB (cm A (aS A) (jshl 1 (nI a)) n) t) : t < nS A := by
  have h9 := hA.1.2
  exact (cm_in hA (op := aS A) (c := jshl 1 (nI a)) (fun t ht y => by
    rw [hB_sh (by omega) ht] at y
    subst y
    exact ⟨ha, (hB_aS hA ht).mpr ha⟩) n t ht h).1
/-- of the first round in which one is come to, the least one -/
theorem near_arg {A : Mm} (hA : CtB A) {a : Nat} (ha : a < nS A) (W : Nat → Prop) {i n : Nat} (hi : i < 9) (hn : n < 512) (h0 : n ≠ 0) (e : ∀ t, t < 32 → (n.testBit t = true ↔ hB (cm A (aS A) (jshl 1 (nI a)) i) t ∧ t < nS A ∧ W t)) (hb : ∀ j, j < i → ∀ t, t < nS A → W t → ¬ hB (cm A (aS A) (jshl 1 (nI a)) j) t) :
    amn (fun s => fl A (aS A) a (nS A) s ≠ -1 ∧ W s) (fl A (aS A) a (nS A)) (nS A) = nI (low n) ∧ fl A (aS A) a (nS A) (low n) = nI i := by
  have h9 := hA.1.2
  obtain ⟨l1, l2, l3⟩ := low_in hn h0
  obtain ⟨b1, b2, b3⟩ := (e (low n) (by omega)).mp l1
  have hcb := hcb_all hA ha
  have val : ∀ t, t < nS A → W t → fl A (aS A) a (nS A) t ≠ -1 → ∃ j, i ≤ j ∧ j < nS A ∧ fl A (aS A) a (nS A) t = nI j ∧ hB (cm A (aS A) (jshl 1 (nI a)) j) t := by
    intro t ht hw hne
    obtain ⟨j, h1, h2, h3, h4⟩ := fl_lt (by omega) ht hne
    have hj := (cm_fl hA hcb j (by omega) t ht).mpr (by rw [h3]; exact nI_m1 (by omega))
    refine ⟨j, ?_, h1, h2, hj⟩
    rcases Nat.lt_or_ge j i with q | q
    · exact absurd hj (hb j q t ht hw)
    · exact q
  have hl : fl A (aS A) a (nS A) (low n) = nI i := by
    have h1 := (cm_fl hA hcb i (by omega) _ b2).mp b1
    obtain ⟨j, h2, h3, h4, h5⟩ := fl_lt (by omega) b2 h1
    have hji : j = i := by
      obtain ⟨j', hj', e', -⟩ := fl_v i (low n) (by omega) h1
      rw [e', nI_eq (by omega) (by omega)] at h3
      rcases Nat.lt_or_ge j i with q | q
      · exact absurd ((cm_fl hA hcb j (by omega) _ b2).mpr (by rw [h4]; exact nI_m1 (by omega))) (hb j q _ b2 b3)
      · omega
    subst hji
    have := fl_mono (A := A) (op := aS A) (a := a) (n := j) (t := low n) (by rw [h4]; exact nI_m1 (by omega)) (nS A - j)
    rw [show j + (nS A - j) = nS A by omega, h4] at this
    exact this
  refine ⟨?_, hl⟩
  refine (amn_arg _ _ (nS A) (by omega)).one (by omega) (Or.inr ⟨low n, Nat.zero_le _, b2, rfl, ⟨by rw [hl]; exact nI_m1 (by omega), b3⟩, fun k _ hk hP => ?_⟩)
  obtain ⟨j, j1, j2, j3, j4⟩ := val k hk hP.2 hP.1
  rw [hl, j3, nI_leI (by omega) (by omega), nI_leI (by omega) (by omega)]
  refine ⟨j1, fun q => ?_⟩
  have : j = i := by omega
  subst this
  have hbit := (e k (by omega)).mpr ⟨j4, hk, hP.2⟩
  rcases Nat.lt_or_ge k (low n) with y | y
  · rw [l2 k y] at hbit; cases hbit
  · exact y
theorem near_none {A : Mm} (hA : CtB A) {a : Nat} (ha : a < nS A) (W : Nat → Prop) (hb : ∀ j, j < 9 → ∀ t, t < nS A → W t → ¬ hB (cm A (aS A) (jshl 1 (nI a)) j) t) : amn (fun s => fl A (aS A) a (nS A) s ≠ -1 ∧ W s) (fl A (aS A) a (nS A)) (nS A) = -1 := by
  have h9 := hA.1.2
  refine (amn_arg _ _ (nS A) (by omega)).one (by omega) (Or.inl ⟨rfl, fun k _ hk hP => ?_⟩)
  obtain ⟨j, h1, h2, h3, h4⟩ := fl_lt (by omega) hk hP.1
  exact hb j (by omega) k hk hP.2 ((cm_fl hA (hcb_all hA ha) j (by omega) k hk).mpr (by rw [h3]; exact nI_m1 (by omega)))
section X8
variable {l : Launch} {g : mG} {d : Nat} {A : Mm}
theorem x_nearest (hQ : Qr A) {m : Mm} (hm : cl m = A) (hd : 8 ≤ d) (k h w : Int32) : xS l g d k_X11_nearest [.ref 586, .int k, .int h, .int w] m A (qNr A k h w) := by
  have hA := hQ.1.1
  have hC := hQ.2.2.2.2.1
  have h6 := hA.2.2.1.2
  have h9 := hA.1.2
  refine nBx 4 rfl rfl rfl (by decide) rfl (fun htr o Φ hΦ => mGoOn (mOk (by decide)) rfl [40,49,85,106] 400 ?_)
  show True ∧ mCal l g d k_X11_nearest Φ 4 24 _ 13 k_X1_hasMan false [.ref 590, .int k] [.ref 586] [.ref 586, .int k, .int h, .int w, .ref 590, mJ, mJ, mJ] m o 0 0 1
  unfold qNr at hΦ
  refine ⟨trivial, gCi htr (x_hasMan hA hC (csim_of hm) k) (by omega) ?_⟩
  show True ∧ mCal l g d k_X11_nearest Φ 4 24 _ 16 k_X11_needElement false [.ref 586, .int (pI (In k (nM A)))] [] [.ref 586, .int k, .int h, .int w, .ref 590, mJ, mJ, mJ] m o 0 0 0
  refine ⟨trivial, cNeedE htr rfl (by omega) (by decide) (by decide) (fun hk => ?_) (fun hk => by
    replace hk := pI_0.mp hk
    rw [ifp_f (hk)] at hΦ
    exact hΦ _ _ (xk_n hm))⟩
  replace hk := pI_1.mp hk
  rw [ifp_t (hk)] at hΦ
  obtain ⟨k, hk, rfl⟩ := hk
  rw [nI_cl (by omega)] at hΦ
  have hp := In_cl (hQ.2.2.2.1.1 k hk) (by omega)
  have rest : In w 2 → (∀ r m2, xOk A (0, 0, vNr A k h w) r m2 → Φ r m2 o) → mWB l g d k_X11_nearest Φ 4 24 49 [.ref 586, .int (nI k), .int h, .int w, .ref 590, .int (0 : Int32), .int (0 : Int32), mJ] [] m o 4 24 := by
    intro hw hΦ
    unfold vNr aNr fM at hΦ
    have hn1 : (A 494 k) = nI (A 494 k).toNatClampNeg := hp.1
    have ha := hp.2
    generalize (A 494 k).toNatClampNeg = a at hn1 ha hΦ
    generalize hW : (fun s => sayN A k s (A 494 35) = h) = W
    have hW2 : ∀ s, W s ↔ sayN A k s (A 494 35) = h := fun s => by rw [← hW]
    have hfn : (fun s => fl A (aS A) a (nS A) s ≠ -1 ∧ sayN A k s (A 494 35) = h) = (fun s => fl A (aS A) a (nS A) s ≠ -1 ∧ W s) := by rw [← hW]
    rw [hfn] at hΦ
    have k106 : ∀ m, cl m = A → mWB l g d k_X11_nearest Φ 4 24 85 [.ref 586, .int (nI k), .int h, .int w, .ref 590, .int (msk W (nS A)), mJ, mJ] [] m o 4 24 := by
      intro m hm
      refine mGoOn (mOk (by decide)) rfl [106] 400 ?_
      show mCal l g d k_X11_nearest Φ 4 24 _ 97 k_X11_at false [.ref 627, .int (nI k)] [.int (1 : Int32)] [.ref 586, .int (nI k), .int h, .int w, .ref 590, .int (msk W (nS A)), mJ, mJ] m o 4 24 1
      refine gCi htr (x_at m (a := 627) (n := 6) rfl rfl (by decide) (by omega)) (by omega) ?_
      rw [(nrNow hQ hm).2.2.2.2.1 k hk, hn1]
      show mWB l g d k_X11_nearest Φ 4 24 106 [.ref 586, .int (nI k), .int h, .int w, .ref 590, .int (msk W (nS A)), .int (cm A (aS A) (jshl 1 (nI a)) 0), .int (nI 0)] [] m o 4 24
      refine mLoopZ (P := fun n => (∀ j, j < n → ∀ t, t < nS A → W t → ¬ hB (cm A (aS A) (jshl 1 (nI a)) j) t) → mWB l g d k_X11_nearest Φ 4 24 106 [.ref 586, .int (nI k), .int h, .int w, .ref 590, .int (msk W (nS A)), .int (cm A (aS A) (jshl 1 (nI a)) n), .int (nI n)] [] m o 4 24) (N := 9) ?_ ?_ (fun j hj => by omega)
      · intro hb
        refine mGoOn (mOk (by decide)) rfl [106] 400 ?_
        show ((9 : Int32) ≤ (nI 9) → Φ (.inl (some (.int (-1 : Int32)))) m o ∧ 4 ≤ 4 ∧ 24 ≤ 24) ∧ (¬ (9 : Int32) ≤ (nI 9) → (((cm A (aS A) (jshl 1 (nI a)) 9) &&& (msk W (nS A))) = 0 → True ∧ mCal l g d k_X11_nearest Φ 4 24 _ 145 k_X1_allStreets false [.ref 590] [.int (cm A (aS A) (jshl 1 (nI a)) 9), .ref 590] [.ref 586, .int (nI k), .int h, .int w, .ref 590, .int (msk W (nS A)), .int (cm A (aS A) (jshl 1 (nI a)) 9), .int (nI 9)] m o 4 24 1) ∧ (¬ ((cm A (aS A) (jshl 1 (nI a)) 9) &&& (msk W (nS A))) = 0 → (¬ w = 0 → mCal l g d k_X11_nearest Φ 4 24 _ 135 k_X11_lowestBit false [.int ((cm A (aS A) (jshl 1 (nI a)) 9) &&& (msk W (nS A)))] [] [.ref 586, .int (nI k), .int h, .int w, .ref 590, .int (msk W (nS A)), .int (cm A (aS A) (jshl 1 (nI a)) 9), .int (nI 9)] m o 4 24 1) ∧ (w = 0 → Φ (.inl (some (.int (nI 9)))) m o ∧ 4 ≤ 4 ∧ 24 ≤ 24)))
        simp (disch := omega) only [mReq_tt, nI_0a, nI_a0, nI_cl, mIn_ok, lit_add, lit_sub, add_lit, lit_le, le_lit, lit_lt, lt_lit, eq_lit, nI_add, nI_1, nI_leI, nI_ltI, nI_eq, mIn_lit, mIn_0, mIn_1, mIn_2, mIn_3, nI_l0, nI_p0, rf_22, rf_44, rf_60, rf_69, rf_391, rf_7, rf_37, rf_51, rf_230, rf_401, rf_413, rf_496, rf_513, rf_518, sB_2, sB_3, sB_4, sB_5, sB_6, sB_7, sL_2, sL_3, sL_4, sL_5, sL_6, sL_7, not_true_eq_false, not_false_eq_true, false_implies, true_implies, true_and, and_true, eq_self, true_or, or_true, Nat.le_refl, Nat.zero_add, Nat.add_zero]
        rw [near_none hA ha W hb, if_pos (Or.inr rfl)] at hΦ
        exact hΦ _ _ (xk_v hm rfl)
      · intro n hn ih hb
        refine mGoOn (mOk (by decide)) rfl [106] 400 ?_
        show ((9 : Int32) ≤ (nI n) → Φ (.inl (some (.int (-1 : Int32)))) m o ∧ 4 ≤ 4 ∧ 24 ≤ 24) ∧ (¬ (9 : Int32) ≤ (nI n) → (((cm A (aS A) (jshl 1 (nI a)) n) &&& (msk W (nS A))) = 0 → True ∧ mCal l g d k_X11_nearest Φ 4 24 _ 145 k_X1_allStreets false [.ref 590] [.int (cm A (aS A) (jshl 1 (nI a)) n), .ref 590] [.ref 586, .int (nI k), .int h, .int w, .ref 590, .int (msk W (nS A)), .int (cm A (aS A) (jshl 1 (nI a)) n), .int (nI n)] m o 4 24 1) ∧ (¬ ((cm A (aS A) (jshl 1 (nI a)) n) &&& (msk W (nS A))) = 0 → (¬ w = 0 → mCal l g d k_X11_nearest Φ 4 24 _ 135 k_X11_lowestBit false [.int ((cm A (aS A) (jshl 1 (nI a)) n) &&& (msk W (nS A)))] [] [.ref 586, .int (nI k), .int h, .int w, .ref 590, .int (msk W (nS A)), .int (cm A (aS A) (jshl 1 (nI a)) n), .int (nI n)] m o 4 24 1) ∧ (w = 0 → Φ (.inl (some (.int (nI n)))) m o ∧ 4 ≤ 4 ∧ 24 ≤ 24)))
        have hf : ¬ 9 ≤ n := by omega
        simp (disch := omega) only [mReq_tt, nI_0a, nI_a0, nI_cl, mIn_ok, lit_add, lit_sub, add_lit, lit_le, le_lit, lit_lt, lt_lit, eq_lit, nI_add, nI_1, nI_leI, nI_ltI, nI_eq, mIn_lit, mIn_0, mIn_1, mIn_2, mIn_3, nI_l0, nI_p0, rf_22, rf_44, rf_60, rf_69, rf_391, rf_7, rf_37, rf_51, rf_230, rf_401, rf_413, rf_496, rf_513, rf_518, sB_2, sB_3, sB_4, sB_5, sB_6, sB_7, sL_2, sL_3, sL_4, sL_5, sL_6, sL_7, not_true_eq_false, not_false_eq_true, false_implies, true_implies, true_and, and_true, eq_self, true_or, or_true, Nat.le_refl, Nat.zero_add, Nat.add_zero, hf]
        have hbits : ∀ t, t < 32 → (hB (cm A (aS A) (jshl 1 (nI a)) n &&& msk W (nS A)) t ↔ hB (cm A (aS A) (jshl 1 (nI a)) n) t ∧ t < nS A ∧ W t) := fun t ht => by rw [hB_and, hB_msk (by omega) ht]
        refine ⟨fun q => gCi htr (x_allStreets hC (csim_of hm)) (by omega) ?_, fun q => ?_⟩
        · refine ⟨trivial, gCi htr (x_grown hA hC (csim_of hm) (by omega) _ _) (by omega) ?_⟩
          show mWB l g d k_X11_nearest Φ 4 24 106 [.ref 586, .int (nI k), .int h, .int w, .ref 590, .int (msk W (nS A)), .int (gr A (aS A) (cm A (aS A) (jshl 1 (nI a)) n)), .int (nI n + 1)] [] m o 4 24
          rw [nI_1]
          refine ih (fun j hj t ht hw y => ?_)
          rcases Nat.lt_or_eq_of_le (Nat.le_of_lt_succ hj) with z | z
          · exact hb j z t ht hw y
          · subst z
            have := (hbits t (by omega)).mpr ⟨y, ht, hw⟩
            rw [q] at this
            exact hB_0 _ this
        · obtain ⟨x, hx, ex⟩ := small9 (x := cm A (aS A) (jshl 1 (nI a)) n &&& msk W (nS A)) (fun i h1 h2 y => by
            have := ((hbits i h2).mp y).2.1
            omega)
          have hx0 : x ≠ 0 := fun y => q (by rw [ex, y]; rfl)
          obtain ⟨g1, g2⟩ := near_arg hA ha W hn hx hx0 (fun t ht => by rw [← hB_nI ht, ← ex]; exact hbits t ht) hb
          rw [g1, nI_cl (by have := (low_in hx hx0).2.2; omega), g2] at hΦ
          rw [ex]
          refine ⟨fun y => gCi htr (x_lowestBit m (by omega) hx hx0) (by omega) ?_, fun y => ?_⟩
          · refine e4 (hΦ _ _ (xk_v hm ?_))
            have hw1 : w = 1 := by
              obtain ⟨z, hz, rfl⟩ := hw
              rcases (show z = 0 ∨ z = 1 by omega) with rfl | rfl
              · exact absurd rfl y
              · rfl
            rw [if_pos (Or.inl hw1)]
          · refine hΦ _ _ (xk_v hm ?_)
            rw [if_neg (fun z => z.elim (fun v => by rw [y] at v; exact absurd v (by decide)) (fun v => nI_m1 (by have := (low_in hx hx0).2.2; omega) v))]
    show mWB l g d k_X11_nearest Φ 4 24 49 [.ref 586, .int (nI k), .int h, .int w, .ref 590, .int (msk W 0), .int (nI 0), mJ] [] m o 4 24
    refine mLoopZ (P := fun s => ∀ m, cl m = A → mWB l g d k_X11_nearest Φ 4 24 49 [.ref 586, .int (nI k), .int h, .int w, .ref 590, .int (msk W s), .int (nI s), mJ] [] m o 4 24) (N := nS A) (fun m hm => mGoOn (mOk (by decide)) rfl [49,85] 400 ?_) (fun s hi ih m hm => mGoOn (mOk (by decide)) rfl [49,85] 400 ?_) m hm
    · show ((m 590 0) ≤ (nI (nS A)) → mWB l g d k_X11_nearest Φ 4 24 85 [.ref 586, .int (nI k), .int h, .int w, .ref 590, .int (msk W (nS A)), .int (nI (nS A)), mJ] [] m o 4 24) ∧ (¬ (m 590 0) ≤ (nI (nS A)) → True ∧ mCal l g d k_X11_nearest Φ 4 24 _ 63 k_X11_cryIn false [.ref 586, .int (nI k), .int (nI (nS A))] [] [.ref 586, .int (nI k), .int h, .int w, .ref 590, .int (msk W (nS A)), .int (nI (nS A)), mJ] m o 4 24 1)
      simp (disch := omega) only [mReq_tt, nI_0a, nI_a0, nI_cl, mIn_ok, lit_add, lit_sub, add_lit, lit_le, le_lit, lit_lt, lt_lit, eq_lit, nI_add, nI_1, nI_leI, nI_ltI, nI_eq, mIn_lit, mIn_0, mIn_1, mIn_2, mIn_3, nI_l0, nI_p0, rf_22, rf_44, rf_60, rf_69, rf_391, rf_7, rf_37, rf_51, rf_230, rf_401, rf_413, rf_496, rf_513, rf_518, sB_2, sB_3, sB_4, sB_5, sB_6, sB_7, sL_2, sL_3, sL_4, sL_5, sL_6, sL_7, not_true_eq_false, not_false_eq_true, false_implies, true_implies, true_and, and_true, eq_self, true_or, or_true, Nat.le_refl, Nat.zero_add, Nat.add_zero, ar hm 590 0, hC.1.1]
      exact mWB_wk (k106 m hm) ⟨Or.inr rfl, Or.inr rfl, Or.inr rfl, Or.inr rfl, Or.inr rfl, Or.inr rfl, Or.inl rfl, Or.inl rfl, trivial⟩
    show ((m 590 0) ≤ (nI s) → mWB l g d k_X11_nearest Φ 4 24 85 [.ref 586, .int (nI k), .int h, .int w, .ref 590, .int (msk W s), .int (nI s), mJ] [] m o 4 24) ∧ (¬ (m 590 0) ≤ (nI s) → True ∧ mCal l g d k_X11_nearest Φ 4 24 _ 63 k_X11_cryIn false [.ref 586, .int (nI k), .int (nI s)] [] [.ref 586, .int (nI k), .int h, .int w, .ref 590, .int (msk W s), .int (nI s), mJ] m o 4 24 1)
    have hf : ¬ nS A ≤ s := by omega
    simp (disch := omega) only [mReq_tt, nI_0a, nI_a0, nI_cl, mIn_ok, lit_add, lit_sub, add_lit, lit_le, le_lit, lit_lt, lt_lit, eq_lit, nI_add, nI_1, nI_leI, nI_ltI, nI_eq, mIn_lit, mIn_0, mIn_1, mIn_2, mIn_3, nI_l0, nI_p0, rf_22, rf_44, rf_60, rf_69, rf_391, rf_7, rf_37, rf_51, rf_230, rf_401, rf_413, rf_496, rf_513, rf_518, sB_2, sB_3, sB_4, sB_5, sB_6, sB_7, sL_2, sL_3, sL_4, sL_5, sL_6, sL_7, not_true_eq_false, not_false_eq_true, false_implies, true_implies, true_and, and_true, eq_self, true_or, or_true, Nat.le_refl, Nat.zero_add, Nat.add_zero, ar hm 590 0, hC.1.1, hf]
    refine hCi htr (x_cryIn hQ hm (by omega) hk (by omega)) (by omega) ?_
    intro x m2 hx
    show (¬ x = h → mWB l g d k_X11_nearest Φ 4 24 49 [.ref 586, .int (nI k), .int h, .int w, .ref 590, .int (msk W s), .int ((nI s) + (1 : Int32)), mJ] [] m2 o 4 24) ∧ (x = h → mWB l g d k_X11_nearest Φ 4 24 49 [.ref 586, .int (nI k), .int h, .int w, .ref 590, .int ((msk W s) ||| (jshl (1 : Int32) (nI s))), .int ((nI s) + (1 : Int32)), mJ] [] m2 o 4 24)
    rw [nI_1]
    refine ⟨fun q => ?_, fun q => ?_⟩
    · have ih := ih m2 hx.2
      rw [msk_f (fun z => q (hx.1.trans ((hW2 s).mp z)))] at ih
      exact ih
    · have ih := ih m2 hx.2
      rw [msk_t ((hW2 s).mpr (hx.1.symm.trans q))] at ih
      exact ih
  have key : ∀ c : Int32, c = pI (In h 24 ∧ In w 2) → mWB l g d k_X11_nearest Φ 4 24 40 [.ref 586, .int (nI k), .int h, .int w, .ref 590, mJ, mJ, mJ] [.int c, .ref 586] m o 1 6 := by
    intro c hc
    subst hc
    refine mGoOn (mOk (by decide)) rfl [49] 400 ?_
    show True ∧ mCal l g d k_X11_nearest Φ 4 24 _ 40 k_X11_needArgument false [.ref 586, .int (pI (In h 24 ∧ In w 2))] [] [.ref 586, .int (nI k), .int h, .int w, .ref 590, mJ, mJ, mJ] m o 1 6 0
    refine ⟨trivial, cNeedA htr rfl (by omega) (by decide) (by decide) (fun q => ?_) (fun q => by
      replace q := pI_0.mp q
      rw [ifp_f (q)] at hΦ
      exact hΦ _ _ (xk_a hm (by decide)))⟩
    replace q := pI_1.mp q
    rw [ifp_t (q)] at hΦ
    exact mWB_widen (rest q.2 hΦ) (by decide) (by decide)
  refine gCi htr (x_isHour m (by omega) h) (by omega) ?_
  show ((pI (In h 24)) = 0 → mWB l g d k_X11_nearest Φ 4 24 40 [.ref 586, .int (nI k), .int h, .int w, .ref 590, mJ, mJ, mJ] [.int (0 : Int32), .ref 586] m o 1 6) ∧ (¬ (pI (In h 24)) = 0 → mCal l g d k_X11_nearest Φ 4 24 _ 29 k_X11_isChoice false [.int w, .int (2 : Int32)] [.ref 586] [.ref 586, .int (nI k), .int h, .int w, .ref 590, mJ, mJ, mJ] m o 1 6 1)
  refine ⟨fun q => key 0 (pI_f (fun z => pI_0.mp q z.1)).symm, fun q => gCi htr (x_isChoice m (by omega) w (n := 2) (by decide)) (by omega) ?_⟩
  show ((pI (In w 2)) = 0 → mWB l g d k_X11_nearest Φ 4 24 40 [.ref 586, .int (nI k), .int h, .int w, .ref 590, mJ, mJ, mJ] [.int (0 : Int32), .ref 586] m o 1 6) ∧ (¬ (pI (In w 2)) = 0 → mWB l g d k_X11_nearest Φ 4 24 40 [.ref 586, .int (nI k), .int h, .int w, .ref 590, mJ, mJ, mJ] [.int (1 : Int32), .ref 586] m o 1 6)
  exact ⟨fun q2 => key 0 (pI_f (fun z => pI_0.mp q2 z.2)).symm, fun q2 => key 1 (pI_t ⟨pI_1.mp q, pI_1.mp q2⟩).symm⟩
/-- the farthest by now: how far, and who -/
def FarI (A : Mm) (a n L : Nat) (E : Int32) : Prop := L ≤ n ∧ (∀ t, t < 32 → (hB E t ↔ t < nS A ∧ fl A (aS A) a n t = nI L)) ∧ (∃ t, t < nS A ∧ fl A (aS A) a n t = nI L) ∧ ∀ t, t < nS A → ∀ j, j ≤ n → fl A (aS A) a n t = nI j → j ≤ L
theorem far_next {A : Mm} (hA : CtB A) {a : Nat} (ha : a < nS A) {n L : Nat} {E : Int32} (hn : n < 50) (h : FarI A a n L E) :
    (cm A (aS A) (jshl 1 (nI a)) (n + 1) = cm A (aS A) (jshl 1 (nI a)) n → FarI A a (n + 1) L E) ∧
    (cm A (aS A) (jshl 1 (nI a)) (n + 1) ≠ cm A (aS A) (jshl 1 (nI a)) n → FarI A a (n + 1) (n + 1) (cm A (aS A) (jshl 1 (nI a)) (n + 1) &&& (cm A (aS A) (jshl 1 (nI a)) n ^^^ (-1)))) := by
  have h9 := hA.1.2
  have hcb := hcb_all hA ha
  have c1 := cm_fl hA hcb n (by omega)
  have c2 := cm_fl hA hcb (n + 1) (by omega)
  have keep : ∀ t j, t < nS A → j ≤ n → (fl A (aS A) a (n + 1) t = nI j ↔ fl A (aS A) a n t = nI j) := by
    intro t j ht hj
    by_cases q : fl A (aS A) a n t = -1
    · constructor
      · intro z
        have := (fl_new q (by rw [z]; exact nI_m1 (by omega))).1
        rw [z, nI_eq (by omega) (by omega)] at this
        omega
      · intro z
        rw [q] at z
        exact absurd z.symm (nI_m1 (by omega))
    · rw [fl_keep q]
  obtain ⟨h1, h2, ⟨u, hu, eu⟩, h4⟩ := h
  constructor
  · intro e
    refine ⟨by omega, fun t ht => ?_, ⟨u, hu, (keep u L hu h1).mpr eu⟩, fun t ht j hj ej => ?_⟩
    · rw [h2 t ht]
      constructor
      · rintro ⟨q1, q2⟩; exact ⟨q1, (keep t L q1 h1).mpr q2⟩
      · rintro ⟨q1, q2⟩; exact ⟨q1, (keep t L q1 h1).mp q2⟩
    · rcases Nat.lt_or_eq_of_le hj with q | q
      · exact h4 t ht j (by omega) ((keep t j ht (by omega)).mp ej)
      · subst q
        exfalso
        have b := (c2 t ht).mpr (by rw [ej]; exact nI_m1 (by omega))
        rw [e] at b
        obtain ⟨i, i1, i2, -⟩ := fl_v n t (by omega) ((c1 t ht).mp b)
        rw [(keep t i ht i1).mpr i2, nI_eq (by omega) (by omega)] at ej
        omega
  · intro e
    have bit : ∀ t, t < 32 → (hB (cm A (aS A) (jshl 1 (nI a)) (n + 1) &&& (cm A (aS A) (jshl 1 (nI a)) n ^^^ (-1))) t ↔ t < nS A ∧ fl A (aS A) a (n + 1) t = nI (n + 1)) := by
      intro t ht
      rw [hB_and, hB_not _ ht]
      constructor
      · rintro ⟨q1, q2⟩
        have hts := cm_all_in hA ha (n + 1) ht q1
        have z : fl A (aS A) a n t = -1 := by
          by_cases y : fl A (aS A) a n t = -1
          · exact y
          · exact absurd ((c1 t hts).mpr y) q2
        exact ⟨hts, (fl_new z ((c2 t hts).mp q1)).1⟩
      · rintro ⟨hts, q⟩
        refine ⟨(c2 t hts).mpr (by rw [q]; exact nI_m1 (by omega)), fun z => ?_⟩
        have y := (c1 t hts).mp z
        obtain ⟨i, i1, i2, -⟩ := fl_v n t (by omega) y
        rw [(keep t i hts i1).mpr i2, nI_eq (by omega) (by omega)] at q
        omega
    refine ⟨Nat.le_refl _, bit, ?_, fun t ht j hj _ => hj⟩
    have hne : ∃ t, t < 32 ∧ hB (cm A (aS A) (jshl 1 (nI a)) (n + 1)) t ∧ ¬ hB (cm A (aS A) (jshl 1 (nI a)) n) t := by
      by_cases q : ∃ t, t < 32 ∧ hB (cm A (aS A) (jshl 1 (nI a)) (n + 1)) t ∧ ¬ hB (cm A (aS A) (jshl 1 (nI a)) n) t
      · exact q
      · refine absurd (hB_ext (fun i hi => ⟨fun z => ?_, fun z => (hB_gr hA _ _ hi).mpr (Or.inl z)⟩)) e
        by_cases y : hB (cm A (aS A) (jshl 1 (nI a)) n) i
        · exact y
        · exact absurd ⟨i, hi, z, y⟩ q
    obtain ⟨t, ht, q1, q2⟩ := hne
    have := (bit t ht).mp (by rw [hB_and, hB_not _ ht]; exact ⟨q1, q2⟩)
    exact ⟨t, this.1, this.2⟩
theorem far_0 {A : Mm} (hA : CtB A) {a : Nat} (ha : a < nS A) : FarI A a 0 0 (jshl 1 (nI a)) := by
  have h9 := hA.1.2
  have e : ∀ t, fl A (aS A) a 0 t = ifp (t = a ∧ hB (aS A) t) 0 (-1) := fun t => rfl
  have e0 : fl A (aS A) a 0 a = nI 0 := by rw [e, ifp_t ⟨rfl, (hB_aS hA (by omega)).mpr ha⟩]; rfl
  refine ⟨Nat.le_refl _, fun t ht => ?_, ⟨a, ha, e0⟩, fun t ht j hj _ => hj⟩
  rw [hB_sh (by omega) ht]
  constructor
  · rintro rfl; exact ⟨ha, e0⟩
  · rintro ⟨q1, q2⟩
    by_cases z : t = a ∧ hB (aS A) t
    · exact z.1
    · rw [e, ifp_f z] at q2
      exact absurd q2.symm (nI_m1 (by decide))
/-- the reference's farthest -/
theorem faD_max {A : Mm} (hA : CtB A) (hR : Nt A (A 494)) {k : Nat} (hk : k < nM A) : ∀ c, c ≤ nS A → In (faD A k c) (nS A) ∧ fM A k (faD A k c).toNatClampNeg ≠ -1 ∧ ∀ t, nS A - c ≤ t → t < nS A → fM A k t ≠ -1 → ¬ fM A k (faD A k c).toNatClampNeg < fM A k t ∧ (¬ fM A k t < fM A k (faD A k c).toNatClampNeg → (faD A k c).toNatClampNeg ≤ t)
  | 0, _ => by
    have h9 := hA.1.2
    have hp := hR.1 k hk
    refine ⟨hp, ?_, fun t h1 h2 => by omega⟩
    have hp2 := In_cl hp (by omega)
    show fl A (aS A) (A 494 k).toNatClampNeg (nS A) (A 494 k).toNatClampNeg ≠ -1
    generalize (A 494 k).toNatClampNeg = a at hp2
    have e0 : fl A (aS A) a 0 a = 0 := ifp_t ⟨rfl, (hB_aS hA (by omega)).mpr hp2.2⟩
    have := fl_mono (A := A) (op := aS A) (a := a) (n := 0) (t := a) (by rw [e0]; decide) (nS A)
    rw [Nat.zero_add, e0] at this
    rw [this]
    decide
  | c + 1, hc => by
    have h9 := hA.1.2
    obtain ⟨i1, i2, i3⟩ := faD_max hA hR hk c (by omega)
    have e : faD A k (c + 1) = ifp (¬ fM A k (nS A - (c + 1)) = -1 ∧ ¬ fM A k (nS A - (c + 1)) < fM A k (faD A k c).toNatClampNeg) (nI (nS A - (c + 1))) (faD A k c) := rfl
    by_cases q : ¬ fM A k (nS A - (c + 1)) = -1 ∧ ¬ fM A k (nS A - (c + 1)) < fM A k (faD A k c).toNatClampNeg
    · rw [e, ifp_t q, nI_cl (by omega)]
      refine ⟨⟨_, by omega, rfl⟩, q.1, fun t h1 h2 h3 => ⟨fun z => ?_, fun _ => h1⟩⟩
      rcases Nat.lt_or_eq_of_le h1 with y | y
      · have := (i3 t (by omega) h2 h3).1
        exact this (fa_trans (by
          rcases fa_three (fM A k (faD A k c).toNatClampNeg) (fM A k (nS A - (c + 1))) with v | v | v
          · exact fa_trans v (fa_of_lt z).1
          · rw [v]; exact z
          · exact absurd v q.2) (le_rf _))
      · rw [y] at z; exact (fa_of_lt z).2.2.2.1 rfl
    · rw [e, ifp_f q]
      refine ⟨i1, i2, fun t h1 h2 h3 => ?_⟩
      rcases Nat.lt_or_eq_of_le h1 with y | y
      · exact i3 t (by omega) h2 h3
      · subst y
        have hlt : fM A k (nS A - (c + 1)) < fM A k (faD A k c).toNatClampNeg := by
          by_cases v : fM A k (nS A - (c + 1)) < fM A k (faD A k c).toNatClampNeg
          · exact v
          · exact absurd ⟨h3, v⟩ q
        exact ⟨fun z => (fa_of_lt hlt).2.2.1 z, fun z => absurd hlt z⟩
theorem fl_eq8 {A : Mm} {op : Int32} {a t : Nat} {n : Nat} (h : nS A ≤ n + 1) (hn : n < 50) (ht : t < nS A) : fl A op a n t = fl A op a (nS A) t := by
  have key : ∀ N, N < 100 → nS A ≤ N + 1 → fl A op a N t ≠ -1 → ∀ M, M < 100 → nS A ≤ M + 1 → fl A op a M t = fl A op a N t := by
    intro N hN h1 h2 M hM h3
    obtain ⟨j, j1, j2, j3, -⟩ := fl_lt hN ht h2
    have := fl_mono (A := A) (op := op) (a := a) (n := j) (t := t) (by rw [j3]; exact nI_m1 (by omega)) (M - j)
    rw [show j + (M - j) = M by omega] at this
    rw [this, j3, j2]
  by_cases q : fl A op a n t = -1
  · by_cases z : fl A op a (nS A) t = -1
    · rw [q, z]
    · exact key (nS A) (by omega) (by omega) z n (by omega) h
  · exact (key n (by omega) h q (nS A) (by omega) (by omega)).symm
theorem x_farthest (hQ : Qr A) {m : Mm} (hm : cl m = A) (hd : 8 ≤ d) (k w : Int32) : xS l g d k_X11_farthest [.ref 586, .int k, .int w] m A (qFar A k w) := by
  have hA := hQ.1.1
  have hC := hQ.2.2.2.2.1
  have h6 := hA.2.2.1.2
  have h9 := hA.1.2
  refine nBx 6 rfl rfl rfl (by decide) rfl (fun htr o Φ hΦ => mGoOn (mOk (by decide)) rfl [54,93] 400 ?_)
  show True ∧ mCal l g d k_X11_farthest Φ 4 24 _ 11 k_X1_hasMan false [.ref 590, .int k] [.ref 586] [.ref 586, .int k, .int w, .ref 590, mJ, mJ, mJ, mJ, mJ] m o 0 0 1
  unfold qFar at hΦ
  refine ⟨trivial, gCi htr (x_hasMan hA hC (csim_of hm) k) (by omega) ?_⟩
  show True ∧ mCal l g d k_X11_farthest Φ 4 24 _ 14 k_X11_needElement false [.ref 586, .int (pI (In k (nM A)))] [] [.ref 586, .int k, .int w, .ref 590, mJ, mJ, mJ, mJ, mJ] m o 0 0 0
  refine ⟨trivial, cNeedE htr rfl (by omega) (by decide) (by decide) (fun h => ?_) (fun h => by
    replace h := pI_0.mp h
    rw [ifp_f (h)] at hΦ
    exact hΦ _ _ (xk_n hm))⟩
  replace h := pI_1.mp h
  rw [ifp_t (h)] at hΦ
  obtain ⟨k, hk, rfl⟩ := h
  rw [nI_cl (by omega)] at hΦ
  refine gCi htr (x_isChoice m (by omega) w (n := 2) (by decide)) (by omega) ?_
  show True ∧ mCal l g d k_X11_farthest Φ 4 24 _ 23 k_X11_needArgument false [.ref 586, .int (pI (In w 2))] [] [.ref 586, .int (nI k), .int w, .ref 590, mJ, mJ, mJ, mJ, mJ] m o 1 6 0
  refine ⟨trivial, cNeedA htr rfl (by omega) (by decide) (by decide) (fun h2 => ?_) (fun h2 => by
    replace h2 := pI_0.mp h2
    rw [ifp_f (h2)] at hΦ
    exact hΦ _ _ (xk_a hm (by decide)))⟩
  replace h2 := pI_1.mp h2
  rw [ifp_t (h2)] at hΦ
  dsimp only at hΦ
  have hp := In_cl (hQ.2.2.2.1.1 k hk) (by omega)
  refine gCi htr (x_at m (a := 627) (n := 6) rfl rfl (by decide) (by omega)) (by omega) ?_
  rw [(nrNow hQ hm).2.2.2.2.1 k hk, hp.1]
  have hmax := faD_max hA hQ.2.2.2.1 hk (nS A) (Nat.le_refl _)
  have hfM : ∀ t, fM A k t = fl A (aS A) (A 494 k).toNatClampNeg (nS A) t := fun t => rfl
  generalize faD A k (nS A) = b at hΦ hmax
  generalize fM A k = f at hΦ hmax hfM
  generalize (A 494 k).toNatClampNeg = a at hp hfM ⊢
  have ha := hp.2
  show mWB l g d k_X11_farthest Φ 4 24 54 [.ref 586, .int (nI k), .int w, .ref 590, .int (cm A (aS A) (jshl 1 (nI a)) 0), .int (jshl 1 (nI a)), .int (nI 0), .int (nI (0 + 1)), mJ] [] m o 2 12
  refine mWB_widen (cN' := 4) (sN' := 24) ?_ (by decide) (by decide)
  refine mLoopZ (P := fun n => ∀ L E, FarI A a n L E → mWB l g d k_X11_farthest Φ 4 24 54 [.ref 586, .int (nI k), .int w, .ref 590, .int (cm A (aS A) (jshl 1 (nI a)) n), .int E, .int (nI L), .int (nI (n + 1)), mJ] [] m o 4 24) (N := 8) ?_ ?_ 0 _ (far_0 hA ha)
  · intro L E hF
    refine mGoOn (mOk (by decide)) rfl [54] 400 ?_
    show ((9 : Int32) ≤ (nI (8 + 1)) → (¬ w = 0 → mCal l g d k_X11_farthest Φ 4 24 _ 114 k_X11_lowestBit false [.int E] [] [.ref 586, .int (nI k), .int w, .ref 590, .int (cm A (aS A) (jshl 1 (nI a)) 8), .int E, .int (nI L), .int (nI (8 + 1)), mJ] m o 4 24 1) ∧ (w = 0 → Φ (.inl (some (.int (nI L)))) m o ∧ 4 ≤ 4 ∧ 24 ≤ 24)) ∧ (¬ (9 : Int32) ≤ (nI (8 + 1)) → True ∧ mCal l g d k_X11_farthest Φ 4 24 _ 65 k_X1_allStreets false [.ref 590] [.int (cm A (aS A) (jshl 1 (nI a)) 8), .ref 590] [.ref 586, .int (nI k), .int w, .ref 590, .int (cm A (aS A) (jshl 1 (nI a)) 8), .int E, .int (nI L), .int (nI (8 + 1)), mJ] m o 4 24 1)
    simp (disch := omega) only [mReq_tt, nI_0a, nI_a0, nI_cl, mIn_ok, lit_add, lit_sub, add_lit, lit_le, le_lit, lit_lt, lt_lit, eq_lit, nI_add, nI_1, nI_leI, nI_ltI, nI_eq, mIn_lit, mIn_0, mIn_1, mIn_2, mIn_3, nI_l0, nI_p0, rf_22, rf_44, rf_60, rf_69, rf_391, rf_7, rf_37, rf_51, rf_230, rf_401, rf_413, rf_496, rf_513, rf_518, sB_2, sB_3, sB_4, sB_5, sB_6, sB_7, sL_2, sL_3, sL_4, sL_5, sL_6, sL_7, not_true_eq_false, not_false_eq_true, false_implies, true_implies, true_and, and_true, eq_self, true_or, or_true, Nat.le_refl, Nat.zero_add, Nat.add_zero]
    obtain ⟨f1, f2, ⟨u, hu, eu⟩, f4⟩ := hF
    have e8 : ∀ t, t < nS A → fl A (aS A) a 8 t = f t := fun t ht => by rw [hfM]; exact fl_eq8 (by omega) (by omega) ht
    obtain ⟨bn, hbn, rfl⟩ := hmax.1
    rw [nI_cl (by omega)] at hmax hΦ
    have hfb : f bn = nI L := by
      obtain ⟨j, j1, j2, -⟩ := fl_v 8 bn (by omega) (by rw [e8 bn hbn]; exact hmax.2.1)
      have q1 := f4 bn hbn j j1 j2
      rw [e8 bn hbn] at j2
      have q2 := (hmax.2.2 u (by omega) hu (by rw [← e8 u hu, eu]; exact nI_m1 (by omega))).1
      rw [← e8 u hu, eu, j2, nI_ltI (by omega) (by omega)] at q2
      rw [j2]
      congr 1
      omega
    refine ⟨fun q => ?_, fun q => ?_⟩
    · obtain ⟨x, hx, ex⟩ := small9 (x := E) (fun i h1 h2 y => by
        have := ((f2 i h2).mp y).1
        omega)
      have hbb : x.testBit bn = true := by
        rw [← hB_nI (by omega), ← ex, f2 bn (by omega), e8 bn hbn]
        exact ⟨hbn, hfb⟩
      have hx0 : x ≠ 0 := fun y => by rw [y] at hbb; simp at hbb
      obtain ⟨l1, l2, l3⟩ := low_in hx hx0
      have hlow : low x = bn := by
        have q1 : low x ≤ bn := by
          rcases Nat.lt_or_ge bn (low x) with y | y
          · rw [l2 bn y] at hbb; cases hbb
          · exact y
        have q2 := (f2 (low x) (by omega)).mp (by rw [ex, hB_nI (by omega)]; exact l1)
        have q3 := (hmax.2.2 (low x) (by omega) q2.1 (by rw [← e8 _ q2.1, q2.2]; exact nI_m1 (by omega))).2 (by
          rw [← e8 _ q2.1, q2.2, hfb]
          exact fun z => (fa_of_lt z).2.2.2.1 rfl)
        omega
      rw [ex]
      refine gCi htr (x_lowestBit m (by omega) hx hx0) (by omega) (e4 (hΦ _ _ (xk_v hm ?_)))
      rw [if_neg q, hlow]
    · refine hΦ _ _ (xk_v hm ?_)
      rw [if_pos q, hfb]
  · intro n hn ih L E hF
    refine mGoOn (mOk (by decide)) rfl [54,93] 400 ?_
    show ((9 : Int32) ≤ (nI (n + 1)) → (¬ w = 0 → mCal l g d k_X11_farthest Φ 4 24 _ 114 k_X11_lowestBit false [.int E] [] [.ref 586, .int (nI k), .int w, .ref 590, .int (cm A (aS A) (jshl 1 (nI a)) n), .int E, .int (nI L), .int (nI (n + 1)), mJ] m o 4 24 1) ∧ (w = 0 → Φ (.inl (some (.int (nI L)))) m o ∧ 4 ≤ 4 ∧ 24 ≤ 24)) ∧ (¬ (9 : Int32) ≤ (nI (n + 1)) → True ∧ mCal l g d k_X11_farthest Φ 4 24 _ 65 k_X1_allStreets false [.ref 590] [.int (cm A (aS A) (jshl 1 (nI a)) n), .ref 590] [.ref 586, .int (nI k), .int w, .ref 590, .int (cm A (aS A) (jshl 1 (nI a)) n), .int E, .int (nI L), .int (nI (n + 1)), mJ] m o 4 24 1)
    have hf : ¬ 9 ≤ n + 1 := by omega
    simp (disch := omega) only [mReq_tt, nI_0a, nI_a0, nI_cl, mIn_ok, lit_add, lit_sub, add_lit, lit_le, le_lit, lit_lt, lt_lit, eq_lit, nI_add, nI_1, nI_leI, nI_ltI, nI_eq, mIn_lit, mIn_0, mIn_1, mIn_2, mIn_3, nI_l0, nI_p0, rf_22, rf_44, rf_60, rf_69, rf_391, rf_7, rf_37, rf_51, rf_230, rf_401, rf_413, rf_496, rf_513, rf_518, sB_2, sB_3, sB_4, sB_5, sB_6, sB_7, sL_2, sL_3, sL_4, sL_5, sL_6, sL_7, not_true_eq_false, not_false_eq_true, false_implies, true_implies, true_and, and_true, eq_self, true_or, or_true, Nat.le_refl, Nat.zero_add, Nat.add_zero, hf]
    refine gCi htr (x_allStreets hC (csim_of hm)) (by omega) ?_
    refine ⟨trivial, gCi htr (x_grown hA hC (csim_of hm) (by omega) _ _) (by omega) ?_⟩
    have hnx := far_next hA ha (n := n) (by omega) hF
    have ecm : gr A (aS A) (cm A (aS A) (jshl 1 (nI a)) n) = cm A (aS A) (jshl 1 (nI a)) (n + 1) := rfl
    rw [ecm]
    show ((cm A (aS A) (jshl 1 (nI a)) (n + 1)) = (cm A (aS A) (jshl 1 (nI a)) n) → mWB l g d k_X11_farthest Φ 4 24 93 [.ref 586, .int (nI k), .int w, .ref 590, .int (cm A (aS A) (jshl 1 (nI a)) n), .int E, .int (nI L), .int (nI (n + 1)), .int (cm A (aS A) (jshl 1 (nI a)) (n + 1))] [] m o 4 24) ∧ (¬ (cm A (aS A) (jshl 1 (nI a)) (n + 1)) = (cm A (aS A) (jshl 1 (nI a)) n) → mWB l g d k_X11_farthest Φ 4 24 93 [.ref 586, .int (nI k), .int w, .ref 590, .int (cm A (aS A) (jshl 1 (nI a)) n), .int ((cm A (aS A) (jshl 1 (nI a)) (n + 1)) &&& ((cm A (aS A) (jshl 1 (nI a)) n) ^^^ (-1 : Int32))), .int (nI (n + 1)), .int (nI (n + 1)), .int (cm A (aS A) (jshl 1 (nI a)) (n + 1))] [] m o 4 24)
    have k93 : ∀ L' E', FarI A a (n + 1) L' E' → mWB l g d k_X11_farthest Φ 4 24 93 [.ref 586, .int (nI k), .int w, .ref 590, .int (cm A (aS A) (jshl 1 (nI a)) n), .int E', .int (nI L'), .int (nI (n + 1)), .int (cm A (aS A) (jshl 1 (nI a)) (n + 1))] [] m o 4 24 := by
      intro L' E' hF'
      refine mGoOn (mOk (by decide)) rfl [54] 400 ?_
      show mWB l g d k_X11_farthest Φ 4 24 54 [.ref 586, .int (nI k), .int w, .ref 590, .int (cm A (aS A) (jshl 1 (nI a)) (n + 1)), .int E', .int (nI L'), .int ((nI (n + 1)) + (1 : Int32)), .int (cm A (aS A) (jshl 1 (nI a)) (n + 1))] [] m o 4 24
      rw [nI_1]
      exact mWB_wk (ih L' E' hF') ⟨Or.inr rfl, Or.inr rfl, Or.inr rfl, Or.inr rfl, Or.inr rfl, Or.inr rfl, Or.inr rfl, Or.inr rfl, Or.inl rfl, trivial⟩
    exact ⟨fun q => k93 L E (hnx.1 q), fun q => k93 (n + 1) _ (hnx.2 q)⟩
end X8
