set_option maxRecDepth 100000
/-! WHAT IS CALLED, by the class -/
theorem div_m1 (u : Int32) : u / (-1) = -u := by
  have e : (-1 : Int32).toInt = -1 := rfl
  rw [fa_eq, Int32.toInt_div, e, Int.tdiv_neg, Int.tdiv_one, Int32.toInt_neg]
theorem rem_m1 (u : Int32) : jrem u (-1) = 0 := by
  unfold jrem
  rw [div_m1, show -u * (-1) = u from by rw [Int32.neg_mul, Int32.mul_neg, Int32.neg_neg, Int32.mul_one], Int32.sub_self]
theorem sub1_add1 (x : Int32) : x - 1 + 1 = x := Int32.sub_add_cancel x 1
theorem ht_pos {A : Mm} (hA : LwOk A) : ∀ k, k < nW A → 1 ≤ ht A (k + 1) := by
  intro k hk
  have hc := hA.2.2 k hk
  show 1 ≤ (if c0 A k < 2 then ht A k + 1 else ht A k - 1)
  by_cases q : c0 A k < 2
  · rw [if_pos q]; omega
  · rw [if_neg q]
    have := hc.2.2.2.2.2 (by omega)
    omega
abbrev lV : List Nat := [602]
section X2
variable {l : Launch} {g : mG} {d : Nat} {A : Mm}
theorem x_result (m : Mm) {c : Nat} (h1 : 2 ≤ c) (h2 : c ≤ 8) (u v : Int32) : mFi l g d k_X4_result [.int (nI (sgnOf c)), .int u, .int v] m (jby c u v) m := by
  refine nFi 0 rfl rfl rfl (by decide) rfl (fun htr o Φ hΦ => mGoOn (mOk (by decide)) rfl [] 400 ?_)
  show ((nI (sgnOf c)).toInt = 37 → (¬ v = 0 → ¬ v = 0 ∧ (Φ (.inl (some (.int (jrem u v)))) m o ∧ 0 ≤ 0 ∧ 0 ≤ 0)) ∧ (v = 0 → Φ (.inl (some (.int (0 : Int32)))) m o ∧ 0 ≤ 0 ∧ 0 ≤ 0)) ∧ ((nI (sgnOf c)).toInt ≠ 37 → ((nI (sgnOf c)).toInt = 42 → Φ (.inl (some (.int (u * v)))) m o ∧ 0 ≤ 0 ∧ 0 ≤ 0) ∧ ((nI (sgnOf c)).toInt ≠ 42 → ((nI (sgnOf c)).toInt = 43 → Φ (.inl (some (.int (u + v)))) m o ∧ 0 ≤ 0 ∧ 0 ≤ 0) ∧ ((nI (sgnOf c)).toInt ≠ 43 → ((nI (sgnOf c)).toInt = 45 → Φ (.inl (some (.int (u - v)))) m o ∧ 0 ≤ 0 ∧ 0 ≤ 0) ∧ ((nI (sgnOf c)).toInt ≠ 45 → ((nI (sgnOf c)).toInt = 47 → (¬ v = 0 → ¬ v = 0 ∧ (Φ (.inl (some (.int (u / v)))) m o ∧ 0 ≤ 0 ∧ 0 ≤ 0)) ∧ (v = 0 → Φ (.inl (some (.int (0 : Int32)))) m o ∧ 0 ≤ 0 ∧ 0 ≤ 0)) ∧ ((nI (sgnOf c)).toInt ≠ 47 → ((nI (sgnOf c)).toInt = 60 → (v ≤ u → Φ (.inl (some (.int v))) m o ∧ 0 ≤ 0 ∧ 0 ≤ 0) ∧ (¬ v ≤ u → Φ (.inl (some (.int u))) m o ∧ 0 ≤ 0 ∧ 0 ≤ 0)) ∧ ((nI (sgnOf c)).toInt ≠ 60 → (u ≤ v → Φ (.inl (some (.int v))) m o ∧ 0 ≤ 0 ∧ 0 ≤ 0) ∧ (¬ u ≤ v → Φ (.inl (some (.int u))) m o ∧ 0 ≤ 0 ∧ 0 ≤ 0)))))))
  have hc : c = 2 ∨ c = 3 ∨ c = 4 ∨ c = 5 ∨ c = 6 ∨ c = 7 ∨ c = 8 := by omega
  rcases hc with rfl | rfl | rfl | rfl | rfl | rfl | rfl
  · exact ⟨fun q => absurd q (by decide), fun _ => ⟨fun q => absurd q (by decide), fun _ => ⟨fun _ => eR hΦ, fun q => absurd (by decide) q⟩⟩⟩
  · exact ⟨fun q => absurd q (by decide), fun _ => ⟨fun q => absurd q (by decide), fun _ => ⟨fun q => absurd q (by decide), fun _ => ⟨fun _ => eR hΦ, fun q => absurd (by decide) q⟩⟩⟩⟩
  · exact ⟨fun q => absurd q (by decide), fun _ => ⟨fun _ => eR hΦ, fun q => absurd (by decide) q⟩⟩
  · replace hΦ : Φ (.inl (some (.int (if v = 0 then 0 else if v = -1 then -u else u / v)))) m o := hΦ
    refine ⟨fun q => absurd q (by decide), fun _ => ⟨fun q => absurd q (by decide), fun _ => ⟨fun q => absurd q (by decide), fun _ => ⟨fun q => absurd q (by decide), fun _ => ⟨fun _ => ⟨fun q => ⟨q, ?_⟩, fun q => ?_⟩, fun q => absurd (by decide) q⟩⟩⟩⟩⟩
    · by_cases e : v = -1
      · subst e
        rw [if_neg (by decide), if_pos rfl, ← div_m1] at hΦ
        exact eR hΦ
      · rw [if_neg q, if_neg e] at hΦ
        exact eR hΦ
    · rw [if_pos q] at hΦ
      exact eR hΦ
  · replace hΦ : Φ (.inl (some (.int (if v = 0 then 0 else if v = -1 then 0 else jrem u v)))) m o := hΦ
    refine ⟨fun _ => ⟨fun q => ⟨q, ?_⟩, fun q => ?_⟩, fun q => absurd (by decide) q⟩
    · by_cases e : v = -1
      · subst e
        rw [if_neg (by decide), if_pos rfl, ← rem_m1 u] at hΦ
        exact eR hΦ
      · rw [if_neg q, if_neg e] at hΦ
        exact eR hΦ
    · rw [if_pos q] at hΦ
      exact eR hΦ
  · replace hΦ : Φ (.inl (some (.int (if u < v then u else v)))) m o := hΦ
    refine ⟨fun q => absurd q (by decide), fun _ => ⟨fun q => absurd q (by decide), fun _ => ⟨fun q => absurd q (by decide), fun _ => ⟨fun q => absurd q (by decide), fun _ => ⟨fun q => absurd q (by decide), fun _ => ⟨fun _ => ⟨fun q => ?_, fun q => ?_⟩, fun q => absurd (by decide) q⟩⟩⟩⟩⟩⟩
    · rw [if_neg (fun z => (fa_of_lt z).2.1 q)] at hΦ
      exact eR hΦ
    · rw [if_pos (fa_of_nle q)] at hΦ
      exact eR hΦ
  · replace hΦ : Φ (.inl (some (.int (if v < u then u else v)))) m o := hΦ
    refine ⟨fun q => absurd q (by decide), fun _ => ⟨fun q => absurd q (by decide), fun _ => ⟨fun q => absurd q (by decide), fun _ => ⟨fun q => absurd q (by decide), fun _ => ⟨fun q => absurd q (by decide), fun _ => ⟨fun q => absurd q (by decide), fun _ => ⟨fun q => ?_, fun q => ?_⟩⟩⟩⟩⟩⟩⟩
    · rw [if_neg (fun z => (fa_of_lt z).2.1 q)] at hΦ
      exact eR hΦ
    · rw [if_pos (fa_of_nle q)] at hΦ
      exact eR hΦ
theorem x_hourFor (hA : LwOk A) (hL : LwR A A 600) {m : Mm} (hs : csim A m) (hd : 1 ≤ d) {G : Nat} (hG : G = 603 ∨ G = 706) {kn : Nat → Int32} (hk : ∀ j, j < 8 → m G j = kn j) : mHi l g d k_X4_hourFor [.ref 600, .ref G] m (fun r m2 => r = lawV A kn ∧ eqL lV m m2) := by
  have hGb : mIsB G 1 = true ∧ mLn G = 8 := by rcases hG with rfl | rfl <;> exact ⟨rfl, rfl⟩
  have hGn : G ≠ 602 := by omega
  have hN := hA.2.1
  refine nBi 3 rfl rfl rfl (by decide) rfl (fun htr o Φ hΦ => mGoOn (mOk (by decide)) rfl [20,28,152] 400 ?_)
  show (¬ (m 600 2) = 0 → mWB l g d k_X4_hourFor Φ 0 0 28 [.ref 600, .ref G, .int (-1 : Int32), .int (0 : Int32), mJ] [] m o 0 0) ∧ ((m 600 2) = 0 → mCal l g d k_X4_hourFor Φ 0 0 _ 9 k_X11_at true [.ref G, .int (0 : Int32)] [] [.ref 600, .ref G, mJ, mJ, mJ] m o 0 0 1)
  rw [csim_at hs 2 (by omega), hL.1]
  refine ⟨fun h0 => ?_, fun h0 => ?_⟩
  · refine mLoopZ (P := fun k => ∀ m', eqL lV m m' → (∀ j, j < ht A k → m' 602 j = evS A kn k j) → mWB l g d k_X4_hourFor Φ 0 0 28 [.ref 600, .ref G, .int (nI (ht A k) - 1), .int (nI k), mJ] [] m' o 0 0) (N := nW A) ?_ ?_ m (eqL_refl _ _) (fun j hj => absurd hj (Nat.not_lt_zero _))
    · intro m' he hst
      have e0 : m' 600 2 = nI (nW A) := by rw [he 600 (by decide), csim_at hs 2 (by omega), hL.1]
      refine mGoOn (mOk (by decide)) rfl [28,142,152] 400 ?_
      show ((m' 600 2) ≤ (nI (nW A)) → mWB l g d k_X4_hourFor Φ 0 0 142 [.ref 600, .ref G, .int (nI (ht A (nW A)) - 1), .int (nI (nW A)), mJ] [] m' o 0 0) ∧ (¬ (m' 600 2) ≤ (nI (nW A)) → ((150 : Int32) ≤ (nI (nW A)) → mWB l g d k_X4_hourFor Φ 0 0 142 [.ref 600, .ref G, .int (nI (ht A (nW A)) - 1), .int (nI (nW A)), mJ] [] m' o 0 0) ∧ (¬ (150 : Int32) ≤ (nI (nW A)) → mReq (mInB (nI (nW A)) 150) (((2000 : Int32) ≤ (m' 601 ((nI (nW A)).toNatClampNeg)) → mCal l g d k_X4_hourFor Φ 0 0 _ 117 k_X11_at true [.ref 602, .int ((nI (ht A (nW A)) - 1) + (-1 : Int32))] [.int ((m' 601 ((nI (nW A)).toNatClampNeg)) - (2000 : Int32)), .int ((nI (ht A (nW A)) - 1) + (-1 : Int32)), .ref 602] [.ref 600, .ref G, .int ((nI (ht A (nW A)) - 1) + (-1 : Int32)), .int (nI (nW A)), .int (m' 601 ((nI (nW A)).toNatClampNeg))] m' o 0 0 1) ∧ (¬ (2000 : Int32) ≤ (m' 601 ((nI (nW A)).toNatClampNeg)) → ((1000 : Int32) ≤ (m' 601 ((nI (nW A)).toNatClampNeg)) → mCal l g d k_X4_hourFor Φ 0 0 _ 89 k_X11_at true [.ref G, .int ((m' 601 ((nI (nW A)).toNatClampNeg)) - (1000 : Int32))] [.int ((nI (ht A (nW A)) - 1) + (1 : Int32)), .ref 602] [.ref 600, .ref G, .int ((nI (ht A (nW A)) - 1) + (1 : Int32)), .int (nI (nW A)), .int (m' 601 ((nI (nW A)).toNatClampNeg))] m' o 0 0 1) ∧ (¬ (1000 : Int32) ≤ (m' 601 ((nI (nW A)).toNatClampNeg)) → mCal l g d k_X4_hourFor Φ 0 0 _ 92 k_X11_put true [.ref 602, .int ((nI (ht A (nW A)) - 1) + (1 : Int32)), .int (m' 601 ((nI (nW A)).toNatClampNeg))] [] [.ref 600, .ref G, .int ((nI (ht A (nW A)) - 1) + (1 : Int32)), .int (nI (nW A)), .int (m' 601 ((nI (nW A)).toNatClampNeg))] m' o 0 0 0)))))
      rw [e0]
      have h1 : 1 ≤ ht A (nW A) := by
        have hp : nW A ≠ 0 := fun q => h0 (by rw [q]; rfl)
        have := ht_pos hA (nW A - 1) (by omega)
        rwa [show nW A - 1 + 1 = nW A by omega] at this
      have key : mWB l g d k_X4_hourFor Φ 0 0 142 [.ref 600, .ref G, .int (nI (ht A (nW A)) - 1), .int (nI (nW A)), mJ] [] m' o 0 0 := by
        refine mGoOn (mOk (by decide)) rfl [152] 400 ?_
        show mCal l g d k_X4_hourFor Φ 0 0 _ 147 k_X11_at true [.ref 602, .int (0 : Int32)] [] [.ref 600, .ref G, .int (nI (ht A (nW A)) - 1), .int (nI (nW A)), mJ] m' o 0 0 1
        refine fCi htr (x_at m' (a := 602) (n := 150) (k := 0) rfl rfl (by decide) (by decide)) hd ?_
        refine ms_fmod (mOk (by decide)) rfl htr hd (by decide) (Nat.le_refl _) (Nat.le_refl _) (by decide) ?_
        show mWB l g d k_X4_hourFor Φ 0 0 155 [.ref 600, .ref G, .int (nI (ht A (nW A)) - 1), .int (nI (nW A)), mJ] [.int (jfm (m' 602 0) 24)] m' o 0 0
        rw [jfm24, hst 0 (by omega)]
        refine mGoOn (mOk (by decide)) rfl [] 400 ?_
        exact eR (hΦ _ _ ⟨rfl, he⟩)
      exact ⟨fun _ => key, fun q => absurd (nI_le (Nat.le_refl _) (by omega)) q⟩
    · intro k hk2 ih m' he hst
      have hc := hA.2.2 k hk2
      have hh := ht_le A k
      have e0 : m' 600 2 = nI (nW A) := by rw [he 600 (by decide), csim_at hs 2 (by omega), hL.1]
      have e1 : m' 601 k = cdW (c0 A k) (c1 A k) := by rw [he 601 (by decide), csim_at hs k (by omega), hL.2 k hk2]
      have hf : ¬ nW A ≤ k := by omega
      have hf2 : ¬ 150 ≤ k := by omega
      refine mGoOn (mOk (by decide)) rfl [28,152,142,98,82,92] 400 ?_
      show ((m' 600 2) ≤ (nI k) → mWB l g d k_X4_hourFor Φ 0 0 142 [.ref 600, .ref G, .int (nI (ht A k) - 1), .int (nI k), mJ] [] m' o 0 0) ∧ (¬ (m' 600 2) ≤ (nI k) → ((150 : Int32) ≤ (nI k) → mWB l g d k_X4_hourFor Φ 0 0 142 [.ref 600, .ref G, .int (nI (ht A k) - 1), .int (nI k), mJ] [] m' o 0 0) ∧ (¬ (150 : Int32) ≤ (nI k) → mReq (mInB (nI k) 150) (((2000 : Int32) ≤ (m' 601 ((nI k).toNatClampNeg)) → mWB l g d k_X4_hourFor Φ 0 0 98 [.ref 600, .ref G, .int (nI (ht A k) - 1), .int (nI k), .int (m' 601 ((nI k).toNatClampNeg))] [] m' o 0 0) ∧ (¬ (2000 : Int32) ≤ (m' 601 ((nI k).toNatClampNeg)) → ((1000 : Int32) ≤ (m' 601 ((nI k).toNatClampNeg)) → mWB l g d k_X4_hourFor Φ 0 0 82 [.ref 600, .ref G, .int ((nI (ht A k) - 1) + (1 : Int32)), .int (nI k), .int (m' 601 ((nI k).toNatClampNeg))] [.int ((nI (ht A k) - 1) + (1 : Int32)), .ref 602] m' o 0 0) ∧ (¬ (1000 : Int32) ≤ (m' 601 ((nI k).toNatClampNeg)) → mWB l g d k_X4_hourFor Φ 0 0 92 [.ref 600, .ref G, .int ((nI (ht A k) - 1) + (1 : Int32)), .int (nI k), .int (m' 601 ((nI k).toNatClampNeg))] [.int (m' 601 ((nI k).toNatClampNeg)), .int ((nI (ht A k) - 1) + (1 : Int32)), .ref 602] m' o 0 0)))))
      have push : ∀ v c4 : Int32, v = evS A kn (k + 1) (ht A k) → c0 A k < 2 → mWB l g d k_X4_hourFor Φ 0 0 92 [.ref 600, .ref G, .int (nI (ht A k)), .int (nI k), .int c4] [.int v, .int (nI (ht A k)), .ref 602] m' o 0 0 := by
        intro v c4 hv hlt
        refine mGoOn (mOk (by decide)) rfl [28] 400 ?_
        show mCal l g d k_X4_hourFor Φ 0 0 _ 92 k_X11_put true [.ref 602, .int (nI (ht A k)), .int v] [] [.ref 600, .ref G, .int (nI (ht A k)), .int (nI k), .int c4] m' o 0 0 0
        refine fCv htr (x_put m' (a := 602) (n := 150) (k := ht A k) rfl rfl (by decide) (by omega) v) hd ?_
        have e5 : ht A (k + 1) = ht A k + 1 := by show (if c0 A k < 2 then _ else _) = _; rw [if_pos hlt]
        have ih := ih (mset m' 602 (ht A k) v) (eqL_mset he (by simp) _ _) (by
          intro j hj
          rw [e5] at hj
          rw [mset_eq]
          by_cases q : j = ht A k
          · rw [q, pk_us, hv]
          · rw [pk_un q, hst j (by omega)]
            show _ = (if c0 A k = 0 then upd (evS A kn k) (ht A k) _ else if c0 A k < 2 then upd (evS A kn k) (ht A k) _ else _) j
            by_cases q0 : c0 A k = 0
            · rw [if_pos q0, pk_un q]
            · rw [if_neg q0, if_pos hlt, pk_un q])
        rw [e5, show nI (ht A k + 1) - 1 = nI (ht A k) from nI_pred _] at ih
        refine mWB_wk (L' := [.ref 600, .ref G, .int (nI (ht A k)), .int (nI k + 1), mJ]) ?_ ⟨Or.inr rfl, Or.inr rfl, Or.inr rfl, Or.inr rfl, Or.inl rfl, trivial⟩
        rw [nI_1]
        exact ih
      have hcc : c0 A k = 0 ∨ c0 A k = 1 ∨ 2 ≤ c0 A k := by omega
      rcases hcc with q0 | q0 | q0
      · have e2 : cdW (c0 A k) (c1 A k) = nI (c1 A k) := by unfold cdW; rw [if_pos q0]
        have g1 : ¬ 2000 ≤ c1 A k := by omega
        have g2 : ¬ 1000 ≤ c1 A k := by omega
        rw [e2] at e1
        simp (disch := omega) only [mReq_tt, nI_0a, nI_a0, nI_cl, mIn_ok, lit_add, lit_sub, add_lit, lit_le, le_lit, lit_lt, lt_lit, eq_lit, nI_add, nI_1, nI_leI, nI_ltI, nI_eq, mIn_lit, mIn_0, mIn_1, mIn_2, mIn_3, nI_l0, nI_p0, rf_22, rf_44, rf_60, rf_69, rf_391, rf_7, rf_37, rf_51, rf_230, rf_401, rf_413, rf_496, rf_513, rf_518, sB_2, sB_3, sB_4, sB_5, sB_6, sB_7, sL_2, sL_3, sL_4, sL_5, sL_6, sL_7, not_true_eq_false, not_false_eq_true, false_implies, true_implies, true_and, and_true, eq_self, true_or, or_true, Nat.le_refl, Nat.zero_add, Nat.add_zero, e0, e1, hf, hf2, g1, g2, sub1_add1]
        refine push _ _ ?_ (by omega)
        show _ = (if c0 A k = 0 then upd (evS A kn k) (ht A k) (nI (c1 A k)) else _) (ht A k)
        rw [if_pos q0, pk_us]
      · have h8 := hc.2.2.2.2.1 q0
        have e2 : cdW (c0 A k) (c1 A k) = nI (1000 + c1 A k) := by unfold cdW; rw [if_neg (by omega), if_pos q0]
        have g1 : ¬ 2000 ≤ 1000 + c1 A k := by omega
        have g2 : 1000 ≤ 1000 + c1 A k := by omega
        rw [e2] at e1
        simp (disch := omega) only [mReq_tt, nI_0a, nI_a0, nI_cl, mIn_ok, lit_add, lit_sub, add_lit, lit_le, le_lit, lit_lt, lt_lit, eq_lit, nI_add, nI_1, nI_leI, nI_ltI, nI_eq, mIn_lit, mIn_0, mIn_1, mIn_2, mIn_3, nI_l0, nI_p0, rf_22, rf_44, rf_60, rf_69, rf_391, rf_7, rf_37, rf_51, rf_230, rf_401, rf_413, rf_496, rf_513, rf_518, sB_2, sB_3, sB_4, sB_5, sB_6, sB_7, sL_2, sL_3, sL_4, sL_5, sL_6, sL_7, not_true_eq_false, not_false_eq_true, false_implies, true_implies, true_and, and_true, eq_self, true_or, or_true, Nat.le_refl, Nat.zero_add, Nat.add_zero, e0, e1, hf, hf2, g1, g2, sub1_add1]
        refine mGoOn (mOk (by decide)) rfl [92] 400 ?_
        show mCal l g d k_X4_hourFor Φ 0 0 _ 89 k_X11_at true [.ref G, .int ((nI (1000 + c1 A k)) - (1000 : Int32))] [.int (nI (ht A k)), .ref 602] [.ref 600, .ref G, .int (nI (ht A k)), .int (nI k), .int (nI (1000 + c1 A k))] m' o 0 0 1
        rw [show nI (1000 + c1 A k) - (1000 : Int32) = nI (c1 A k) from (lit_sub (n := 1000) (by omega)).trans (by rw [show (1000 + c1 A k - OfNat.ofNat 1000) = c1 A k from by show 1000 + c1 A k - 1000 = _; omega])]
        refine fCi htr (x_at m' hGb.1 hGb.2 (by decide) h8) hd ?_
        rw [he G (by simpa using hGn), hk _ h8]
        refine push _ _ ?_ (by omega)
        show _ = (if c0 A k = 0 then _ else if c0 A k < 2 then upd (evS A kn k) (ht A k) (kn (c1 A k)) else _) (ht A k)
        rw [if_neg (by omega), if_pos (by omega), pk_us]
      · have h2h := hc.2.2.2.2.2 q0
        have e2 : cdW (c0 A k) (c1 A k) = nI (2000 + sgnOf (c0 A k)) := by unfold cdW; rw [if_neg (by omega), if_neg (by omega)]
        have gs : sgnOf (c0 A k) < 100 := (show ∀ c, c ≤ 8 → sgnOf c < 100 by decide) _ hc.2.2.1
        have g1 : 2000 ≤ 2000 + sgnOf (c0 A k) := by omega
        rw [e2] at e1
        simp (disch := omega) only [mReq_tt, nI_0a, nI_a0, nI_cl, mIn_ok, lit_add, lit_sub, add_lit, lit_le, le_lit, lit_lt, lt_lit, eq_lit, nI_add, nI_1, nI_leI, nI_ltI, nI_eq, mIn_lit, mIn_0, mIn_1, mIn_2, mIn_3, nI_l0, nI_p0, rf_22, rf_44, rf_60, rf_69, rf_391, rf_7, rf_37, rf_51, rf_230, rf_401, rf_413, rf_496, rf_513, rf_518, sB_2, sB_3, sB_4, sB_5, sB_6, sB_7, sL_2, sL_3, sL_4, sL_5, sL_6, sL_7, not_true_eq_false, not_false_eq_true, false_implies, true_implies, true_and, and_true, eq_self, true_or, or_true, Nat.le_refl, Nat.zero_add, Nat.add_zero, e0, e1, hf, hf2, g1]
        generalize hw : nI (2000 + sgnOf (c0 A k)) = w
        refine mGoOn (mOk (by decide)) rfl [101] 400 ?_
        show mWB l g d k_X4_hourFor Φ 0 0 101 [.ref 600, .ref G, .int ((nI (ht A k - 1)) + (-1 : Int32)), .int (nI k), .int w] [] m' o 0 0
        rw [show nI (ht A k - 1) + (-1 : Int32) = nI (ht A k - 2) from nI_dec (by omega)]
        refine mGoOn (mOk (by decide)) rfl [28] 400 ?_
        show mCal l g d k_X4_hourFor Φ 0 0 _ 117 k_X11_at true [.ref 602, .int (nI (ht A k - 2))] [.int (w - (2000 : Int32)), .int (nI (ht A k - 2)), .ref 602] [.ref 600, .ref G, .int (nI (ht A k - 2)), .int (nI k), .int w] m' o 0 0 1
        rw [show w - (2000 : Int32) = nI (sgnOf (c0 A k)) from by
          rw [← hw]
          exact (lit_sub (n := 2000) (by omega)).trans (by rw [show (2000 + sgnOf (c0 A k) - OfNat.ofNat 2000) = sgnOf (c0 A k) from by show 2000 + sgnOf (c0 A k) - 2000 = _; omega])]
        refine fCi htr (x_at m' (a := 602) (n := 150) rfl rfl (by decide) (by omega)) hd ?_
        show mCal l g d k_X4_hourFor Φ 0 0 _ 127 k_X11_at true [.ref 602, .int ((nI (ht A k - 2)) + (1 : Int32))] [.int (m' 602 (ht A k - 2)), .int (nI (sgnOf (c0 A k))), .int (nI (ht A k - 2)), .ref 602] [.ref 600, .ref G, .int (nI (ht A k - 2)), .int (nI k), .int w] m' o 0 0 1
        rw [show nI (ht A k - 2) + (1 : Int32) = nI (ht A k - 1) from by rw [nI_1]; congr 1; omega]
        refine fCi htr (x_at m' (a := 602) (n := 150) rfl rfl (by decide) (by omega)) hd ?_
        refine fCi htr (x_result m' q0 hc.2.2.1 _ _) hd ?_
        refine fCv htr (x_put m' (a := 602) (n := 150) (k := ht A k - 2) rfl rfl (by decide) (by omega) _) hd ?_
        have e5 : ht A (k + 1) = ht A k - 1 := by show (if c0 A k < 2 then _ else _) = _; rw [if_neg (by omega)]
        have ih := ih (mset m' 602 (ht A k - 2) (jby (c0 A k) (m' 602 (ht A k - 2)) (m' 602 (ht A k - 1)))) (eqL_mset he (by simp) _ _) (by
          intro j hj
          rw [e5] at hj
          show _ = (if c0 A k = 0 then _ else if c0 A k < 2 then _ else upd (evS A kn k) (ht A k - 2) (jby (c0 A k) (evS A kn k (ht A k - 2)) (evS A kn k (ht A k - 1)))) j
          rw [if_neg (by omega), if_neg (by omega), mset_eq, hst _ (by omega), hst _ (by omega)]
          by_cases q : j = ht A k - 2
          · rw [q, pk_us, pk_us]
          · rw [pk_un q, pk_un q]; exact hst j (by omega))
        rw [e5, show nI (ht A k - 1) - 1 = nI (ht A k - 2) from nI_dec1 (by omega)] at ih
        refine mWB_wk (L' := [.ref 600, .ref G, .int (nI (ht A k - 2)), .int (nI k + 1), mJ]) ?_ ⟨Or.inr rfl, Or.inr rfl, Or.inr rfl, Or.inr rfl, Or.inl rfl, trivial⟩
        rw [nI_1]
        exact ih
  · have hz : nW A = 0 := by
      have := (nI_eq (a := nW A) (b := 0) (by omega) (by omega)).mp h0
      exact this
    refine fCi htr (x_at m hGb.1 hGb.2 (k := 0) (by decide) (by decide)) hd ?_
    refine fCi htr (x_at m hGb.1 hGb.2 (k := 2) (by decide) (by decide)) hd ?_
    refine ms_fmod (mOk (by decide)) rfl htr hd (by decide) (Nat.le_refl _) (Nat.le_refl _) (by decide) ?_
    show mWB l g d k_X4_hourFor Φ 0 0 23 [.ref 600, .ref G, mJ, mJ, mJ] [.int (jfm (m G 0 + m G 2) 24)] m o 0 0
    rw [jfm24, hk 0 (by decide), hk 2 (by decide)]
    refine mGoOn (mOk (by decide)) rfl [] 400 ?_
    refine eR (hΦ _ _ ⟨?_, eqL_refl _ _⟩)
    unfold lawV
    rw [hz]
    rfl
/-- what a call leaves behind -/
abbrev lC : List Nat := [602, 603]
theorem eqV_C {m m2 : Mm} (h : eqL lV m m2) : eqL lC m m2 := eqL_sub h (by decide)
theorem sc_C : ∀ a, a ∈ lC → ∀ i, sc a i = true := by
  intro a ha i
  rcases List.mem_cons.mp ha with rfl | ha
  · rfl
  · rcases List.mem_cons.mp ha with rfl | ha
    · rfl
    · cases ha
theorem eqC_cl {m m2 A : Mm} (h : eqL lC m m2) (hm : cl m = A) : cl m2 = A := eqL_cl sc_C h hm
theorem eqC_cs {m m2 A : Mm} (h : eqL lC m m2) (hm : csim A m) : csim A m2 := fun a h1 h2 => by rw [h a (by simp; omega)]; exact hm a h1 h2
theorem eqC_Nt {m m2 A : Mm} (h : eqL lC m m2) {N : Nat} (hN : N + 3 < 602 ∨ 603 < N) {R : Nat → Int32} (hR : NtR A R m N) : NtR A R m2 N := by
  unfold NtR
  rw [h N (by simp; omega), h (N + 1) (by simp; omega), h (N + 2) (by simp; omega), h (N + 3) (by simp; omega)]
  exact hR
/-- others who are up in the street, as bits -/
theorem oth_bits {A : Mm} (hA : CtB A) (R : Nat → Int32) {k : Nat} (hk : k < nM A) (s : Nat) : ∃ n, n < 512 ∧ (msk (fun i => R i = nI s) (nM A) &&& msk (fun i => R (12 + i) = 0) (nM A)) &&& (jshl 1 (nI k) ^^^ (-1)) = nI n ∧ one24 (nI n) = oth A R k s := by
  have h6 := hA.2.2.1.2
  rw [msk_and _ _ (by omega)]
  have hb : ∀ i, i < 32 → (hB (msk (fun i => R i = nI s ∧ R (12 + i) = 0) (nM A) &&& (jshl 1 (nI k) ^^^ (-1))) i ↔ i < nM A ∧ (i ≠ k ∧ R i = nI s ∧ R (12 + i) = 0)) := by
    intro i hi
    rw [hB_and, hB_msk (by omega) hi, hB_not _ hi, hB_sh (by omega) hi]
    constructor
    · rintro ⟨⟨a, b, c⟩, e⟩; exact ⟨a, e, b, c⟩
    · rintro ⟨a, e, b, c⟩; exact ⟨⟨a, b, c⟩, e⟩
  obtain ⟨n, hn, e⟩ := small9 (x := msk (fun i => R i = nI s ∧ R (12 + i) = 0) (nM A) &&& (jshl 1 (nI k) ^^^ (-1))) (fun i h1 h2 q => by
    have := ((hb i h2).mp q).1
    omega)
  refine ⟨n, hn, e, ?_⟩
  rw [← e]
  exact one24_of (by omega) (fun i hi => hb i (by omega))
theorem x_cry (hA : Sv A) (hC : CtR A A 590) (hL : LwR A A 600) {m : Mm} (hs : csim A m) (hd : 2 ≤ d) {N : Nat} (hN : ntB N = true) (hN2 : N + 3 < 602 ∨ 603 < N) {R : Nat → Int32} (hR : NtR A R m N) {k s : Nat} (hk : k < nM A) (hs9 : s < nS A) (h : Int32) : mHi l g d k_X8_cry [.ref 589, .ref N, .int (nI k), .int (nI s), .int h] m (fun x m2 => x = sayR A R k s h ∧ eqL lC m m2) := by
  have hn := nt_of hN
  have h6 := hA.1.2.2.1.2
  have h9n := hA.1.1.2
  obtain ⟨on, hon, ebits, eone⟩ := oth_bits hA.1 R hk s
  refine nBi 1 rfl rfl rfl (by decide) rfl (fun htr o Φ hΦ => mGoOn (mOk (by decide)) rfl [28,47,57,73,82,95,114,127,141] 400 ?_)
  show mReq (mIsB N 15) (mCal l g d k_X8_cry Φ 0 0 _ 12 k_X11_places true [.ref (mRF N 4), .int (m 590 2), .int (nI s)] [] [.ref 589, .ref N, .int (nI k), .int (nI s), .int h, mJ] m o 0 0 1)
  have key : ∀ m2 : Mm, eqL lC m m2 → (∀ j, j < 8 → m2 603 j = kn8 (A (45 + k) 1) h (R (6 + k)) (nI s) (nI (oth A R k s)) (A (45 + k) 2) (R 36) (R (18 + s)) j) → ∀ b : Int32, mWB l g d k_X8_cry Φ 0 0 141 [.ref 589, .ref N, .int (nI k), .int (nI s), .int h, .int b] [] m2 o 0 0 := by
    intro m2 he hkn b
    refine mGoOn (mOk (by decide)) rfl [] 400 ?_
    show True ∧ mCal l g d k_X8_cry Φ 0 0 _ 149 k_X4_hourFor false [.ref 600, .ref 603] [] [.ref 589, .ref N, .int (nI k), .int (nI s), .int h, .int b] m2 o 0 0 1
    refine ⟨trivial, nCi htr (x_hourFor hA.2 hL (eqC_cs he hs) (by omega) (Or.inl rfl) hkn) (by omega) ?_⟩
    intro x m3 hx
    exact eR (hΦ _ _ ⟨hx.1, eqL_trans he (eqV_C hx.2)⟩)
  rw [hn.2.1, csim_at hs 2 (by omega), hC.1.2.2.1]
  refine mReq_i hn.1 (fCi htr (x_places m hn.2.2.2.2.1.1 hn.2.2.2.2.1.2 (by decide) h6 (by omega) (nI s)) (by omega) ?_)
  rw [show msk (fun i => m (N + 1) i = nI s) (nM A) = msk (fun i => R i = nI s) (nM A) from msk_cong (fun i hi => by rw [hR.2.2.2.2.1 i hi])]
  show mReq (mIsB N 15) (mWB l g d k_X8_cry Φ 0 0 28 [.ref 589, .ref N, .int (nI k), .int (nI s), .int h, .int (((msk (fun i => R i = nI s) (nM A)) &&& (m N 2)) &&& ((jshl (1 : Int32) (nI k)) ^^^ (-1 : Int32)))] [] m o 0 0)
  rw [hR.2.2.1, ebits]
  refine mReq_i hn.1 ?_
  have st : ∀ (m2 : Mm) (j : Nat) (v : Int32), eqL lC m m2 → j < 8 → (∀ i, i < j → m2 603 i = kn8 (A (45 + k) 1) h (R (6 + k)) (nI s) (nI (oth A R k s)) (A (45 + k) 2) (R 36) (R (18 + s)) i) → v = kn8 (A (45 + k) 1) h (R (6 + k)) (nI s) (nI (oth A R k s)) (A (45 + k) 2) (R 36) (R (18 + s)) j → eqL lC m (mset m2 603 j v) ∧ ∀ i, i < j + 1 → mset m2 603 j v 603 i = kn8 (A (45 + k) 1) h (R (6 + k)) (nI s) (nI (oth A R k s)) (A (45 + k) 2) (R 36) (R (18 + s)) i := by
    intro m2 j v he hj hp hv
    refine ⟨eqL_mset he (by simp) _ _, fun i hi => ?_⟩
    rw [mset_eq]
    by_cases q : i = j
    · rw [q, pk_us, hv]
    · rw [pk_un q]; exact hp i (by omega)
  have q0 := eqL_refl lC m
  have p0 : ∀ i, i < 0 → m 603 i = kn8 (A (45 + k) 1) h (R (6 + k)) (nI s) (nI (oth A R k s)) (A (45 + k) 2) (R 36) (R (18 + s)) i := fun i hi => absurd hi (Nat.not_lt_zero _)
  refine mGoOn (mOk (by decide)) rfl [28,47,57,73,82,95,114,127,141] 400 ?_
  show mCal l g d k_X8_cry Φ 0 0 _ 41 k_X11_at true [.ref 596, .int (nI k)] [.int (0 : Int32), .ref 603] [.ref 589, .ref N, .int (nI k), .int (nI s), .int h, .int (nI on)] m o 0 0 1
  refine fCi htr (x_at m (a := 596) (n := 6) rfl rfl (by decide) (by omega)) (by omega) ?_
  refine fCv htr (x_put m (a := 603) (n := 8) (k := 0) rfl rfl (by decide) (by decide) _) (by omega) ?_
  obtain ⟨q1, p1⟩ := st m 0 (m 596 k) q0 (by decide) p0 (by rw [q0 596 (by decide), csim_at hs k (by omega), (hC.2.2.2.2.1 k hk).2.1]; rfl)
  generalize mset m 603 0 (m 596 k) = m1 at q1 p1 ⊢
  show mWB l g d k_X8_cry Φ 0 0 47 [.ref 589, .ref N, .int (nI k), .int (nI s), .int h, .int (nI on)] [] m1 o 0 0
  refine mGoOn (mOk (by decide)) rfl [28,47,57,73,82,95,114,127,141] 400 ?_
  show mCal l g d k_X8_cry Φ 0 0 _ 54 k_X11_put true [.ref 603, .int (1 : Int32), .int h] [] [.ref 589, .ref N, .int (nI k), .int (nI s), .int h, .int (nI on)] m1 o 0 0 0
  refine fCv htr (x_put m1 (a := 603) (n := 8) (k := 1) rfl rfl (by decide) (by decide) _) (by omega) ?_
  obtain ⟨q2, p2⟩ := st m1 1 (h) q1 (by decide) p1 (rfl)
  generalize mset m1 603 1 (h) = m2 at q2 p2 ⊢
  show mWB l g d k_X8_cry Φ 0 0 57 [.ref 589, .ref N, .int (nI k), .int (nI s), .int h, .int (nI on)] [] m2 o 0 0
  refine mGoOn (mOk (by decide)) rfl [28,47,57,73,82,95,114,127,141] 400 ?_
  show mReq (mIsB N 15) (mCal l g d k_X8_cry Φ 0 0 _ 67 k_X11_at true [.ref (mRF N 5), .int (nI k)] [.int (2 : Int32), .ref 603] [.ref 589, .ref N, .int (nI k), .int (nI s), .int h, .int (nI on)] m2 o 0 0 1)
  rw [hn.2.2.1]
  refine mReq_i hn.1 (fCi htr (x_at m2 hn.2.2.2.2.2.1.1 hn.2.2.2.2.2.1.2 (by decide) (by omega)) (by omega) ?_)
  refine fCv htr (x_put m2 (a := 603) (n := 8) (k := 2) rfl rfl (by decide) (by decide) _) (by omega) ?_
  obtain ⟨q3, p3⟩ := st m2 2 (m2 (N + 2) k) q2 (by decide) p2 (by rw [q2 (N + 2) (by simp; omega), hR.2.2.2.2.2.1 k (by omega)]; rfl)
  generalize mset m2 603 2 (m2 (N + 2) k) = m3 at q3 p3 ⊢
  show mWB l g d k_X8_cry Φ 0 0 73 [.ref 589, .ref N, .int (nI k), .int (nI s), .int h, .int (nI on)] [] m3 o 0 0
  refine mGoOn (mOk (by decide)) rfl [28,47,57,73,82,95,114,127,141] 400 ?_
  show mCal l g d k_X8_cry Φ 0 0 _ 79 k_X11_put true [.ref 603, .int (3 : Int32), .int (nI s)] [] [.ref 589, .ref N, .int (nI k), .int (nI s), .int h, .int (nI on)] m3 o 0 0 0
  refine fCv htr (x_put m3 (a := 603) (n := 8) (k := 3) rfl rfl (by decide) (by decide) _) (by omega) ?_
  obtain ⟨q4, p4⟩ := st m3 3 (nI s) q3 (by decide) p3 (rfl)
  generalize mset m3 603 3 (nI s) = m4 at q4 p4 ⊢
  show mWB l g d k_X8_cry Φ 0 0 82 [.ref 589, .ref N, .int (nI k), .int (nI s), .int h, .int (nI on)] [] m4 o 0 0
  refine mGoOn (mOk (by decide)) rfl [28,47,57,73,82,95,114,127,141] 400 ?_
  show mCal l g d k_X8_cry Φ 0 0 _ 89 k_J6_bitCount_0f7a4 false [.int (nI on)] [.int (4 : Int32), .ref 603] [.ref 589, .ref N, .int (nI k), .int (nI s), .int h, .int (nI on)] m4 o 0 0 1
  refine fCi htr (j_bitCount m4 hon) (by omega) ?_
  refine fCv htr (x_put m4 (a := 603) (n := 8) (k := 4) rfl rfl (by decide) (by decide) _) (by omega) ?_
  obtain ⟨q5, p5⟩ := st m4 4 (nI (one24 (nI on))) q4 (by decide) p4 (by rw [eone]; rfl)
  generalize mset m4 603 4 (nI (one24 (nI on))) = m5 at q5 p5 ⊢
  show mWB l g d k_X8_cry Φ 0 0 95 [.ref 589, .ref N, .int (nI k), .int (nI s), .int h, .int (nI on)] [] m5 o 0 0
  refine mGoOn (mOk (by decide)) rfl [28,47,57,73,82,95,114,127,141] 400 ?_
  show mCal l g d k_X8_cry Φ 0 0 _ 108 k_X11_at true [.ref 597, .int (nI k)] [.int (5 : Int32), .ref 603] [.ref 589, .ref N, .int (nI k), .int (nI s), .int h, .int (nI on)] m5 o 0 0 1
  refine fCi htr (x_at m5 (a := 597) (n := 6) rfl rfl (by decide) (by omega)) (by omega) ?_
  refine fCv htr (x_put m5 (a := 603) (n := 8) (k := 5) rfl rfl (by decide) (by decide) _) (by omega) ?_
  obtain ⟨q6, p6⟩ := st m5 5 (m5 597 k) q5 (by decide) p5 (by rw [q5 597 (by decide), csim_at hs k (by omega), (hC.2.2.2.2.1 k hk).2.2]; rfl)
  generalize mset m5 603 5 (m5 597 k) = m6 at q6 p6 ⊢
  show mWB l g d k_X8_cry Φ 0 0 114 [.ref 589, .ref N, .int (nI k), .int (nI s), .int h, .int (nI on)] [] m6 o 0 0
  refine mGoOn (mOk (by decide)) rfl [28,47,57,73,82,95,114,127,141] 400 ?_
  show mReq (mIsB N 15) (mCal l g d k_X8_cry Φ 0 0 _ 124 k_X11_put true [.ref 603, .int (6 : Int32), .int (m6 N 1)] [] [.ref 589, .ref N, .int (nI k), .int (nI s), .int h, .int (nI on)] m6 o 0 0 0)
  refine mReq_i hn.1 ?_
  refine fCv htr (x_put m6 (a := 603) (n := 8) (k := 6) rfl rfl (by decide) (by decide) _) (by omega) ?_
  obtain ⟨q7, p7⟩ := st m6 6 (m6 N 1) q6 (by decide) p6 (by rw [q6 N (by simp; omega), hR.2.1]; rfl)
  generalize mset m6 603 6 (m6 N 1) = m7 at q7 p7 ⊢
  show mWB l g d k_X8_cry Φ 0 0 127 [.ref 589, .ref N, .int (nI k), .int (nI s), .int h, .int (nI on)] [] m7 o 0 0
  refine mGoOn (mOk (by decide)) rfl [28,47,57,73,82,95,114,127,141] 400 ?_
  show mReq (mIsB N 15) True ∧ mCal l g d k_X8_cry Φ 0 0 _ 135 k_X5_heardIn false [.ref N, .int (nI s)] [.int (7 : Int32), .ref 603] [.ref 589, .ref N, .int (nI k), .int (nI s), .int h, .int (nI on)] m7 o 0 0 1
  refine ⟨mReq_i hn.1 trivial, fCi htr (x_heardIn hN (by omega) (by omega)) (by omega) ?_⟩
  refine fCv htr (x_put m7 (a := 603) (n := 8) (k := 7) rfl rfl (by decide) (by decide) _) (by omega) ?_
  obtain ⟨q8, p8⟩ := st m7 7 (m7 (N + 3) s) q7 (by decide) p7 (by rw [q7 (N + 3) (by simp; omega), hR.2.2.2.2.2.2 s (by omega) hs9]; rfl)
  generalize mset m7 603 7 (m7 (N + 3) s) = m8 at q8 p8 ⊢
  exact key m8 q8 p8 _
end X2
