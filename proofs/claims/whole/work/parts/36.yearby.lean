set_option maxRecDepth 100000
theorem p4_1 {α β γ δ : Type} (a : α) (b : β) (c : γ) (d : δ) : (a, b, c, d).1 = a := rfl
theorem p4_2 {α β γ δ : Type} (a : α) (b : β) (c : γ) (d : δ) : (a, b, c, d).2.1 = b := rfl
theorem p4_3 {α β γ δ : Type} (a : α) (b : β) (c : γ) (d : δ) : (a, b, c, d).2.2.1 = c := rfl
theorem p4_4 {α β γ δ : Type} (a : α) (b : β) (c : γ) (d : δ) : (a, b, c, d).2.2.2 = d := rfl
theorem stY_1 (A : Mm) (q : Int32) (y : Y4) : (stY A q y).1 = nHour (yB A q y) := by unfold stY; exact p4_1 _ _ _ _
theorem stY_2 (A : Mm) (q : Int32) (y : Y4) : (stY A q y).2.1 = (yN A y).2.2 := by unfold stY; exact p4_2 _ _ _ _
theorem stY_3 (A : Mm) (q : Int32) (y : Y4) : (stY A q y).2.2.1 = dr (dr (dr y.2.2.1)) := by unfold stY; exact p4_3 _ _ _ _
theorem stY_4 (A : Mm) (q : Int32) (y : Y4) : (stY A q y).2.2.2 = y.2.2.2 + (yN A y).1 := by unfold stY; exact p4_4 _ _ _ _
section R19
variable {l : Launch} {g : mG} {d : Nat} {A : Mm}
theorem r_draw (m : Mm) {n : Nat} (h0 : 0 < n) (hn : n < 2 ^ 31) : mFi l g d k_X12_draw [.ref 0, .int (nI n)] m (drv (dr (m 0 47)) (nI n)) (mset m 0 47 (dr (m 0 47))) := by
  refine nFi 0 rfl rfl rfl (by decide) rfl (fun htr o Φ hΦ => mGoOn (mOk (by decide)) rfl [] 400 ?_)
  show ¬ (nI n) = 0 ∧ (Φ (.inl (some (.int (jrem ((jshr ((mset m 0 47 (((m 0 47) * (1103515245 : Int32)) + (12345 : Int32))) 0 47) (16 : Int32)) &&& (32767 : Int32)) (nI n))))) (mset m 0 47 (((m 0 47) * (1103515245 : Int32)) + (12345 : Int32))) o ∧ 0 ≤ 0 ∧ 0 ≤ 0)
  rw [mset_eq, pk_us]
  exact ⟨nI_ne0 h0 hn, eR hΦ⟩
theorem r_draw16 (m : Mm) : mFi l g d k_X12_draw [.ref 0, .int 16] m (drv (dr (m 0 47)) 16) (mset m 0 47 (dr (m 0 47))) := by
  refine nFi 0 rfl rfl rfl (by decide) rfl (fun htr o Φ hΦ => mGoOn (mOk (by decide)) rfl [] 400 ?_)
  show ¬ (16 : Int32) = 0 ∧ (Φ (.inl (some (.int (jrem ((jshr ((mset m 0 47 (((m 0 47) * (1103515245 : Int32)) + (12345 : Int32))) 0 47) (16 : Int32)) &&& (32767 : Int32)) (16 : Int32))))) (mset m 0 47 (((m 0 47) * (1103515245 : Int32)) + (12345 : Int32))) o ∧ 0 ≤ 0 ∧ 0 ≤ 0)
  rw [mset_eq, pk_us]
  exact ⟨by decide, eR hΦ⟩
theorem r_copies {m : Mm} {x y : Nat} (hx : mIsB x 1 = true ∧ 37 ≤ mLn x ∧ mLn x < 2 ^ 31) (hy : mIsB y 1 = true ∧ 37 ≤ mLn y ∧ mLn y < 2 ^ 31) (hxy : x ≠ y) : mHv l g d k_X12_copies [.ref x, .ref y] m (fun m2 => (∀ a, a ≠ y → m2 a = m a) ∧ eq37 (m x) (m2 y)) := by
  refine nBv 1 rfl rfl rfl (by decide) rfl (fun htr o Φ hΦ => mGoOn (mOk (by decide)) rfl [2] 400 ?_)
  show mWB l g d k_X12_copies Φ 0 0 2 [.ref x, .ref y, .int (0 : Int32)] [] m o 0 0
  refine mLoopZ (P := fun k => ∀ m', (∀ a, a ≠ y → m' a = m a) → (∀ i, i < k → m x i = m' y i) → mWB l g d k_X12_copies Φ 0 0 2 [.ref x, .ref y, .int (nI k)] [] m' o 0 0) (N := 37) ?_ ?_ m (fun _ _ => rfl) (fun i hi => by omega)
  · intro m' he h1
    refine mGoOn (mOk (by decide)) rfl [2] 400 ?_
    show ((37 : Int32) ≤ (nI 37) → Φ (.inl none) m' o ∧ 0 ≤ 0 ∧ 0 ≤ 0) ∧ (¬ (37 : Int32) ≤ (nI 37) → mReq (mIsB x 1) (mReq (mInB (nI 37) (mLn x)) (mReq (mIsB y 1) (mReq (mInB (nI 37) (mLn y)) (mWB l g d k_X12_copies Φ 0 0 2 [.ref x, .ref y, .int ((nI 37) + (1 : Int32))] [] (mset m' y ((nI 37).toNatClampNeg) (m' x ((nI 37).toNatClampNeg))) o 0 0)))))
    simp (disch := omega) only [mReq_tt, nI_0a, nI_a0, nI_cl, mIn_ok, lit_add, lit_sub, add_lit, lit_le, le_lit, lit_lt, lt_lit, eq_lit, nI_add, nI_1, nI_leI, nI_ltI, nI_eq, mIn_lit, mIn_0, mIn_1, mIn_2, mIn_3, nI_l0, nI_p0, rf_22, rf_44, rf_60, rf_69, rf_391, rf_7, rf_37, rf_51, rf_230, rf_401, rf_413, rf_496, rf_513, rf_518, sB_2, sB_3, sB_4, sB_5, sB_6, sB_7, sL_2, sL_3, sL_4, sL_5, sL_6, sL_7, not_true_eq_false, not_false_eq_true, false_implies, true_implies, true_and, and_true, eq_self, true_or, or_true, Nat.le_refl, Nat.zero_add, Nat.add_zero]
    exact hΦ _ ⟨he, h1⟩
  · intro k hk ih m' he h1
    refine mGoOn (mOk (by decide)) rfl [2] 400 ?_
    show ((37 : Int32) ≤ (nI k) → Φ (.inl none) m' o ∧ 0 ≤ 0 ∧ 0 ≤ 0) ∧ (¬ (37 : Int32) ≤ (nI k) → mReq (mIsB x 1) (mReq (mInB (nI k) (mLn x)) (mReq (mIsB y 1) (mReq (mInB (nI k) (mLn y)) (mWB l g d k_X12_copies Φ 0 0 2 [.ref x, .ref y, .int ((nI k) + (1 : Int32))] [] (mset m' y ((nI k).toNatClampNeg) (m' x ((nI k).toNatClampNeg))) o 0 0)))))
    have hfk : ¬ 37 ≤ k := by omega
    have hx2 := hx.2
    have hy2 := hy.2
    simp (disch := omega) only [mReq_tt, nI_0a, nI_a0, nI_cl, mIn_ok, lit_add, lit_sub, add_lit, lit_le, le_lit, lit_lt, lt_lit, eq_lit, nI_add, nI_1, nI_leI, nI_ltI, nI_eq, mIn_lit, mIn_0, mIn_1, mIn_2, mIn_3, nI_l0, nI_p0, rf_22, rf_44, rf_60, rf_69, rf_391, rf_7, rf_37, rf_51, rf_230, rf_401, rf_413, rf_496, rf_513, rf_518, sB_2, sB_3, sB_4, sB_5, sB_6, sB_7, sL_2, sL_3, sL_4, sL_5, sL_6, sL_7, not_true_eq_false, not_false_eq_true, false_implies, true_implies, true_and, and_true, eq_self, true_or, or_true, Nat.le_refl, Nat.zero_add, Nat.add_zero, hx.1, hy.1, hfk]
    refine ih _ (fun a ha => by rw [mset_ne _ (a := y) (x := a) _ _ ha]; exact he a ha) (fun i hi => ?_)
    rw [mset_eq, upd_at]
    by_cases e : i = k
    · rw [if_pos e, e, he x hxy]
    · rw [if_neg e]; exact h1 i (by omega)
/-- scratch of years -/
def Yc (A m : Mm) (t : Int32) : Prop := cl m = A ∧ m 0 0 = t
theorem Yc_0 {A m : Mm} {t : Int32} (h : Yc A m t) {i : Nat} (hi : i = 40 ∨ i = 47 ∨ i = 48) (v : Int32) : Yc A (mset m 0 i v) t := ⟨cl_mset h.1 v (by rcases hi with rfl | rfl | rfl <;> rfl), by rw [mset_eq, pk_un (by omega)]; exact h.2⟩
theorem Yc_r {A m : Mm} {t : Int32} (h : Yc A m t) (i : Nat) (v : Int32) : Yc A (mset m 495 i v) t := ⟨cl_mset h.1 v rfl, by rw [mset_ne _ _ _ (by decide)]; exact h.2⟩
theorem Yc_fr {A m m2 : Mm} {t : Int32} (h : Yc A m t) (hf : fr 495 m m2) : Yc A m2 t := by
  refine ⟨?_, by rw [hf.2 0 (by decide)]; exact h.2⟩
  rw [← h.1]
  funext a i
  unfold cl
  cases hs : sc a i with
  | true => rfl
  | false =>
    show m2 a i = m a i
    by_cases h0 : a = 0
    · subst h0
      exact hf.2 i (fun q => by rw [q] at hs; exact Bool.noConfusion hs)
    · rw [hf.1 a h0 (fun q => by rw [q] at hs; exact Bool.noConfusion hs) (fun q => by rw [q] at hs; exact Bool.noConfusion hs) (fun q => by rw [q] at hs; exact Bool.noConfusion hs)]
theorem r_yrest (htr : l.stackTraces = false) (o : Int64) {Φ : mR → Mm → Int64 → Prop} (hd : 8 ≤ d) (hN2 : A 4 2 = nI (nM A) ∧ nM A ≤ 6) {t seed q : Int32} {n k : Nat} {y : Y4} {kk : Nat} (hkk : yK A y = kk) (hkb : kk < nM A) (ih : ∀ m2, Yc A m2 t → eq37 (stY A q y).1 (m2 495) → m2 0 40 = (stY A q y).2.1 → m2 0 47 = (stY A q y).2.2.1 → m2 0 48 = (stY A q y).2.2.2 → mWB l g d k_X12_yearBy Φ 0 0 29 [.ref 0, .int seed, .int (nI n), .int q, .int (nI (k + 1)), mJ] [] m2 o 0 0) : ∀ m5, Yc A m5 t → eq37 (yN A y).2.1 (m5 495) → m5 0 40 = (yN A y).2.2 → m5 0 47 = dr (dr y.2.2.1) → m5 0 48 = y.2.2.2 + (yN A y).1 → mWB l g d k_X12_yearBy Φ 0 0 93 [.ref 0, .int seed, .int (nI n), .int q, .int (nI k), .int (nI kk)] [] m5 o 0 0 := by
  intro m5 hm5 hv3 hv4 hv6 hv8
  refine mGoOn (mOk (by decide)) rfl [29,93,125] 400 ?_
  show True ∧ mCal l g d k_X12_yearBy Φ 0 0 _ 96 k_X12_draw false [.ref 0, .int (16 : Int32)] [] [.ref 0, .int seed, .int (nI n), .int q, .int (nI k), .int (nI kk)] m5 o 0 0 1
  refine ⟨trivial, fCi htr (r_draw16 m5) (by omega) ?_⟩
  rw [hv6]
  have hm6 := Yc_0 hm5 (i := 47) (by omega) (dr (dr (dr y.2.2.1)))
  have j3 : mset m5 0 47 (dr (dr (dr y.2.2.1))) 495 = m5 495 := mset_ne _ _ _ (by decide)
  have j4 : mset m5 0 47 (dr (dr (dr y.2.2.1))) 0 40 = (yN A y).2.2 := by rw [mset_eq, pk_un (by decide)]; exact hv4
  have j8 : mset m5 0 47 (dr (dr (dr y.2.2.1))) 0 48 = y.2.2.2 + (yN A y).1 := by rw [mset_eq, pk_un (by decide)]; exact hv8
  have j6 : mset m5 0 47 (dr (dr (dr y.2.2.1))) 0 47 = dr (dr (dr y.2.2.1)) := by rw [mset_eq, pk_us]
  generalize mset m5 0 47 (dr (dr (dr y.2.2.1))) = m6 at hm6 j3 j4 j6 j8 ⊢
  generalize hvv : drv (dr (dr (dr y.2.2.1))) 16 = v3
  show (q ≤ v3 → mWB l g d k_X12_yearBy Φ 0 0 125 [.ref 0, .int seed, .int (nI n), .int q, .int (nI k), .int (nI kk)] [] m6 o 0 0) ∧ (¬ q ≤ v3 → mReq (mInB ((12 : Int32) + (nI kk)) 37) (mReq (mInB ((12 : Int32) + (nI kk)) 37) (mWB l g d k_X12_yearBy Φ 0 0 125 [.ref 0, .int seed, .int (nI n), .int q, .int (nI k), .int (nI kk)] [] (mset m6 495 (((12 : Int32) + (nI kk)).toNatClampNeg) ((1 : Int32) - (m6 495 (((12 : Int32) + (nI kk)).toNatClampNeg)))) o 0 0)))
  have fin : ∀ m7, Yc A m7 t → eq37 (yB A q y) (m7 495) → m7 0 = m6 0 → mWB l g d k_X12_yearBy Φ 0 0 125 [.ref 0, .int seed, .int (nI n), .int q, .int (nI k), .int (nI kk)] [] m7 o 0 0 := by
    intro m7 hm7 i3 i0
    refine mGoOn (mOk (by decide)) rfl [29,93,125] 400 ?_
    show mCal l g d k_X12_yearBy Φ 0 0 _ 129 k_X12_hourEnds false [.ref 495] [] [.ref 0, .int seed, .int (nI n), .int q, .int (nI k), .int (nI kk)] m7 o 0 0 0
    refine nCv htr (r_hourEnds (Or.inr rfl)) (by omega) ?_
    intro m8 ⟨f1, f2, f3⟩
    show mWB l g d k_X12_yearBy Φ 0 0 29 [.ref 0, .int seed, .int (nI n), .int q, .int ((nI k) + (1 : Int32)), .int (nI kk)] [] m8 o 0 0
    rw [nI_1]
    refine mWB_wk (ih m8 (Yc_fr hm7 f1) ?_ ?_ ?_ ?_) ⟨Or.inr rfl, Or.inr rfl, Or.inr rfl, Or.inr rfl, Or.inr rfl, Or.inl rfl, trivial⟩
    · rw [f2, stY_1]; exact nHour_37 i3
    · rw [f3, i0, stY_2]; exact j4
    · rw [f3, i0, stY_3]; exact j6
    · rw [f3, i0, stY_4]; exact j8
  simp (disch := omega) only [mReq_tt, nI_0a, nI_a0, nI_cl, mIn_ok, lit_add, lit_sub, add_lit, lit_le, le_lit, lit_lt, lt_lit, eq_lit, nI_add, nI_1, nI_leI, nI_ltI, nI_eq, mIn_lit, mIn_0, mIn_1, mIn_2, mIn_3, nI_l0, nI_p0, rf_22, rf_44, rf_60, rf_69, rf_391, rf_7, rf_37, rf_51, rf_230, rf_401, rf_413, rf_496, rf_513, rf_518, sB_2, sB_3, sB_4, sB_5, sB_6, sB_7, sL_2, sL_3, sL_4, sL_5, sL_6, sL_7, not_true_eq_false, not_false_eq_true, false_implies, true_implies, true_and, and_true, eq_self, true_or, or_true, Nat.le_refl, Nat.zero_add, Nat.add_zero]
  refine ⟨fun z => fin m6 hm6 ?_ rfl, fun z => ?_⟩
  · unfold yB; rw [hvv, if_pos z, j3]; exact hv3
  · refine fin _ (Yc_r hm6 _ _) ?_ (mset_ne _ _ _ (by decide))
    unfold yB bdF
    rw [hvv, hkk, if_neg z, mset_eq]
    exact eq37_upd (by rw [j3]; exact hv3) _ (by rw [j3, hv3 (12 + kk) (by omega)])
theorem r_yearBy (hA : Sv A) (hT : Cty A) (hR : plR A (A 494)) {m : Mm} {t : Int32} (hm : Yc A m t) (hd : 8 ≤ d) (seed : Int32) {n : Nat} (hn : n < 1000) (q : Int32) : mHv l g d k_X12_yearBy [.ref 0, .int seed, .int (nI n), .int q] m (fun m2 => Yc A m2 t ∧ eq37 (yr A seed n q).1 (m2 495) ∧ m2 0 40 = (yr A seed n q).2.1 ∧ m2 0 48 = (yr A seed n q).2.2.2) := by
  have hN := hA.1.1
  have hN2 := hA.1.2.2.1
  refine nBv 2 rfl rfl rfl (by decide) rfl (fun htr o Φ hΦ => mGoOn (mOk (by decide)) rfl [29,93,125] 400 ?_)
  show mCal l g d k_X12_yearBy Φ 0 0 _ 8 k_X12_copies false [.ref 494, .ref 495] [] [.ref 0, .int seed, .int (nI n), .int q, mJ, mJ] m o 0 0 0
  refine nCv htr (r_copies (x := 494) (y := 495) ⟨rfl, by decide, by decide⟩ ⟨rfl, by decide, by decide⟩ (by decide)) (by omega) ?_
  intro m1 ⟨h1, h2⟩
  have hm1 : Yc A m1 t := Yc_fr hm ⟨fun a _ _ _ h => h1 a h, fun i _ => by rw [h1 0 (by decide)]⟩
  rw [clF hm.1 (by omega)] at h2
  show mWB l g d k_X12_yearBy Φ 0 0 29 [.ref 0, .int seed, .int (nI n), .int q, .int (0 : Int32), mJ] [] (mset (mset (mset m1 0 47 seed) 0 48 (0 : Int32)) 0 40 (0 : Int32)) o 0 0
  have hm2 := Yc_0 (Yc_0 (Yc_0 hm1 (i := 47) (by omega) seed) (i := 48) (by omega) 0) (i := 40) (by omega) 0
  have h3 : eq37 (A 494) (mset (mset (mset m1 0 47 seed) 0 48 0) 0 40 0 495) := h2
  have h4 : mset (mset (mset m1 0 47 seed) 0 48 0) 0 40 0 0 40 = 0 := by rw [mset_eq, pk_us]
  have h5 : mset (mset (mset m1 0 47 seed) 0 48 0) 0 40 0 0 48 = 0 := by rw [mset_eq, pk_un (by decide), mset_eq, pk_us]
  have h6 : mset (mset (mset m1 0 47 seed) 0 48 0) 0 40 0 0 47 = seed := by rw [mset_eq, pk_un (by decide), mset_eq, pk_un (by decide), mset_eq, pk_us]
  generalize mset (mset (mset m1 0 47 seed) 0 48 0) 0 40 0 = m2 at hm2 h3 h4 h5 h6 ⊢
  unfold yr at hΦ
  by_cases hz : nM A = 0
  · rw [if_pos hz] at hΦ
    refine mGoOn (mOk (by decide)) rfl [29,93,125] 400 ?_
    show ((nI n) ≤ (0 : Int32) → Φ (.inl none) m2 o ∧ 0 ≤ 0 ∧ 0 ≤ 0) ∧ (¬ (nI n) ≤ (0 : Int32) → ((m2 4 2) ≤ 0 → Φ (.inl none) m2 o ∧ 0 ≤ 0 ∧ 0 ≤ 0) ∧ (¬ (m2 4 2) ≤ 0 → True ∧ mCal l g d k_X12_yearBy Φ 0 0 _ 51 k_X12_draw false [.ref 0, .int (m2 4 2)] [] [.ref 0, .int seed, .int (nI n), .int q, .int (0 : Int32), mJ] m2 o 0 0 1))
    rw [clA hm2.1 2 (by omega), hN2.1, hz]
    refine ⟨fun _ => eR (hΦ _ ⟨hm2, h3, h4, h5⟩), fun _ => ⟨fun _ => eR (hΦ _ ⟨hm2, h3, h4, h5⟩), fun z => absurd (show nI 0 ≤ 0 by decide) z⟩⟩
  rw [if_neg hz] at hΦ
  have hS : 0 < nS A := by
    obtain ⟨s, hs, _⟩ := hR 0 (by omega)
    omega
  have hpl : ∀ k, plR A (foY A q seed k).1 := by
    intro k
    induction k with
    | zero => exact hR
    | succ k ih => exact yr_pl hA.1 hS ih
  refine mLoopZ (P := fun k => ∀ m2, Yc A m2 t → eq37 (foY A q seed k).1 (m2 495) → m2 0 40 = (foY A q seed k).2.1 → m2 0 47 = (foY A q seed k).2.2.1 → m2 0 48 = (foY A q seed k).2.2.2 → mWB l g d k_X12_yearBy Φ 0 0 29 [.ref 0, .int seed, .int (nI n), .int q, .int (nI k), mJ] [] m2 o 0 0) (N := n) ?_ ?_ m2 hm2 h3 h4 h6 h5
  · intro m2 hm2 h3 h4 h6 h5
    refine mGoOn (mOk (by decide)) rfl [29,93,125] 400 ?_
    show ((nI n) ≤ (nI n) → Φ (.inl none) m2 o ∧ 0 ≤ 0 ∧ 0 ≤ 0) ∧ (¬ (nI n) ≤ (nI n) → ((m2 4 2) ≤ 0 → Φ (.inl none) m2 o ∧ 0 ≤ 0 ∧ 0 ≤ 0) ∧ (¬ (m2 4 2) ≤ 0 → True ∧ mCal l g d k_X12_yearBy Φ 0 0 _ 51 k_X12_draw false [.ref 0, .int (m2 4 2)] [] [.ref 0, .int seed, .int (nI n), .int q, .int (nI n), mJ] m2 o 0 0 1))
    simp (disch := omega) only [mReq_tt, nI_0a, nI_a0, nI_cl, mIn_ok, lit_add, lit_sub, add_lit, lit_le, le_lit, lit_lt, lt_lit, eq_lit, nI_add, nI_1, nI_leI, nI_ltI, nI_eq, mIn_lit, mIn_0, mIn_1, mIn_2, mIn_3, nI_l0, nI_p0, rf_22, rf_44, rf_60, rf_69, rf_391, rf_7, rf_37, rf_51, rf_230, rf_401, rf_413, rf_496, rf_513, rf_518, sB_2, sB_3, sB_4, sB_5, sB_6, sB_7, sL_2, sL_3, sL_4, sL_5, sL_6, sL_7, not_true_eq_false, not_false_eq_true, false_implies, true_implies, true_and, and_true, eq_self, true_or, or_true, Nat.le_refl, Nat.zero_add, Nat.add_zero]
    exact hΦ _ ⟨hm2, h3, h4, h5⟩
  · intro k hk ih m2 hm2 h3 h4 h6 h5
    have hpl := hpl k
    replace ih : ∀ m2, Yc A m2 t → eq37 (stY A q (foY A q seed k)).1 (m2 495) → m2 0 40 = (stY A q (foY A q seed k)).2.1 → m2 0 47 = (stY A q (foY A q seed k)).2.2.1 → m2 0 48 = (stY A q (foY A q seed k)).2.2.2 → mWB l g d k_X12_yearBy Φ 0 0 29 [.ref 0, .int seed, .int (nI n), .int q, .int (nI (k + 1)), mJ] [] m2 o 0 0 := ih
    generalize foY A q seed k = y at hpl ih h3 h4 h5 h6
    refine mGoOn (mOk (by decide)) rfl [29,93,125] 400 ?_
    show ((nI n) ≤ (nI k) → Φ (.inl none) m2 o ∧ 0 ≤ 0 ∧ 0 ≤ 0) ∧ (¬ (nI n) ≤ (nI k) → ((m2 4 2) ≤ 0 → Φ (.inl none) m2 o ∧ 0 ≤ 0 ∧ 0 ≤ 0) ∧ (¬ (m2 4 2) ≤ 0 → True ∧ mCal l g d k_X12_yearBy Φ 0 0 _ 51 k_X12_draw false [.ref 0, .int (m2 4 2)] [] [.ref 0, .int seed, .int (nI n), .int q, .int (nI k), mJ] m2 o 0 0 1))
    have hfk : ¬ n ≤ k := by omega
    have hfz : ¬ nM A ≤ 0 := by omega
    simp (disch := omega) only [mReq_tt, nI_0a, nI_a0, nI_cl, mIn_ok, lit_add, lit_sub, add_lit, lit_le, le_lit, lit_lt, lt_lit, eq_lit, nI_add, nI_1, nI_leI, nI_ltI, nI_eq, mIn_lit, mIn_0, mIn_1, mIn_2, mIn_3, nI_l0, nI_p0, rf_22, rf_44, rf_60, rf_69, rf_391, rf_7, rf_37, rf_51, rf_230, rf_401, rf_413, rf_496, rf_513, rf_518, sB_2, sB_3, sB_4, sB_5, sB_6, sB_7, sL_2, sL_3, sL_4, sL_5, sL_6, sL_7, not_true_eq_false, not_false_eq_true, false_implies, true_implies, true_and, and_true, eq_self, true_or, or_true, Nat.le_refl, Nat.zero_add, Nat.add_zero, clA hm2.1, hN2.1, hfk, hfz]
    refine fCi htr (r_draw m2 (by omega) (by omega)) (by omega) ?_
    rw [h6]
    have hm3 := Yc_0 hm2 (i := 47) (by omega) (dr y.2.2.1)
    have g3 : mset m2 0 47 (dr y.2.2.1) 495 = m2 495 := mset_ne _ _ _ (by decide)
    have g4 : mset m2 0 47 (dr y.2.2.1) 0 40 = y.2.1 := by rw [mset_eq, pk_un (by decide)]; exact h4
    have g5 : mset m2 0 47 (dr y.2.2.1) 0 48 = y.2.2.2 := by rw [mset_eq, pk_un (by decide)]; exact h5
    have g6 : mset m2 0 47 (dr y.2.2.1) 0 47 = dr y.2.2.1 := by rw [mset_eq, pk_us]
    generalize mset m2 0 47 (dr y.2.2.1) = m3 at hm3 g3 g4 g5 g6 ⊢
    have hk1 := In_cl (drv_In (dr y.2.2.1) (n := nM A) (by omega) (by omega)) (by omega)
    have eK : yK A y = (drv (dr y.2.2.1) (nI (nM A))).toNatClampNeg := by unfold yK; rw [hN2.1]
    rw [← eK] at hk1
    rw [hk1.1]
    show (Value.ref 0).category = 1 ∧ (True ∧ mCal l g d k_X12_yearBy Φ 0 0 _ 75 k_X12_draw false [.ref 0, .int (m3 4 0)] [.int (nI (yK A y)), .ref 495, .ref 0, .int (m3 0 48), .ref 0] [.ref 0, .int seed, .int (nI n), .int q, .int (nI k), .int (nI (yK A y))] m3 o 0 0 1)
    rw [clA hm3.1 0 (by omega), hN.1, g5]
    refine ⟨rfl, trivial, fCi htr (r_draw m3 hS (by omega)) (by omega) ?_⟩
    rw [g6]
    have hm4 := Yc_0 hm3 (i := 47) (by omega) (dr (dr y.2.2.1))
    have k3 : mset m3 0 47 (dr (dr y.2.2.1)) 495 = m2 495 := (mset_ne _ _ _ (by decide)).trans g3
    have k4 : mset m3 0 47 (dr (dr y.2.2.1)) 0 40 = y.2.1 := by rw [mset_eq, pk_un (by decide)]; exact g4
    have k6 : mset m3 0 47 (dr (dr y.2.2.1)) 0 47 = dr (dr y.2.2.1) := by rw [mset_eq, pk_us]
    generalize mset m3 0 47 (dr (dr y.2.2.1)) = m4 at hm4 k3 k4 k6 ⊢
    have hs1 := In_cl (drv_In (dr (dr y.2.2.1)) (n := nS A) hS (by omega)) (by omega)
    have eS : yS A y = (drv (dr (dr y.2.2.1)) (nI (nS A))).toNatClampNeg := by unfold yS; rw [hN.1]
    rw [← eS] at hs1
    rw [hs1.1]
    refine ⟨trivial, nCi htr (r_walks hA (sim_of hm4.1) (by omega) (Or.inr rfl) hk1.2 hs1.2 (by
      rw [k3]
      exact fun j hj => by rw [← h3 j (by omega)]; exact hpl j hj)) (by omega) ?_⟩
    intro v m5 hv
    have hm5 := Yc_fr hm4 hv.2.1
    rw [k3, k4] at hv
    have hw := nWalk_37 hA.1 h3 hk1.2 hs1.2 hpl y.2.1
    replace hw : e3 (yN A y) (nWalk A (m2 495) (yK A y) (yS A y) y.2.1) := hw
    have hv1 : v = (yN A y).1 := hv.1.trans hw.1.symm
    have hv3 : eq37 (yN A y).2.1 (m5 495) := by rw [hv.2.2.1]; exact hw.2.1
    have hv4 : m5 0 40 = (yN A y).2.2 := hv.2.2.2.trans hw.2.2.symm
    have hv6 : m5 0 47 = dr (dr y.2.2.1) := by rw [hv.2.1.2 47 (by decide)]; exact k6
    have h01 : (yN A y).1 = 0 ∨ (yN A y).1 = 1 := w01 A _ _ _ _
    have rest : ∀ m5, Yc A m5 t → eq37 (yN A y).2.1 (m5 495) → m5 0 40 = (yN A y).2.2 → m5 0 47 = dr (dr y.2.2.1) → m5 0 48 = y.2.2.2 + (yN A y).1 → mWB l g d k_X12_yearBy Φ 0 0 93 [.ref 0, .int seed, .int (nI n), .int q, .int (nI k), .int (nI (yK A y))] [] m5 o 0 0 := by
      exact r_yrest htr o hd hN2 rfl hk1.2 ih
    show (v = 0 → mWB l g d k_X12_yearBy Φ 0 0 93 [.ref 0, .int seed, .int (nI n), .int q, .int (nI k), .int (nI (yK A y))] [] (mset m5 0 48 (y.2.2.2 + (0 : Int32))) o 0 0) ∧ (¬ v = 0 → mWB l g d k_X12_yearBy Φ 0 0 93 [.ref 0, .int seed, .int (nI n), .int q, .int (nI k), .int (nI (yK A y))] [] (mset m5 0 48 (y.2.2.2 + (1 : Int32))) o 0 0)
    refine ⟨fun z => rest _ (Yc_0 hm5 (i := 48) (by omega) _) ?_ ?_ ?_ ?_, fun z => rest _ (Yc_0 hm5 (i := 48) (by omega) _) ?_ ?_ ?_ ?_⟩
    · exact hv3
    · rw [mset_eq, pk_un (by decide)]; exact hv4
    · rw [mset_eq, pk_un (by decide)]; exact hv6
    · rw [mset_eq, pk_us, ← hv1, z]
    · exact hv3
    · rw [mset_eq, pk_un (by decide)]; exact hv4
    · rw [mset_eq, pk_un (by decide)]; exact hv6
    · rw [mset_eq, pk_us]
      rcases h01 with e | e
      · exact absurd (hv1.trans e) z
      · rw [e]
end R19
