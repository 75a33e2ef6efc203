set_option maxRecDepth 100000
/-! THE CLASS'S QUERIES: who, listen, on -/
/-- the men of the pairs -/
def PrK (K : Nat) (x : Nat × (Nat → Int32)) : Prop := ∀ i, i < x.1 → ∃ a h, a < K ∧ h < 24 ∧ x.2 i = nI (100 * a + h)
theorem prK_st (A : Mm) {a h K : Nat} (ha : a < K) (hh : h < 24) {x : Nat × (Nat → Int32)} (hx : PrK K x) : PrK K (stP A a h x) := by
  unfold stP
  by_cases q : isC A a (nI h)
  · rw [ifp_t q]
    intro i hi
    show ∃ a' h', a' < K ∧ h' < 24 ∧ upd x.2 x.1 (nI (100 * a + h)) i = _
    by_cases z : i = x.1
    · exact ⟨a, h, ha, hh, by rw [z, pk_us]⟩
    · rw [pk_un z]
      have hi : i < x.1 + 1 := hi
      exact hx i (by omega)
  · rw [ifp_f q]; exact hx
theorem prK_fo (A : Mm) {a K : Nat} (ha : a < K) {x : Nat × (Nat → Int32)} (hx : PrK K x) : ∀ h, h ≤ 24 → PrK K (fo (stP A a) h x)
  | 0, _ => hx
  | h + 1, hh => prK_st A ha (by omega) (prK_fo A ha hx h (by omega))
theorem prI_men (A : Mm) : ∀ K, PrK K (foP A K)
  | 0 => fun i hi => absurd hi (Nat.not_lt_zero _)
  | K + 1 => prK_fo A (a := K) (by omega) (fun i hi => by obtain ⟨a, h, h1, h2, h3⟩ := prI_men A K i hi; exact ⟨a, h, by omega, h2, h3⟩) 24 (Nat.le_refl _)
section X10
variable {l : Launch} {g : mG} {d : Nat} {A : Mm}
def PrM (m : Mm) (x : Nat × (Nat → Int32)) : Prop := m 698 2 = nI x.1 ∧ ∀ i, i < x.1 → m 699 i = x.2 i
theorem x_first {m : Mm} {x : Nat × (Nat → Int32)} (hx : PrM m x) (hn : x.1 ≤ 144) (hd : 1 ≤ d) : mFi l g d k_X2_first [.ref 698] m (if x.1 = 0 then -1 else x.2 0) m := by
  refine nFi 0 rfl rfl rfl (by decide) rfl (fun htr o Φ hΦ => mGoOn (mOk (by decide)) rfl [] 400 ?_)
  show (¬ (m 698 2) = 0 → mCal l g d k_X2_first Φ 0 0 _ 16 k_X11_at true [.ref 699, .int (0 : Int32)] [] [.ref 698] m o 0 0 1) ∧ ((m 698 2) = 0 → Φ (.inl (some (.int (-1 : Int32)))) m o ∧ 0 ≤ 0 ∧ 0 ≤ 0)
  rw [hx.1]
  refine ⟨fun q => ?_, fun q => ?_⟩
  · have h0 : x.1 ≠ 0 := fun z => q (by rw [z]; rfl)
    rw [if_neg h0] at hΦ
    refine fCi htr (x_at m (a := 699) (n := 144) (k := 0) rfl rfl (by decide) (by decide)) hd ?_
    rw [hx.2 0 (by omega)]
    exact eR hΦ
  · have h0 : x.1 = 0 := (nI_eq (b := 0) (by omega) (by decide)).mp q
    rw [if_pos h0] at hΦ
    exact eR hΦ
theorem x_men {m : Mm} {x : Nat × (Nat → Int32)} (hx : PrM m x) (hn : x.1 ≤ 144) (hd : 1 ≤ d) : mFi l g d k_X2_men [.ref 698] m (uni (fun i => jshl 1 (x.2 i / 100)) x.1) m := by
  refine nFi 2 rfl rfl rfl (by decide) rfl (fun htr o Φ hΦ => mGoOn (mOk (by decide)) rfl [4] 400 ?_)
  show mWB l g d k_X2_men Φ 0 0 4 [.ref 698, .int (0 : Int32), .int (0 : Int32)] [] m o 0 0
  refine mLoopZ (P := fun i => mWB l g d k_X2_men Φ 0 0 4 [.ref 698, .int (uni (fun i => jshl 1 (x.2 i / 100)) i), .int (nI i)] [] m o 0 0) (N := x.1) (mGoOn (mOk (by decide)) rfl [4] 400 ?_) (fun i hi ih => mGoOn (mOk (by decide)) rfl [4] 400 ?_)
  · show ((m 698 2) ≤ (nI x.1) → Φ (.inl (some (.int (uni (fun i => jshl 1 (x.2 i / 100)) x.1)))) m o ∧ 0 ≤ 0 ∧ 0 ≤ 0) ∧ (¬ (m 698 2) ≤ (nI x.1) → mCal l g d k_X2_men Φ 0 0 _ 19 k_X11_at true [.ref 699, .int (nI x.1)] [.int (1 : Int32), .int (uni (fun i => jshl 1 (x.2 i / 100)) x.1)] [.ref 698, .int (uni (fun i => jshl 1 (x.2 i / 100)) x.1), .int (nI x.1)] m o 0 0 1)
    simp (disch := omega) only [mReq_tt, nI_0a, nI_a0, nI_cl, mIn_ok, lit_add, lit_sub, add_lit, lit_le, le_lit, lit_lt, lt_lit, eq_lit, nI_add, nI_1, nI_leI, nI_ltI, nI_eq, mIn_lit, mIn_0, mIn_1, mIn_2, mIn_3, nI_l0, nI_p0, rf_22, rf_44, rf_60, rf_69, rf_391, rf_7, rf_37, rf_51, rf_230, rf_401, rf_413, rf_496, rf_513, rf_518, sB_2, sB_3, sB_4, sB_5, sB_6, sB_7, sL_2, sL_3, sL_4, sL_5, sL_6, sL_7, not_true_eq_false, not_false_eq_true, false_implies, true_implies, true_and, and_true, eq_self, true_or, or_true, Nat.le_refl, Nat.zero_add, Nat.add_zero, hx.1]
    exact hΦ
  show ((m 698 2) ≤ (nI i) → Φ (.inl (some (.int (uni (fun i => jshl 1 (x.2 i / 100)) i)))) m o ∧ 0 ≤ 0 ∧ 0 ≤ 0) ∧ (¬ (m 698 2) ≤ (nI i) → mCal l g d k_X2_men Φ 0 0 _ 19 k_X11_at true [.ref 699, .int (nI i)] [.int (1 : Int32), .int (uni (fun i => jshl 1 (x.2 i / 100)) i)] [.ref 698, .int (uni (fun i => jshl 1 (x.2 i / 100)) i), .int (nI i)] m o 0 0 1)
  have hf : ¬ x.1 ≤ i := by omega
  simp (disch := omega) only [mReq_tt, nI_0a, nI_a0, nI_cl, mIn_ok, lit_add, lit_sub, add_lit, lit_le, le_lit, lit_lt, lt_lit, eq_lit, nI_add, nI_1, nI_leI, nI_ltI, nI_eq, mIn_lit, mIn_0, mIn_1, mIn_2, mIn_3, nI_l0, nI_p0, rf_22, rf_44, rf_60, rf_69, rf_391, rf_7, rf_37, rf_51, rf_230, rf_401, rf_413, rf_496, rf_513, rf_518, sB_2, sB_3, sB_4, sB_5, sB_6, sB_7, sL_2, sL_3, sL_4, sL_5, sL_6, sL_7, not_true_eq_false, not_false_eq_true, false_implies, true_implies, true_and, and_true, eq_self, true_or, or_true, Nat.le_refl, Nat.zero_add, Nat.add_zero, hx.1, hf]
  refine fCi htr (x_at m (a := 699) (n := 144) rfl rfl (by decide) (by omega)) hd ?_
  rw [hx.2 i hi]
  show ¬ (100 : Int32) = 0 ∧ (mWB l g d k_X2_men Φ 0 0 4 [.ref 698, .int ((uni (fun i => jshl 1 (x.2 i / 100)) i) ||| (jshl (1 : Int32) ((x.2 i) / (100 : Int32)))), .int ((nI i) + (1 : Int32))] [] m o 0 0)
  rw [nI_1]
  exact ⟨by decide, ih⟩
theorem x_leftAtWorst (hQ : Qr A) {m : Mm} (hm : cl m = A) (hd : 3 ≤ d) {x : Nat × (Nat → Int32)} (hx : PrM m x) (hp : ∀ i, i < x.1 → ∃ a h, a < nM A ∧ h < 24 ∧ x.2 i = nI (100 * a + h)) (hn : x.1 ≤ 144) {s : Nat} (hs2 : s < nS A) : mHi l g d k_X2_leftAtWorst [.ref 698, .ref 589, .ref 626, .int (nI s)] m (fun r m2 => r = (fo (lst A s x.2) x.1 (fun _ => 0, 0)).2 ∧ eqL lG m m2 ∧ PrM m2 x) := by
  have hs : s < 9 := Nat.lt_of_lt_of_le hs2 hQ.1.1.1.2
  have h6 := hQ.1.1.2.2.1.2
  refine nBi 4 rfl rfl rfl (by decide) rfl (fun htr o Φ hΦ => mGoOn (mOk (by decide)) rfl [14] 400 ?_)
  show mCal l g d k_X2_leftAtWorst Φ 0 0 _ 5 k_J7_fill_53178 false [.ref 700, .int (0 : Int32)] [] [.ref 698, .ref 589, .ref 626, .int (nI s), mJ, mJ, mJ, mJ] m o 0 0 0
  refine fCv htr (j_fill m (a := 700) (n := 24) rfl rfl (by decide) 0) (by omega) ?_
  show mWB l g d k_X2_leftAtWorst Φ 0 0 14 [.ref 698, .ref 589, .ref 626, .int (nI s), .int (0 : Int32), .int (0 : Int32), mJ, mJ] [] (mput m 700 (fil (m 700) 24 0)) o 0 0
  have e0 : eqL lG m (mput m 700 (fil (m 700) 24 0)) := fun a ha => mput_ne m _ (fun q => ha (by rw [q]; decide))
  refine mLoopZ (P := fun i => ∀ m', eqL lG m m' → PrM m' x → (∀ c, c < 24 → m' 700 c = (fo (lst A s x.2) i (fun _ => 0, 0)).1 c) → mWB l g d k_X2_leftAtWorst Φ 0 0 14 [.ref 698, .ref 589, .ref 626, .int (nI s), .int ((fo (lst A s x.2) i (fun _ => 0, 0)).2), .int (nI i), mJ, mJ] [] m' o 0 0) (N := x.1) ?_ ?_ _ e0 ⟨hx.1, hx.2⟩ (fun c hc => by rw [mput_eq]; unfold fil; rw [if_pos hc]; rfl)
  · intro m' he hx' h7
    refine mGoOn (mOk (by decide)) rfl [14] 400 ?_
    show ((m' 698 2) ≤ (nI x.1) → Φ (.inl (some (.int ((fo (lst A s x.2) x.1 (fun _ => 0, 0)).2)))) m' o ∧ 0 ≤ 0 ∧ 0 ≤ 0) ∧ (¬ (m' 698 2) ≤ (nI x.1) → mCal l g d k_X2_leftAtWorst Φ 0 0 _ 29 k_X11_at true [.ref 699, .int (nI x.1)] [] [.ref 698, .ref 589, .ref 626, .int (nI s), .int ((fo (lst A s x.2) x.1 (fun _ => 0, 0)).2), .int (nI x.1), mJ, mJ] m' o 0 0 1)
    simp (disch := omega) only [mReq_tt, nI_0a, nI_a0, nI_cl, mIn_ok, lit_add, lit_sub, add_lit, lit_le, le_lit, lit_lt, lt_lit, eq_lit, nI_add, nI_1, nI_leI, nI_ltI, nI_eq, mIn_lit, mIn_0, mIn_1, mIn_2, mIn_3, nI_l0, nI_p0, rf_22, rf_44, rf_60, rf_69, rf_391, rf_7, rf_37, rf_51, rf_230, rf_401, rf_413, rf_496, rf_513, rf_518, sB_2, sB_3, sB_4, sB_5, sB_6, sB_7, sL_2, sL_3, sL_4, sL_5, sL_6, sL_7, not_true_eq_false, not_false_eq_true, false_implies, true_implies, true_and, and_true, eq_self, true_or, or_true, Nat.le_refl, Nat.zero_add, Nat.add_zero, hx'.1]
    exact hΦ _ _ ⟨rfl, he, hx'⟩
  · intro i hi ih m' he hx' h7
    have hm' := eqG_cl he hm
    refine mGoOn (mOk (by decide)) rfl [14] 400 ?_
    show ((m' 698 2) ≤ (nI i) → Φ (.inl (some (.int ((fo (lst A s x.2) i (fun _ => 0, 0)).2)))) m' o ∧ 0 ≤ 0 ∧ 0 ≤ 0) ∧ (¬ (m' 698 2) ≤ (nI i) → mCal l g d k_X2_leftAtWorst Φ 0 0 _ 29 k_X11_at true [.ref 699, .int (nI i)] [] [.ref 698, .ref 589, .ref 626, .int (nI s), .int ((fo (lst A s x.2) i (fun _ => 0, 0)).2), .int (nI i), mJ, mJ] m' o 0 0 1)
    have hf : ¬ x.1 ≤ i := by omega
    simp (disch := omega) only [mReq_tt, nI_0a, nI_a0, nI_cl, mIn_ok, lit_add, lit_sub, add_lit, lit_le, le_lit, lit_lt, lt_lit, eq_lit, nI_add, nI_1, nI_leI, nI_ltI, nI_eq, mIn_lit, mIn_0, mIn_1, mIn_2, mIn_3, nI_l0, nI_p0, rf_22, rf_44, rf_60, rf_69, rf_391, rf_7, rf_37, rf_51, rf_230, rf_401, rf_413, rf_496, rf_513, rf_518, sB_2, sB_3, sB_4, sB_5, sB_6, sB_7, sL_2, sL_3, sL_4, sL_5, sL_6, sL_7, not_true_eq_false, not_false_eq_true, false_implies, true_implies, true_and, and_true, eq_self, true_or, or_true, Nat.le_refl, Nat.zero_add, Nat.add_zero, hx'.1, hf]
    rw [fo_s] at ih
    generalize fo (lst A s x.2) i (fun _ => 0, 0) = t at ih h7 ⊢
    refine fCi htr (x_at m' (a := 699) (n := 144) rfl rfl (by decide) (by omega)) (by omega) ?_
    rw [hx'.2 i hi]
    obtain ⟨a, h, ha, hh, ex⟩ := hp i hi
    have hpd := pr_div (a := a) (h := h) (by omega) hh
    unfold lst at ih
    rw [ex, hpd.1, hpd.2, nI_cl (by omega)] at ih
    rw [ex]
    show ¬ (100 : Int32) = 0 ∧ (¬ (100 : Int32) = 0 ∧ (True ∧ mCal l g d k_X2_leftAtWorst Φ 0 0 _ 47 k_X8_cry false [.ref 589, .ref 626, .int ((nI (100 * a + h)) / (100 : Int32)), .int (nI s), .int (jrem (nI (100 * a + h)) (100 : Int32))] [] [.ref 698, .ref 589, .ref 626, .int (nI s), .int t.2, .int (nI i), .int (nI (100 * a + h)), mJ] m' o 0 0 1))
    rw [hpd.1, hpd.2]
    refine ⟨by decide, by decide, trivial, nCi htr (x_cryH hQ hm' (by omega) ha hs2 _) (by omega) ?_⟩
    intro v m2 hv
    obtain ⟨c, hc, ec⟩ := sayR_In A (A 494) a s (nI h)
    have ec2 : sayN A a s (nI h) = nI c := ec
    rw [ec2] at hv ih
    dsimp only at ih
    rw [nI_cl (by omega)] at ih
    rw [hv.1]
    have e2 := eqL_trans he (eqC_G hv.2)
    have h72 : ∀ c, c < 24 → m2 700 c = t.1 c := fun c hc => by rw [hv.2 700 (by decide)]; exact h7 c hc
    show mCal l g d k_X2_leftAtWorst Φ 0 0 _ 64 k_X11_at true [.ref 700, .int (nI c)] [.int (nI c), .ref 700] [.ref 698, .ref 589, .ref 626, .int (nI s), .int t.2, .int (nI i), .int (nI (100 * a + h)), .int (nI c)] m2 o 0 0 1
    refine fCi htr (x_at m2 (a := 700) (n := 24) rfl rfl (by decide) hc) (by omega) ?_
    rw [h72 c hc]
    refine fCv htr (x_put m2 (a := 700) (n := 24) (k := c) rfl rfl (by decide) hc _) (by omega) ?_
    show mCal l g d k_X2_leftAtWorst Φ 0 0 _ 80 k_X11_at true [.ref 700, .int (nI c)] [.int t.2] [.ref 698, .ref 589, .ref 626, .int (nI s), .int t.2, .int (nI i), .int (nI (100 * a + h)), .int (nI c)] (mset m2 700 c (t.1 c + 1)) o 0 0 1
    refine fCi htr (x_at _ (a := 700) (n := 24) rfl rfl (by decide) hc) (by omega) ?_
    rw [mset_eq, pk_us]
    show 1 ≤ d ∧ (([] : List Value).map fun v => v.category).sum ≤ 8 ∧ 0 ≤ 0 ∧ 0 ≤ 0 ∧ (mWB l g d k_X2_leftAtWorst Φ 0 0 14 [.ref 698, .ref 589, .ref 626, .int (nI s), .int (if t.2 < (t.1 c + 1) then (t.1 c + 1) else t.2), .int ((nI i) + (1 : Int32)), .int (nI (100 * a + h)), .int (nI c)] [] (mset m2 700 c (t.1 c + 1)) o 0 0)
    refine ⟨by omega, by decide, Nat.le_refl _, Nat.le_refl _, ?_⟩
    have emx : (if t.2 < t.1 c + 1 then t.1 c + 1 else t.2) = (if t.1 c + 1 < t.2 then t.2 else t.1 c + 1) := by
      rcases fa_three t.2 (t.1 c + 1) with q | q | q
      · rw [if_pos q, if_neg (fa_of_lt q).2.2.1]
      · rw [q, if_neg (fun z => (fa_of_lt z).2.2.2.1 rfl)]
      · rw [if_neg (fa_of_lt q).2.2.1, if_pos q]
    rw [emx, nI_1]
    refine mWB_wk (ih (mset m2 700 c (t.1 c + 1)) (eqL_mset e2 (by decide) _ _) ⟨?_, fun j hj => ?_⟩ ?_) ⟨Or.inr rfl, Or.inr rfl, Or.inr rfl, Or.inr rfl, Or.inr rfl, Or.inr rfl, Or.inl rfl, Or.inl rfl, trivial⟩
    · rw [mset_ne _ _ _ (by decide), hv.2 698 (by decide)]; exact hx'.1
    · rw [mset_ne _ _ _ (by decide), hv.2 699 (by decide)]; exact hx'.2 j hj
    · intro c' hc'
      rw [mset_eq, upd_at, upd_at]
      by_cases z : c' = c
      · rw [if_pos z, if_pos z]
      · rw [if_neg z, if_neg z]; exact h72 c' hc'
theorem x_who (hQ : Qr A) {m : Mm} (hm : cl m = A) (hd : 8 ≤ d) (w : Int32) : xS l g d k_X11_who [.ref 586, .int w] m A (qWho A w) := by
  have h6 := hQ.1.1.2.2.1.2
  refine nBx 0 rfl rfl rfl (by decide) rfl (fun htr o Φ hΦ => mGoOn (mOk (by decide)) rfl [] 400 ?_)
  show mCal l g d k_X11_who Φ 4 24 _ 3 k_X11_isChoice false [.int w, .int (3 : Int32)] [.ref 586] [.ref 586, .int w] m o 0 0 1
  unfold qWho at hΦ
  refine gCi htr (x_isChoice m (by omega) w (n := 3) (by decide)) (by omega) ?_
  show True ∧ mCal l g d k_X11_who Φ 4 24 _ 6 k_X11_needArgument false [.ref 586, .int (pI (In w 3))] [] [.ref 586, .int w] m o 0 0 0
  refine ⟨trivial, cNeedA htr rfl (by omega) (by decide) (by decide) (fun h => ?_) (fun h => by
    replace h := pI_0.mp h
    rw [ifp_f (h)] at hΦ
    exact hΦ _ _ (xk_a hm (by decide)))⟩
  replace h := pI_1.mp h
  rw [ifp_t (h)] at hΦ
  refine ⟨trivial, hCv htr (x_match hQ hm (by omega)) (by omega) ?_⟩
  intro m2 hx
  have hm2 := eqG_cl hx.1 hm
  have hw := whI_all A (nM A) (by omega)
  have hpr := prI_all A (nM A) (by omega)
  have hpm : PrM m2 (foP A (nM A)) := hx.2
  generalize foP A (nM A) = x at hpm hw hpr
  have h144 : x.1 ≤ 144 := by have := hpr.1; omega
  show (¬ w = 0 → (¬ w = (1 : Int32) → True ∧ mCal l g d k_X11_who Φ 4 24 _ 62 k_X2_men false [.ref 698] [] [.ref 586, .int w] m2 o 1 6 1) ∧ (w = (1 : Int32) → True ∧ mCal l g d k_X11_who Φ 4 24 _ 52 k_X2_first false [.ref 698] [] [.ref 586, .int w] m2 o 1 6 1)) ∧ (w = 0 → Φ (.inl (some (.int (m2 698 2)))) m2 o ∧ 1 ≤ 4 ∧ 6 ≤ 24)
  refine ⟨fun q => ⟨fun q2 => ⟨trivial, gCi htr (x_men hpm h144 (by omega)) (by omega) (e4 (hΦ _ _ (xk_v hm2 ?_)))⟩, fun q2 => ⟨trivial, gCi htr (x_first hpm h144 (by omega)) (by omega) (e4 (hΦ _ _ (xk_v hm2 ?_)))⟩⟩, fun q => e4 (hΦ _ _ (xk_v hm2 ?_))⟩
  · rw [if_neg q, if_neg q2, hw.2.2.2]
  · rw [if_neg q, if_pos q2, hw.2.2.1]
  · rw [if_pos q, hw.2.1]; exact hpm.1
theorem x_listen (hQ : Qr A) {m : Mm} (hm : cl m = A) (hd : 8 ≤ d) (w : Int32) : xS l g d k_X11_listen [.ref 586, .int w] m A (qLis A w) := by
  have hA := hQ.1.1
  have hC := hQ.2.2.2.2.1
  have h6 := hA.2.2.1.2
  have h9 := hA.1.2
  refine nBx 4 rfl rfl rfl (by decide) rfl (fun htr o Φ hΦ => mGoOn (mOk (by decide)) rfl [38,99,105] 400 ?_)
  show mCal l g d k_X11_listen Φ 4 24 _ 3 k_X11_isChoice false [.int w, .int (2 : Int32)] [.ref 586] [.ref 586, .int w, mJ, mJ, mJ, mJ] m o 0 0 1
  unfold qLis at hΦ
  refine gCi htr (x_isChoice m (by omega) w (n := 2) (by decide)) (by omega) ?_
  show True ∧ mCal l g d k_X11_listen Φ 4 24 _ 6 k_X11_needArgument false [.ref 586, .int (pI (In w 2))] [] [.ref 586, .int w, mJ, mJ, mJ, mJ] m o 0 0 0
  refine ⟨trivial, cNeedA htr rfl (by omega) (by decide) (by decide) (fun h => ?_) (fun h => by
    replace h := pI_0.mp h
    rw [ifp_f (h)] at hΦ
    exact hΦ _ _ (xk_a hm (by decide)))⟩
  replace h := pI_1.mp h
  rw [ifp_t (h)] at hΦ
  refine ⟨trivial, hCv htr (x_match hQ hm (by omega)) (by omega) ?_⟩
  intro m2 hx
  have hm2 := eqG_cl hx.1 hm
  have hpr := prI_all A (nM A) (by omega)
  have hpM : ∀ i, i < (foP A (nM A)).1 → ∃ a h, a < nM A ∧ h < 24 ∧ (foP A (nM A)).2 i = nI (100 * a + h) := prI_men A (nM A)
  have hle : ∀ s, wrs A s = (fo (lst A s (foP A (nM A)).2) (foP A (nM A)).1 (fun _ => 0, 0)).2 := fun s => by unfold wrs; rw [(leI_all A s (nM A) (by omega)).2]
  have hpm : PrM m2 (foP A (nM A)) := hx.2
  generalize foP A (nM A) = x at hpm hpr hpM hle
  have h144 : x.1 ≤ 144 := by have := hpr.1; omega
  unfold aLs at hΦ
  have hPL : ∀ s, s < 9 → (A 618 s = -1 ↔ PLs A s) := fun s hs => (bk_is hQ.2.2.1 hQ.2.2.2.2.2.2.1 h9 hs).1
  generalize PLs A = P at hΦ hPL
  generalize wrs A = f at hΦ hle
  show mWB l g d k_X11_listen Φ 4 24 38 [.ref 586, .int w, .int (amn P f 0), .int (lst1 f (amn P f 0)), .int (nI 0), mJ] [] m2 o 1 6
  refine mWB_widen (cN' := 4) (sN' := 24) ?_ (by decide) (by decide)
  clear hx hm
  refine mLoopZ (P := fun s => ∀ m2, cl m2 = A → PrM m2 x → mWB l g d k_X11_listen Φ 4 24 38 [.ref 586, .int w, .int (amn P f s), .int (lst1 f (amn P f s)), .int (nI s), mJ] [] m2 o 4 24) (N := nS A) ?_ ?_ m2 hm2 hpm
  · intro m2 hm2 hpm
    refine mGoOn (mOk (by decide)) rfl [38,99,105] 400 ?_
    show ((m2 590 0) ≤ (nI (nS A)) → (¬ w = 0 → Φ (.inl (some (.int (lst1 f (amn P f (nS A)))))) m2 o ∧ 4 ≤ 4 ∧ 24 ≤ 24) ∧ (w = 0 → Φ (.inl (some (.int (amn P f (nS A))))) m2 o ∧ 4 ≤ 4 ∧ 24 ≤ 24)) ∧ (¬ (m2 590 0) ≤ (nI (nS A)) → True ∧ mCal l g d k_X11_listen Φ 4 24 _ 59 k_X0_hourOf false [.ref 617, .int (nI (nS A))] [] [.ref 586, .int w, .int (amn P f (nS A)), .int (lst1 f (amn P f (nS A))), .int (nI (nS A)), mJ] m2 o 4 24 1)
    simp (disch := omega) only [mReq_tt, nI_0a, nI_a0, nI_cl, mIn_ok, lit_add, lit_sub, add_lit, lit_le, le_lit, lit_lt, lt_lit, eq_lit, nI_add, nI_1, nI_leI, nI_ltI, nI_eq, mIn_lit, mIn_0, mIn_1, mIn_2, mIn_3, nI_l0, nI_p0, rf_22, rf_44, rf_60, rf_69, rf_391, rf_7, rf_37, rf_51, rf_230, rf_401, rf_413, rf_496, rf_513, rf_518, sB_2, sB_3, sB_4, sB_5, sB_6, sB_7, sL_2, sL_3, sL_4, sL_5, sL_6, sL_7, not_true_eq_false, not_false_eq_true, false_implies, true_implies, true_and, and_true, eq_self, true_or, or_true, Nat.le_refl, Nat.zero_add, Nat.add_zero, ar hm2 590 0, hC.1.1]
    exact ⟨fun q => hΦ _ _ (xk_v hm2 (by rw [if_neg q])), fun q => hΦ _ _ (xk_v hm2 (by rw [if_pos q]))⟩
  · intro s hs ih m2 hm2 hpm
    refine mGoOn (mOk (by decide)) rfl [38,99,105] 400 ?_
    show ((m2 590 0) ≤ (nI s) → (¬ w = 0 → Φ (.inl (some (.int (lst1 f (amn P f s))))) m2 o ∧ 4 ≤ 4 ∧ 24 ≤ 24) ∧ (w = 0 → Φ (.inl (some (.int (amn P f s)))) m2 o ∧ 4 ≤ 4 ∧ 24 ≤ 24)) ∧ (¬ (m2 590 0) ≤ (nI s) → True ∧ mCal l g d k_X11_listen Φ 4 24 _ 59 k_X0_hourOf false [.ref 617, .int (nI s)] [] [.ref 586, .int w, .int (amn P f s), .int (lst1 f (amn P f s)), .int (nI s), mJ] m2 o 4 24 1)
    have hf : ¬ nS A ≤ s := by omega
    simp (disch := omega) only [mReq_tt, nI_0a, nI_a0, nI_cl, mIn_ok, lit_add, lit_sub, add_lit, lit_le, le_lit, lit_lt, lt_lit, eq_lit, nI_add, nI_1, nI_leI, nI_ltI, nI_eq, mIn_lit, mIn_0, mIn_1, mIn_2, mIn_3, nI_l0, nI_p0, rf_22, rf_44, rf_60, rf_69, rf_391, rf_7, rf_37, rf_51, rf_230, rf_401, rf_413, rf_496, rf_513, rf_518, sB_2, sB_3, sB_4, sB_5, sB_6, sB_7, sL_2, sL_3, sL_4, sL_5, sL_6, sL_7, not_true_eq_false, not_false_eq_true, false_implies, true_implies, true_and, and_true, eq_self, true_or, or_true, Nat.le_refl, Nat.zero_add, Nat.add_zero, ar hm2 590 0, hC.1.1, hf]
    refine gCi htr (x_hourOf hQ hm2 (by omega) (by omega)) (by omega) ?_
    show (¬ (A 618 s) = (-1 : Int32) → mWB l g d k_X11_listen Φ 4 24 105 [.ref 586, .int w, .int (amn P f s), .int (lst1 f (amn P f s)), .int (nI s), mJ] [] m2 o 4 24) ∧ ((A 618 s) = (-1 : Int32) → True ∧ mCal l g d k_X11_listen Φ 4 24 _ 83 k_X2_leftAtWorst false [.ref 698, .ref 589, .ref 626, .int (nI s)] [] [.ref 586, .int w, .int (amn P f s), .int (lst1 f (amn P f s)), .int (nI s), mJ] m2 o 4 24 1)
    have k105 : ∀ m3, cl m3 = A → PrM m3 x → ∀ z : Value, z = mJ ∨ (∃ y, z = .int y) → ¬ (P s ∧ (amn P f s = -1 ∨ ¬ f (amn P f s).toNatClampNeg ≤ f s)) → mWB l g d k_X11_listen Φ 4 24 105 [.ref 586, .int w, .int (amn P f s), .int (lst1 f (amn P f s)), .int (nI s), z] [] m3 o 4 24 := by
      intro m3 hm3 hp3 z _ hz
      have ih := ih m3 hm3 hp3
      rw [amn_f hz] at ih
      refine mWB_wk (L' := [.ref 586, .int w, .int (amn P f s), .int (lst1 f (amn P f s)), .int (nI s), mJ]) ?_ ⟨Or.inr rfl, Or.inr rfl, Or.inr rfl, Or.inr rfl, Or.inr rfl, Or.inl rfl, trivial⟩
      refine mGoOn (mOk (by decide)) rfl [38] 400 ?_
      show mWB l g d k_X11_listen Φ 4 24 38 [.ref 586, .int w, .int (amn P f s), .int (lst1 f (amn P f s)), .int ((nI s) + (1 : Int32)), mJ] [] m3 o 4 24
      rw [nI_1]
      exact ih
    have hps := hPL s (by omega)
    refine ⟨fun q => k105 m2 hm2 hpm _ (Or.inl rfl) (fun z => q (hps.mpr z.1)), fun q => ⟨trivial, hCi htr (x_leftAtWorst hQ hm2 (by omega) hpm hpM h144 (by omega)) (by omega) ?_⟩⟩
    intro v m3 hv
    have hm3 := eqG_cl hv.2.1 hm2
    have hv1 : v = f s := hv.1.trans (hle s).symm
    have hPs := hps.mp q
    show ((amn P f s) = (-1 : Int32) → mWB l g d k_X11_listen Φ 4 24 99 [.ref 586, .int w, .int (amn P f s), .int (lst1 f (amn P f s)), .int (nI s), .int v] [] m3 o 4 24) ∧ (¬ (amn P f s) = (-1 : Int32) → ((lst1 f (amn P f s)) ≤ v → mWB l g d k_X11_listen Φ 4 24 105 [.ref 586, .int w, .int (amn P f s), .int (lst1 f (amn P f s)), .int (nI s), .int v] [] m3 o 4 24) ∧ (¬ (lst1 f (amn P f s)) ≤ v → mWB l g d k_X11_listen Φ 4 24 99 [.ref 586, .int w, .int (amn P f s), .int (lst1 f (amn P f s)), .int (nI s), .int v] [] m3 o 4 24))
    rw [hv1]
    have k99 : (amn P f s = -1 ∨ ¬ f (amn P f s).toNatClampNeg ≤ f s) → mWB l g d k_X11_listen Φ 4 24 99 [.ref 586, .int w, .int (amn P f s), .int (lst1 f (amn P f s)), .int (nI s), .int (f s)] [] m3 o 4 24 := by
      intro h2
      refine mGoOn (mOk (by decide)) rfl [38] 400 ?_
      show mWB l g d k_X11_listen Φ 4 24 38 [.ref 586, .int w, .int (nI s), .int (f s), .int ((nI s) + (1 : Int32)), .int (f s)] [] m3 o 4 24
      have ih := ih m3 hm3 hv.2.2
      rw [amn_t hPs h2, show lst1 f (nI s) = f s from by unfold lst1; rw [if_neg (nI_m1 (by omega)), nI_cl (by omega)]] at ih
      rw [nI_1]
      exact mWB_wk ih ⟨Or.inr rfl, Or.inr rfl, Or.inr rfl, Or.inr rfl, Or.inr rfl, Or.inl rfl, trivial⟩
    refine ⟨fun q2 => k99 (Or.inl q2), fun q2 => ⟨fun q3 => k105 m3 hm3 hv.2.2 _ (Or.inr ⟨_, rfl⟩) (fun y => y.2.elim q2 (fun z => ?_)), fun q3 => k99 (Or.inr (fun z => ?_))⟩⟩
    · unfold lst1 at q3
      rw [if_neg q2] at q3
      exact z q3
    · unfold lst1 at q3
      rw [if_neg q2] at q3
      exact q3 z
end X10
