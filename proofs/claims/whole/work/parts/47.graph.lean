set_option maxRecDepth 100000
/-! WAYS: the class's rounds and the reference's rounds -/
noncomputable def nb (A : Mm) (s : Nat) : Int32 := msk (fun k => Ln A (nI s) (nI k)) (nS A)
noncomputable def grF (A : Mm) (op c : Int32) : Nat → Int32
  | 0 => c
  | s + 1 => ifp (hB c s) (grF A op c s ||| (nb A s &&& op)) (grF A op c s)
noncomputable def gr (A : Mm) (op c : Int32) : Int32 := grF A op c (nS A)
noncomputable def cm (A : Mm) (op c : Int32) : Nat → Int32
  | 0 => c
  | i + 1 => gr A op (cm A op c i)
theorem grF_t {A : Mm} {op c : Int32} {s : Nat} (h : hB c s) : grF A op c (s + 1) = grF A op c s ||| (nb A s &&& op) := ifp_t h
theorem grF_f {A : Mm} {op c : Int32} {s : Nat} (h : ¬ hB c s) : grF A op c (s + 1) = grF A op c s := ifp_f h
theorem hB_grF {A : Mm} (hA : CtB A) (op c : Int32) {t : Nat} (ht : t < 32) : ∀ n, hB (grF A op c n) t ↔ hB c t ∨ ∃ s, s < n ∧ hB c s ∧ hB op t ∧ t < nS A ∧ Ln A (nI s) (nI t)
  | 0 => by
    constructor
    · exact fun h => Or.inl h
    · rintro (h | ⟨s, hs, -⟩)
      · exact h
      · omega
  | n + 1 => by
    have h9 := hA.1.2
    have ih := hB_grF hA op c ht n
    by_cases h : hB c n
    · rw [grF_t h, hB_or, ih, hB_and]
      unfold nb
      rw [hB_msk (by omega) ht]
      constructor
      · rintro ((a | ⟨s, hs, b⟩) | ⟨⟨a, b⟩, c'⟩)
        · exact Or.inl a
        · exact Or.inr ⟨s, by omega, b⟩
        · exact Or.inr ⟨n, by omega, h, c', a, b⟩
      · rintro (a | ⟨s, hs, b⟩)
        · exact Or.inl (Or.inl a)
        · rcases Nat.lt_or_eq_of_le (Nat.le_of_lt_succ hs) with q | q
          · exact Or.inl (Or.inr ⟨s, q, b⟩)
          · subst q; exact Or.inr ⟨⟨b.2.2.1, b.2.2.2⟩, b.2.1⟩
    · rw [grF_f h, ih]
      constructor
      · rintro (a | ⟨s, hs, b⟩)
        · exact Or.inl a
        · exact Or.inr ⟨s, by omega, b⟩
      · rintro (a | ⟨s, hs, b⟩)
        · exact Or.inl a
        · rcases Nat.lt_or_eq_of_le (Nat.le_of_lt_succ hs) with q | q
          · exact Or.inr ⟨s, q, b⟩
          · subst q; exact absurd b.1 h
theorem hB_gr {A : Mm} (hA : CtB A) (op c : Int32) {t : Nat} (ht : t < 32) : hB (gr A op c) t ↔ hB c t ∨ ∃ s, s < nS A ∧ hB c s ∧ hB op t ∧ t < nS A ∧ Ln A (nI s) (nI t) := hB_grF hA op c ht (nS A)
theorem Ln_sym {A : Mm} {x y : Int32} (h : Ln A x y) : Ln A y x := by
  obtain ⟨e, he, q⟩ := h
  exact ⟨e, he, q.elim Or.inr Or.inl⟩
section FL
variable {A : Mm} {op : Int32} {a : Nat}
theorem fl_keep {n t : Nat} (h : fl A op a n t ≠ -1) : fl A op a (n + 1) t = fl A op a n t := ifp_f (fun q => h q.1)
theorem fl_mono {n t : Nat} (h : fl A op a n t ≠ -1) : ∀ j, fl A op a (n + j) t = fl A op a n t
  | 0 => rfl
  | j + 1 => by
    have ih := fl_mono h j
    have := fl_keep (A := A) (op := op) (a := a) (n := n + j) (t := t) (by rw [ih]; exact h)
    rw [← ih]
    exact this
theorem fl_new {n t : Nat} (h : fl A op a n t = -1) (h2 : fl A op a (n + 1) t ≠ -1) : fl A op a (n + 1) t = nI (n + 1) ∧ hB op t ∧ ∃ s, s < nS A ∧ fl A op a n s = nI n ∧ Ln A (nI s) (nI t) := by
  have e : fl A op a (n + 1) t = ifp (fl A op a n t = -1 ∧ hB op t ∧ ∃ s, s < nS A ∧ fl A op a n s = nI n ∧ Ln A (nI s) (nI t)) (nI (n + 1)) (fl A op a n t) := rfl
  by_cases q : fl A op a n t = -1 ∧ hB op t ∧ ∃ s, s < nS A ∧ fl A op a n s = nI n ∧ Ln A (nI s) (nI t)
  · exact ⟨by rw [e, ifp_t q], q.2⟩
  · rw [e, ifp_f q] at h2
    exact absurd h h2
/-- what is known of a number that stands there -/
theorem fl_v : ∀ n t, n < 100 → fl A op a n t ≠ -1 → ∃ j, j ≤ n ∧ fl A op a n t = nI j ∧ fl A op a j t = nI j ∧ ∀ i, i < j → fl A op a i t = -1
  | 0, t, _, h => by
    have e : fl A op a 0 t = ifp (t = a ∧ hB op t) 0 (-1) := rfl
    by_cases q : t = a ∧ hB op t
    · exact ⟨0, Nat.le_refl _, by rw [e, ifp_t q]; rfl, by rw [e, ifp_t q]; rfl, fun i hi => by omega⟩
    · rw [e, ifp_f q] at h
      exact absurd rfl h
  | n + 1, t, hn, h => by
    by_cases q : fl A op a n t = -1
    · have h1 := fl_new q h
      refine ⟨n + 1, Nat.le_refl _, h1.1, h1.1, fun i hi => ?_⟩
      by_cases z : fl A op a i t = -1
      · exact z
      · have := fl_mono z (n - i)
        rw [show i + (n - i) = n by omega, q] at this
        exact this.symm
    · obtain ⟨j, h1, h2, h3, h4⟩ := fl_v n t (by omega) q
      exact ⟨j, by omega, by rw [fl_keep q, h2], h3, h4⟩
/-- each nearer number stands somewhere too -/
theorem fl_chain : ∀ j t, j < 100 → t < nS A → fl A op a j t = nI j → ∀ i, i ≤ j → ∃ s, s < nS A ∧ fl A op a j s = nI i
  | 0, t, _, ht, h, i, hi => by
    have : i = 0 := by omega
    subst this
    exact ⟨t, ht, h⟩
  | j + 1, t, hj, ht, h, i, hi => by
    by_cases q : i = j + 1
    · subst q; exact ⟨t, ht, h⟩
    · have h0 : fl A op a j t = -1 := by
        by_cases z : fl A op a j t = -1
        · exact z
        · obtain ⟨k, h1, h2, -⟩ := fl_v j t (by omega) z
          rw [fl_keep z, h2, nI_eq (by omega) (by omega)] at h
          omega
      obtain ⟨-, -, s, hs, h2, -⟩ := fl_new h0 (by rw [h]; exact nI_m1 (by omega))
      obtain ⟨r, hr, e⟩ := fl_chain j s (by omega) hs h2 i (by omega)
      exact ⟨r, hr, by rw [fl_keep (by rw [e]; exact nI_m1 (by omega)), e]⟩
theorem fl_lt {n t : Nat} (hn : n < 100) (ht : t < nS A) (h : fl A op a n t ≠ -1) : ∃ j, j < nS A ∧ fl A op a n t = nI j ∧ fl A op a j t = nI j ∧ ∀ i, i < j → fl A op a i t = -1 := by
  obtain ⟨j, h1, h2, h3, h4⟩ := fl_v n t hn h
  refine ⟨j, ?_, h2, h3, h4⟩
  have hc := fl_chain j t (by omega) ht h3
  have hc' : ∀ i, ∃ s, i ≤ j → s < nS A ∧ fl A op a j s = nI i := fun i => by
    by_cases q : i ≤ j
    · obtain ⟨s, hs⟩ := hc i q
      exact ⟨s, fun _ => hs⟩
    · exact ⟨0, fun z => absurd z q⟩
  obtain ⟨f, hf⟩ := Classical.axiomOfChoice hc'
  have := fb_holes (nS A) (j + 1) f (fun i hi => (hf i (by omega)).1) (fun i k hi hk e => by
    have e1 := (hf i (by omega)).2
    have e2 := (hf k (by omega)).2
    rw [e, e2, nI_eq (by omega) (by omega)] at e1
    omega)
  omega
theorem fl_stab {n t : Nat} (hn : n < 100) (ht : t < nS A) (h2 : nS A ≤ n) : fl A op a n t = fl A op a (nS A) t := by
  by_cases q : fl A op a (nS A) t = -1
  · by_cases z : fl A op a n t = -1
    · rw [z, q]
    · obtain ⟨j, h1, -, h3, -⟩ := fl_lt hn ht z
      have := fl_mono (A := A) (op := op) (a := a) (n := j) (t := t) (by rw [h3]; exact nI_m1 (by omega)) (nS A - j)
      rw [show j + (nS A - j) = nS A by omega, q, h3] at this
      exact absurd this.symm (nI_m1 (by omega))
  · have := fl_mono q (n - nS A)
    rwa [show nS A + (n - nS A) = n by omega] at this
/-- the class's bits are the reference's numbers -/
theorem cm_fl (hA : CtB A) {c : Int32} (hc : ∀ t, t < nS A → (hB c t ↔ t = a ∧ hB op t)) : ∀ n, n < 100 → ∀ t, t < nS A → (hB (cm A op c n) t ↔ fl A op a n t ≠ -1)
  | 0, _, t, ht => by
    have e : fl A op a 0 t = ifp (t = a ∧ hB op t) 0 (-1) := rfl
    show hB c t ↔ _
    rw [hc t ht, e]
    by_cases q : t = a ∧ hB op t
    · rw [ifp_t q]; exact ⟨fun _ => by decide, fun _ => q⟩
    · rw [ifp_f q]; exact ⟨fun z => absurd z q, fun z => absurd rfl z⟩
  | n + 1, hn, t, ht => by
    have h9 := hA.1.2
    have ih := cm_fl hA hc n (by omega)
    show hB (gr A op (cm A op c n)) t ↔ _
    rw [hB_gr hA _ _ (by omega)]
    constructor
    · rintro (h | ⟨s, hs, h1, h2, -, h4⟩)
      · rw [fl_keep ((ih t ht).mp h)]
        exact (ih t ht).mp h
      · by_cases q : fl A op a n t = -1
        · obtain ⟨j, hj, e1, e2, -⟩ := fl_v n s (by omega) ((ih s hs).mp h1)
          have e : fl A op a (j + 1) t = ifp (fl A op a j t = -1 ∧ hB op t ∧ ∃ s, s < nS A ∧ fl A op a j s = nI j ∧ Ln A (nI s) (nI t)) (nI (j + 1)) (fl A op a j t) := rfl
          have hz : fl A op a (j + 1) t ≠ -1 := by
            rw [e]
            by_cases z : fl A op a j t = -1
            · rw [ifp_t ⟨z, h2, s, hs, e2, h4⟩]; exact nI_m1 (by omega)
            · rw [ifp_f (fun y => z y.1)]; exact z
          have := fl_mono hz (n - j)
          rw [show j + 1 + (n - j) = n + 1 by omega] at this
          rw [this]
          exact hz
        · rw [fl_keep q]; exact q
    · intro h
      by_cases q : fl A op a n t = -1
      · obtain ⟨-, h2, s, hs, h3, h4⟩ := fl_new q h
        exact Or.inr ⟨s, hs, (ih s hs).mpr (by rw [h3]; exact nI_m1 (by omega)), h2, ht, h4⟩
      · exact Or.inl ((ih t ht).mpr q)
end FL
/-- bits of what is come to -/
theorem cm_in {A : Mm} (hA : CtB A) {op c : Int32} (hc : ∀ t, t < 32 → hB c t → t < nS A ∧ hB op t) : ∀ n t, t < 32 → hB (cm A op c n) t → t < nS A ∧ hB op t
  | 0, t, ht, h => hc t ht h
  | n + 1, t, ht, h => by
    rcases (hB_gr hA op (cm A op c n) ht).mp h with q | ⟨s, hs, h1, h2, h3, h4⟩
    · exact cm_in hA hc n t ht q
    · exact ⟨h3, h2⟩
theorem cm_stop {A : Mm} {op c : Int32} {n : Nat} (h : cm A op c (n + 1) = cm A op c n) : ∀ j, cm A op c (n + j) = cm A op c n
  | 0 => rfl
  | j + 1 => by
    show gr A op (cm A op c (n + j)) = _
    rw [cm_stop h j]
    exact h
section X6
variable {l : Launch} {g : mG} {d : Nat} {A : Mm}
theorem x_grown (hA : CtB A) (hC : CtR A A 590) {m : Mm} (hs : csim A m) (hd : 1 ≤ d) (c op : Int32) : mFi l g d k_X1_grown [.ref 590, .int c, .int op] m (gr A op c) m := by
  have h9 := hA.1.2
  refine nFi 2 rfl rfl rfl (by decide) rfl (fun htr o Φ hΦ => mGoOn (mOk (by decide)) rfl [5] 400 ?_)
  show mWB l g d k_X1_grown Φ 0 0 5 [.ref 590, .int c, .int op, .int c, .int (0 : Int32)] [] m o 0 0
  refine mLoopZ (P := fun s => mWB l g d k_X1_grown Φ 0 0 5 [.ref 590, .int c, .int op, .int (grF A op c s), .int (nI s)] [] m o 0 0) (N := nS A) (mGoOn (mOk (by decide)) rfl [5] 400 ?_) (fun s hi ih => mGoOn (mOk (by decide)) rfl [5] 400 ?_)
  · show ((m 590 0) ≤ (nI (nS A)) → Φ (.inl (some (.int (grF A op c (nS A))))) m o ∧ 0 ≤ 0 ∧ 0 ≤ 0) ∧ (¬ (m 590 0) ≤ (nI (nS A)) → mCal l g d k_X1_grown Φ 0 0 _ 17 k_X11_hasBit true [.int c, .int (nI (nS A))] [] [.ref 590, .int c, .int op, .int (grF A op c (nS A)), .int (nI (nS A))] m o 0 0 1)
    simp (disch := omega) only [mReq_tt, nI_0a, nI_a0, nI_cl, mIn_ok, lit_add, lit_sub, add_lit, lit_le, le_lit, lit_lt, lt_lit, eq_lit, nI_add, nI_1, nI_leI, nI_ltI, nI_eq, mIn_lit, mIn_0, mIn_1, mIn_2, mIn_3, nI_l0, nI_p0, rf_22, rf_44, rf_60, rf_69, rf_391, rf_7, rf_37, rf_51, rf_230, rf_401, rf_413, rf_496, rf_513, rf_518, sB_2, sB_3, sB_4, sB_5, sB_6, sB_7, sL_2, sL_3, sL_4, sL_5, sL_6, sL_7, not_true_eq_false, not_false_eq_true, false_implies, true_implies, true_and, and_true, eq_self, true_or, or_true, Nat.le_refl, Nat.zero_add, Nat.add_zero, csim_at hs, hC.1.1]
    exact hΦ
  show ((m 590 0) ≤ (nI s) → Φ (.inl (some (.int (grF A op c s)))) m o ∧ 0 ≤ 0 ∧ 0 ≤ 0) ∧ (¬ (m 590 0) ≤ (nI s) → mCal l g d k_X1_grown Φ 0 0 _ 17 k_X11_hasBit true [.int c, .int (nI s)] [] [.ref 590, .int c, .int op, .int (grF A op c s), .int (nI s)] m o 0 0 1)
  have hf : ¬ nS A ≤ s := by omega
  simp (disch := omega) only [mReq_tt, nI_0a, nI_a0, nI_cl, mIn_ok, lit_add, lit_sub, add_lit, lit_le, le_lit, lit_lt, lt_lit, eq_lit, nI_add, nI_1, nI_leI, nI_ltI, nI_eq, mIn_lit, mIn_0, mIn_1, mIn_2, mIn_3, nI_l0, nI_p0, rf_22, rf_44, rf_60, rf_69, rf_391, rf_7, rf_37, rf_51, rf_230, rf_401, rf_413, rf_496, rf_513, rf_518, sB_2, sB_3, sB_4, sB_5, sB_6, sB_7, sL_2, sL_3, sL_4, sL_5, sL_6, sL_7, not_true_eq_false, not_false_eq_true, false_implies, true_implies, true_and, and_true, eq_self, true_or, or_true, Nat.le_refl, Nat.zero_add, Nat.add_zero, csim_at hs, hC.1.1, hf]
  refine fCi htr (x_hasBit m c (by omega)) hd ?_
  show ((pI (hB c s)) = 0 → mWB l g d k_X1_grown Φ 0 0 5 [.ref 590, .int c, .int op, .int (grF A op c s), .int ((nI s) + (1 : Int32))] [] m o 0 0) ∧ (¬ (pI (hB c s)) = 0 → mCal l g d k_X1_grown Φ 0 0 _ 30 k_X11_at true [.ref 592, .int (nI s)] [.int (grF A op c s)] [.ref 590, .int c, .int op, .int (grF A op c s), .int (nI s)] m o 0 0 1)
  rw [nI_1]
  refine ⟨fun q => ?_, fun q => fCi htr (x_at m (a := 592) (n := 9) rfl rfl (by decide) (by omega)) hd ?_⟩
  · rw [grF_f (pI_0.mp q)] at ih
    exact ih
  · rw [csim_at hs s (by omega), hC.2.2.1 s (by omega)]
    rw [grF_t (pI_1.mp q), ← nI_1] at ih
    exact ih
theorem x_lanesBetween (hA : CtB A) (hC : CtR A A 590) {m : Mm} (hs : csim A m) (hd : 2 ≤ d) {a b : Nat} (ha : a < nS A) (hb : b < nS A) (op : Int32) : mFi l g d k_X1_lanesBetween [.ref 590, .int (nI a), .int (nI b), .int op] m (fl A op a (nS A) b) m := by
  have h9 := hA.1.2
  refine nFi 3 rfl rfl rfl (by decide) rfl (fun htr o Φ hΦ => mGoOn (mOk (by decide)) rfl [10] 400 ?_)
  show mWB l g d k_X1_lanesBetween Φ 0 0 10 [.ref 590, .int (nI a), .int (nI b), .int op, .int ((jshl (1 : Int32) (nI a)) &&& op), .int (0 : Int32), mJ] [] m o 0 0
  generalize hc : jshl 1 (nI a) &&& op = c
  have hcb : ∀ t, t < nS A → (hB c t ↔ t = a ∧ hB op t) := fun t ht => by rw [← hc, hB_and, hB_sh (by omega) (by omega)]
  have hcm := cm_fl hA hcb
  have none : ∀ n, n < 100 → (∀ i, i < nS A → ¬ hB (cm A op c i) b) → fl A op a (nS A) b = -1 := by
    intro n hn h
    by_cases z : fl A op a (nS A) b = -1
    · exact z
    · obtain ⟨j, h1, -, h3, -⟩ := fl_lt (by omega) hb z
      exact absurd ((hcm j (by omega) b hb).mpr (by rw [h3]; exact nI_m1 (by omega))) (h j h1)
  refine mLoopZ (P := fun k => (∀ i, i < k → ¬ hB (cm A op c i) b) → mWB l g d k_X1_lanesBetween Φ 0 0 10 [.ref 590, .int (nI a), .int (nI b), .int op, .int (cm A op c k), .int (nI k), mJ] [] m o 0 0) (N := 9) ?_ ?_ (fun i hi => by omega)
  · intro hn
    refine mGoOn (mOk (by decide)) rfl [10] 400 ?_
    show ((9 : Int32) ≤ (nI 9) → Φ (.inl (some (.int (-1 : Int32)))) m o ∧ 0 ≤ 0 ∧ 0 ≤ 0) ∧ (¬ (9 : Int32) ≤ (nI 9) → mCal l g d k_X1_lanesBetween Φ 0 0 _ 20 k_X11_hasBit true [.int (cm A op c 9), .int (nI b)] [] [.ref 590, .int (nI a), .int (nI b), .int op, .int (cm A op c 9), .int (nI 9), mJ] m o 0 0 1)
    simp (disch := omega) only [mReq_tt, nI_0a, nI_a0, nI_cl, mIn_ok, lit_add, lit_sub, add_lit, lit_le, le_lit, lit_lt, lt_lit, eq_lit, nI_add, nI_1, nI_leI, nI_ltI, nI_eq, mIn_lit, mIn_0, mIn_1, mIn_2, mIn_3, nI_l0, nI_p0, rf_22, rf_44, rf_60, rf_69, rf_391, rf_7, rf_37, rf_51, rf_230, rf_401, rf_413, rf_496, rf_513, rf_518, sB_2, sB_3, sB_4, sB_5, sB_6, sB_7, sL_2, sL_3, sL_4, sL_5, sL_6, sL_7, not_true_eq_false, not_false_eq_true, false_implies, true_implies, true_and, and_true, eq_self, true_or, or_true, Nat.le_refl, Nat.zero_add, Nat.add_zero]
    rw [none 0 (by decide) (fun i hi => hn i (by omega))] at hΦ
    exact hΦ
  · intro k hk ih hn
    refine mGoOn (mOk (by decide)) rfl [10] 400 ?_
    show ((9 : Int32) ≤ (nI k) → Φ (.inl (some (.int (-1 : Int32)))) m o ∧ 0 ≤ 0 ∧ 0 ≤ 0) ∧ (¬ (9 : Int32) ≤ (nI k) → mCal l g d k_X1_lanesBetween Φ 0 0 _ 20 k_X11_hasBit true [.int (cm A op c k), .int (nI b)] [] [.ref 590, .int (nI a), .int (nI b), .int op, .int (cm A op c k), .int (nI k), mJ] m o 0 0 1)
    have hf : ¬ 9 ≤ k := by omega
    simp (disch := omega) only [mReq_tt, nI_0a, nI_a0, nI_cl, mIn_ok, lit_add, lit_sub, add_lit, lit_le, le_lit, lit_lt, lt_lit, eq_lit, nI_add, nI_1, nI_leI, nI_ltI, nI_eq, mIn_lit, mIn_0, mIn_1, mIn_2, mIn_3, nI_l0, nI_p0, rf_22, rf_44, rf_60, rf_69, rf_391, rf_7, rf_37, rf_51, rf_230, rf_401, rf_413, rf_496, rf_513, rf_518, sB_2, sB_3, sB_4, sB_5, sB_6, sB_7, sL_2, sL_3, sL_4, sL_5, sL_6, sL_7, not_true_eq_false, not_false_eq_true, false_implies, true_implies, true_and, and_true, eq_self, true_or, or_true, Nat.le_refl, Nat.zero_add, Nat.add_zero, hf]
    refine fCi htr (x_hasBit m _ (by omega)) (by omega) ?_
    show ((pI (hB (cm A op c k) b)) = 0 → True ∧ mCal l g d k_X1_lanesBetween Φ 0 0 _ 33 k_X1_grown false [.ref 590, .int (cm A op c k), .int op] [] [.ref 590, .int (nI a), .int (nI b), .int op, .int (cm A op c k), .int (nI k), mJ] m o 0 0 1) ∧ (¬ (pI (hB (cm A op c k) b)) = 0 → Φ (.inl (some (.int (nI k)))) m o ∧ 0 ≤ 0 ∧ 0 ≤ 0)
    refine ⟨fun q => ⟨trivial, fCi htr (x_grown hA hC hs (by omega) _ _) (by omega) ?_⟩, fun q => ?_⟩
    · have hq := pI_0.mp q
      show (¬ (gr A op (cm A op c k)) = (cm A op c k) → mWB l g d k_X1_lanesBetween Φ 0 0 10 [.ref 590, .int (nI a), .int (nI b), .int op, .int (gr A op (cm A op c k)), .int ((nI k) + (1 : Int32)), .int (gr A op (cm A op c k))] [] m o 0 0) ∧ ((gr A op (cm A op c k)) = (cm A op c k) → Φ (.inl (some (.int (-1 : Int32)))) m o ∧ 0 ≤ 0 ∧ 0 ≤ 0)
      refine ⟨fun z => ?_, fun z => ?_⟩
      · rw [nI_1]
        exact mWB_wk (ih (fun i hi => by
          rcases Nat.lt_or_eq_of_le (Nat.le_of_lt_succ hi) with y | y
          · exact hn i y
          · rw [y]; exact hq)) ⟨Or.inr rfl, Or.inr rfl, Or.inr rfl, Or.inr rfl, Or.inr rfl, Or.inr rfl, Or.inl rfl, trivial⟩
      · have hst := cm_stop (A := A) (op := op) (c := c) (n := k) z
        rw [none 0 (by decide) (fun i hi => by
          by_cases y : i < k
          · exact hn i y
          · rw [show i = k + (i - k) by omega, hst]; exact hq)] at hΦ
        exact eR hΦ
    · have hq := (hcm k (by omega) b hb).mp (pI_1.mp q)
      obtain ⟨j, h1, h2, h3, h4⟩ := fl_lt (by omega) hb hq
      have hjk : j = k := by
        obtain ⟨j', hj', e', -⟩ := fl_v k b (by omega) hq
        rw [e', nI_eq (by omega) (by omega)] at h2
        rcases Nat.lt_or_ge j k with y | y
        · exact absurd ((hcm j (by omega) b hb).mpr (by rw [h3]; exact nI_m1 (by omega))) (hn j y)
        · omega
      subst hjk
      have e := fl_mono (A := A) (op := op) (a := a) (n := j) (t := b) (by rw [h3]; exact nI_m1 (by omega)) (nS A - j)
      rw [show j + (nS A - j) = nS A by omega, h3] at e
      rw [e] at hΦ
      exact eR hΦ
end X6
