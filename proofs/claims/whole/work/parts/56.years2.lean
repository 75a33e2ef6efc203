set_option maxRecDepth 100000
/-! A YEAR, in the class -/
def lY : List Nat := [602, 603, 701, 702, 703, 704, 705]
theorem NtR_fr {A : Mm} {R : Nat → Int32} {m m2 : Mm} {N : Nat} (h : ∀ a, N ≤ a → a ≤ N + 3 → m2 a = m a) (hR : NtR A R m N) : NtR A R m2 N := by
  unfold NtR
  rw [h N (by omega) (by omega), h (N + 1) (by omega) (by omega), h (N + 2) (by omega) (by omega), h (N + 3) (by omega) (by omega)]
  exact hR
theorem eqY_N {m m2 : Mm} (h : eqN 702 m m2) : eqL lY m m2 := fun a ha => by
  have h1 : a ≠ 602 := fun e => ha (by rw [e]; decide)
  have h2 : a ≠ 603 := fun e => ha (by rw [e]; decide)
  have h3 : a ≠ 702 := fun e => ha (by rw [e]; decide)
  have h4 : a ≠ 703 := fun e => ha (by rw [e]; decide)
  have h5 : a ≠ 704 := fun e => ha (by rw [e]; decide)
  have h6 : a ≠ 705 := fun e => ha (by rw [e]; decide)
  exact h a h1 h2 (by omega)
theorem eqY_cs {A m m2 : Mm} (h : eqL lY m m2) (hs : csim A m) : csim A m2 := fun a h1 h2 => by
  rw [h a (fun q => by simp [lY] at q; omega)]; exact hs a h1 h2
def YI (A : Mm) (R : Nat → Int32) (wk sd go : Int32) (m m2 : Mm) : Prop := eqL lY m m2 ∧ NtR A R m2 702 ∧ m2 701 1 = go ∧ m2 701 2 = wk ∧ m2 701 3 = sd
def YJ (A : Mm) (y : Y4) (m m2 : Mm) : Prop := YI A y.1 y.2.1 y.2.2.1 y.2.2.2 m m2
theorem YI_dr {A : Mm} {R : Nat → Int32} {wk sd go : Int32} {m m2 : Mm} (h : YI A R wk sd go m m2) (v : Int32) : YI A R wk v go m (mset m2 701 3 v) := ⟨eqL_mset h.1 (by decide) _ _, NtR_fr (fun a _ _ => mset_ne _ _ _ (by omega)) h.2.1, by rw [mset_eq, pk_un (by decide)]; exact h.2.2.1, by rw [mset_eq, pk_un (by decide)]; exact h.2.2.2.1, by rw [mset_eq, pk_us]⟩
theorem yK_lt {A : Mm} (hA : CtB A) (hM : 0 < nM A) (y : Y4) : drv (dr y.2.2.1) (nI (nM A)) = nI (yK A y) ∧ yK A y < nM A := by
  have h2 := hA.2.2.1
  have := In_cl (drv_In (dr y.2.2.1) hM (by omega)) (by omega)
  unfold yK
  rw [h2.1]
  exact this
theorem yS_lt {A : Mm} (hA : CtB A) (hM : 0 < nS A) (y : Y4) : drv (dr (dr y.2.2.1)) (nI (nS A)) = nI (yS A y) ∧ yS A y < nS A := by
  have h2 := hA.1
  have := In_cl (drv_In (dr (dr y.2.2.1)) hM (by omega)) (by omega)
  unfold yS
  rw [h2.1]
  exact this
theorem stY_Nt {A : Mm} (hA : CtB A) (hM : 0 < nM A) (q : Int32) {y : Y4} (h : Nt A y.1) : Nt A (yN A y).2.1 ∧ Nt A (yB A q y) ∧ Nt A (stY A q y).1 := by
  have hS : 0 < nS A := by
    obtain ⟨s, hs, _⟩ := h.1 0 hM
    omega
  have hk := (yK_lt hA hM y).2
  have h1 : Nt A (yN A y).2.1 := Nt_walk hA h hk (yS_lt hA hS y).2 _
  have h2 : Nt A (yB A q y) := by
    unfold yB
    by_cases z : q ≤ drv (dr (dr (dr y.2.2.1))) 16
    · rw [if_pos z]; exact h1
    · rw [if_neg z]; exact Nt_bed hA h1 hk
  exact ⟨h1, h2, by rw [stY_1]; exact Nt_hour hA h2⟩
section X14
variable {l : Launch} {g : mG} {d : Nat} {A : Mm}
theorem x_lrest (htr : l.stackTraces = false) (o : Int64) {Φ : mR → Mm → Int64 → Prop} (hA : CtB A) (hd : 4 ≤ d) {m : Mm} {seed q : Int32} {n k : Nat} {y : Y4} (hM : 0 < nM A) (hV : Nt A y.1)
    (ih : ∀ m2, YJ A (stY A q y) m m2 → mWB l g d k_X10_live Φ 0 0 35 [.ref 701, .ref 589, .ref 626, .int seed, .int (nI n), .int q, .int (nI (nM A)), .int (nI (k + 1)), mJ, mJ, mJ] [] m2 o 0 0) (ss aw : Int32) : ∀ m3, eqL lY m m3 → NtR A (yN A y).2.1 m3 702 → m3 701 1 = y.2.2.2 + (yN A y).1 → m3 701 2 = (yN A y).2.2 → m3 701 3 = dr (dr y.2.2.1) → mWB l g d k_X10_live Φ 0 0 139 [.ref 701, .ref 589, .ref 626, .int seed, .int (nI n), .int q, .int (nI (nM A)), .int (nI k), .int (nI (yK A y)), .int ss, .int aw] [] m3 o 0 0 := by
  intro m3 h1 h2 h3 h4 h5
  have hk := (yK_lt hA hM y).2
  have hN := stY_Nt hA hM q hV
  refine mGoOn (mOk (by decide)) rfl [35,139,159] 400 ?_
  show True ∧ mCal l g d k_X10_live Φ 0 0 _ 142 k_X10_draw false [.ref 701, .int (16 : Int32)] [] [.ref 701, .ref 589, .ref 626, .int seed, .int (nI n), .int q, .int (nI (nM A)), .int (nI k), .int (nI (yK A y)), .int ss, .int aw] m3 o 0 0 1
  refine ⟨trivial, fCi htr (x_draw m3 (n := 16) (by decide) (by decide)) (by omega) ?_⟩
  rw [h5]
  have j1 : eqL lY m (mset m3 701 3 (dr (dr (dr y.2.2.1)))) := eqL_mset h1 (by decide) _ _
  have j2 : NtR A (yN A y).2.1 (mset m3 701 3 (dr (dr (dr y.2.2.1)))) 702 := NtR_fr (fun a _ _ => mset_ne _ _ _ (by omega)) h2
  have j3 : mset m3 701 3 (dr (dr (dr y.2.2.1))) 701 1 = y.2.2.2 + (yN A y).1 := by rw [mset_eq, pk_un (by decide)]; exact h3
  have j4 : mset m3 701 3 (dr (dr (dr y.2.2.1))) 701 2 = (yN A y).2.2 := by rw [mset_eq, pk_un (by decide)]; exact h4
  have j5 : mset m3 701 3 (dr (dr (dr y.2.2.1))) 701 3 = dr (dr (dr y.2.2.1)) := by rw [mset_eq, pk_us]
  generalize mset m3 701 3 (dr (dr (dr y.2.2.1))) = m4 at j1 j2 j3 j4 j5 ⊢
  rw [show nI 16 = 16 from rfl]
  generalize hvv : drv (dr (dr (dr y.2.2.1))) 16 = v
  show (q ≤ v → mWB l g d k_X10_live Φ 0 0 159 [.ref 701, .ref 589, .ref 626, .int seed, .int (nI n), .int q, .int (nI (nM A)), .int (nI k), .int (nI (yK A y)), .int ss, .int aw] [] m4 o 0 0) ∧ (¬ q ≤ v → True ∧ mCal l g d k_X10_live Φ 0 0 _ 156 k_X5_turnBed false [.ref 702, .int (nI (yK A y))] [] [.ref 701, .ref 589, .ref 626, .int seed, .int (nI n), .int q, .int (nI (nM A)), .int (nI k), .int (nI (yK A y)), .int ss, .int aw] m4 o 0 0 0)
  have fin : ∀ m7, eqL lY m m7 → NtR A (yB A q y) m7 702 → m7 701 = m4 701 → mWB l g d k_X10_live Φ 0 0 159 [.ref 701, .ref 589, .ref 626, .int seed, .int (nI n), .int q, .int (nI (nM A)), .int (nI k), .int (nI (yK A y)), .int ss, .int aw] [] m7 o 0 0 := by
    intro m7 i1 i2 i3
    refine mGoOn (mOk (by decide)) rfl [35,139,159] 400 ?_
    show True ∧ mCal l g d k_X10_live Φ 0 0 _ 163 k_X5_passHour false [.ref 702] [] [.ref 701, .ref 589, .ref 626, .int seed, .int (nI n), .int q, .int (nI (nM A)), .int (nI k), .int (nI (yK A y)), .int ss, .int aw] m7 o 0 0 0
    refine ⟨trivial, nCv htr (x_passHour hA (N := 702) rfl (by omega) i2 hN.2.1) (by omega) ?_⟩
    intro m8 ⟨f1, f2⟩
    show mWB l g d k_X10_live Φ 0 0 35 [.ref 701, .ref 589, .ref 626, .int seed, .int (nI n), .int q, .int (nI (nM A)), .int ((nI k) + (1 : Int32)), .int (nI (yK A y)), .int ss, .int aw] [] m8 o 0 0
    rw [nI_1]
    have f3 : m8 701 = m4 701 := (f1 701 (by decide) (by decide) (by decide)).trans i3
    refine mWB_wk (ih m8 ⟨eqL_trans i1 (eqY_N f1), ?_, ?_, ?_, ?_⟩) ⟨Or.inr rfl, Or.inr rfl, Or.inr rfl, Or.inr rfl, Or.inr rfl, Or.inr rfl, Or.inr rfl, Or.inr rfl, Or.inl rfl, Or.inl rfl, Or.inl rfl, trivial⟩
    · rw [stY_1]; exact f2
    · rw [f3, stY_4]; exact j3
    · rw [f3, stY_2]; exact j4
    · rw [f3, stY_3]; exact j5
  refine ⟨fun z => fin m4 j1 ?_ rfl, fun z => ⟨trivial, nCv htr (x_turnBed hA (N := 702) rfl j2 hN.1 hk) (by omega) ?_⟩⟩
  · unfold yB; rw [hvv, if_pos z]; exact j2
  · intro m6 ⟨f1, f2⟩
    refine fin m6 (eqL_trans j1 (eqY_N f1)) ?_ (f1 701 (by decide) (by decide) (by decide))
    unfold yB; rw [hvv, if_neg z]; exact f2
theorem x_live (hA : Sv A) (hC : CtR A A 590) (hL : LwR A A 600) (hT : NtR A (A 494) A 626) (hV : Nt A (A 494)) {m : Mm} (hm : cl m = A) (hd : 6 ≤ d) (seed : Int32) {n : Nat} (hn : n < 1000) (q : Int32) : mHv l g d k_X10_live [.ref 701, .ref 589, .ref 626, .int seed, .int (nI n), .int q] m (fun m2 => YJ A (yr A seed n q) m m2) := by
  have hN2 := hA.1.2.2.1
  have hN0 := hA.1.1
  have hs := csim_of hm
  refine nBv 5 rfl rfl rfl (by decide) rfl (fun htr o Φ hΦ => mGoOn (mOk (by decide)) rfl [35,139,159] 400 ?_)
  show True ∧ mCal l g d k_X10_live Φ 0 0 _ 5 k_X5_copy false [.ref 702, .ref 626] [] [.ref 701, .ref 589, .ref 626, .int seed, .int (nI n), .int q, mJ, mJ, mJ, mJ, mJ] m o 0 0 0
  refine ⟨trivial, nCv htr (x_ncopy (N := 702) (M := 626) rfl rfl (by omega) (by omega)) (by omega) ?_⟩
  intro m1 ⟨h1, h2⟩
  have hT1 : NtR A (A 494) m 626 := NtR_fr (fun a _ _ => clF hm (by omega)) hT
  replace h2 := h2 A (A 494) hA.1 hT1
  have e1 : eqL lY m m1 := fun a ha => h1 a (by
    by_cases z : a < 702 ∨ 702 + 3 < a
    · exact z
    · exfalso
      rcases (show a = 702 ∨ a = 703 ∨ a = 704 ∨ a = 705 by omega) with rfl | rfl | rfl | rfl <;> exact ha (by decide))
  show mWB l g d k_X10_live Φ 0 0 35 [.ref 701, .ref 589, .ref 626, .int seed, .int (nI n), .int q, .int ((mset (mset (mset m1 701 1 (0 : Int32)) 701 2 (0 : Int32)) 701 3 seed) 590 2), .int (0 : Int32), mJ, mJ, mJ] [] (mset (mset (mset m1 701 1 (0 : Int32)) 701 2 (0 : Int32)) 701 3 seed) o 0 0
  have k0 : YI A (A 494) 0 seed 0 m (mset (mset (mset m1 701 1 (0 : Int32)) 701 2 (0 : Int32)) 701 3 seed) := ⟨eqL_mset (eqL_mset (eqL_mset e1 (by decide) _ _) (by decide) _ _) (by decide) _ _, NtR_fr (fun a _ _ => by rw [mset_ne _ _ _ (by omega), mset_ne _ _ _ (by omega), mset_ne _ _ _ (by omega)]) h2, by rw [mset_eq, pk_un (by decide), mset_eq, pk_un (by decide), mset_eq, pk_us], by rw [mset_eq, pk_un (by decide), mset_eq, pk_us], by rw [mset_eq, pk_us]⟩
  generalize mset (mset (mset m1 701 1 (0 : Int32)) 701 2 (0 : Int32)) 701 3 seed = m2 at k0 ⊢
  rw [csim_at (eqY_cs k0.1 hs) 2 (by omega), hC.1.2.2.1]
  unfold yr at hΦ
  by_cases hz : nM A = 0
  · rw [if_pos hz] at hΦ
    refine mGoOn (mOk (by decide)) rfl [35,139,159] 400 ?_
    show ((nI n) ≤ (0 : Int32) → Φ (.inl none) m2 o ∧ 0 ≤ 0 ∧ 0 ≤ 0) ∧ (¬ (nI n) ≤ (0 : Int32) → ((nI (nM A)) ≤ 0 → Φ (.inl none) m2 o ∧ 0 ≤ 0 ∧ 0 ≤ 0) ∧ (¬ (nI (nM A)) ≤ 0 → True ∧ mCal l g d k_X10_live Φ 0 0 _ 50 k_X10_draw false [.ref 701, .int (nI (nM A))] [] [.ref 701, .ref 589, .ref 626, .int seed, .int (nI n), .int q, .int (nI (nM A)), .int (0 : Int32), mJ, mJ, mJ] m2 o 0 0 1))
    rw [hz]
    refine ⟨fun _ => eR (hΦ _ k0), fun _ => ⟨fun _ => eR (hΦ _ k0), fun z => absurd (show nI 0 ≤ 0 by decide) z⟩⟩
  rw [if_neg hz] at hΦ
  have hM : 0 < nM A := by omega
  have hS : 0 < nS A := by
    obtain ⟨s, hs, _⟩ := hV.1 0 hM
    omega
  have hpl : ∀ k, Nt A (foY A q seed k).1 := by
    intro k
    induction k with
    | zero => exact hV
    | succ k ih => exact (stY_Nt hA.1 hM q ih).2.2
  refine mLoopZ (P := fun k => ∀ m2, YJ A (foY A q seed k) m m2 → mWB l g d k_X10_live Φ 0 0 35 [.ref 701, .ref 589, .ref 626, .int seed, .int (nI n), .int q, .int (nI (nM A)), .int (nI k), mJ, mJ, mJ] [] m2 o 0 0) (N := n) ?_ ?_ m2 k0
  · intro m2 h2
    refine mGoOn (mOk (by decide)) rfl [35,139,159] 400 ?_
    show ((nI n) ≤ (nI n) → Φ (.inl none) m2 o ∧ 0 ≤ 0 ∧ 0 ≤ 0) ∧ (¬ (nI n) ≤ (nI n) → ((nI (nM A)) ≤ 0 → Φ (.inl none) m2 o ∧ 0 ≤ 0 ∧ 0 ≤ 0) ∧ (¬ (nI (nM A)) ≤ 0 → True ∧ mCal l g d k_X10_live Φ 0 0 _ 50 k_X10_draw false [.ref 701, .int (nI (nM A))] [] [.ref 701, .ref 589, .ref 626, .int seed, .int (nI n), .int q, .int (nI (nM A)), .int (nI n), mJ, mJ, mJ] m2 o 0 0 1))
    simp (disch := omega) only [mReq_tt, nI_0a, nI_a0, nI_cl, mIn_ok, lit_add, lit_sub, add_lit, lit_le, le_lit, lit_lt, lt_lit, eq_lit, nI_add, nI_1, nI_leI, nI_ltI, nI_eq, mIn_lit, mIn_0, mIn_1, mIn_2, mIn_3, nI_l0, nI_p0, rf_22, rf_44, rf_60, rf_69, rf_391, rf_7, rf_37, rf_51, rf_230, rf_401, rf_413, rf_496, rf_513, rf_518, sB_2, sB_3, sB_4, sB_5, sB_6, sB_7, sL_2, sL_3, sL_4, sL_5, sL_6, sL_7, not_true_eq_false, not_false_eq_true, false_implies, true_implies, true_and, and_true, eq_self, true_or, or_true, Nat.le_refl, Nat.zero_add, Nat.add_zero]
    exact hΦ _ h2
  · intro k hk ih m2 h2
    have hpl := hpl k
    replace ih : ∀ m2, YJ A (stY A q (foY A q seed k)) m m2 → mWB l g d k_X10_live Φ 0 0 35 [.ref 701, .ref 589, .ref 626, .int seed, .int (nI n), .int q, .int (nI (nM A)), .int (nI (k + 1)), mJ, mJ, mJ] [] m2 o 0 0 := ih
    generalize foY A q seed k = y at hpl ih h2
    refine mGoOn (mOk (by decide)) rfl [35,139,159] 400 ?_
    show ((nI n) ≤ (nI k) → Φ (.inl none) m2 o ∧ 0 ≤ 0 ∧ 0 ≤ 0) ∧ (¬ (nI n) ≤ (nI k) → ((nI (nM A)) ≤ 0 → Φ (.inl none) m2 o ∧ 0 ≤ 0 ∧ 0 ≤ 0) ∧ (¬ (nI (nM A)) ≤ 0 → True ∧ mCal l g d k_X10_live Φ 0 0 _ 50 k_X10_draw false [.ref 701, .int (nI (nM A))] [] [.ref 701, .ref 589, .ref 626, .int seed, .int (nI n), .int q, .int (nI (nM A)), .int (nI k), mJ, mJ, mJ] m2 o 0 0 1))
    refine ⟨fun z => absurd z (by rw [nI_leI (by omega) (by omega)]; omega), fun _ => ⟨fun z => absurd z (nI_nle hM (by omega)), fun _ => ⟨trivial, fCi htr (x_draw m2 hM (by omega)) (by omega) ?_⟩⟩⟩
    show True ∧ mCal l g d k_X10_live Φ 0 0 _ 63 k_X10_draw false [.ref 701, .int ((mset m2 701 3 (dr (m2 701 3))) 590 0)] [] [.ref 701, .ref 589, .ref 626, .int seed, .int (nI n), .int q, .int (nI (nM A)), .int (nI k), .int (drv (dr (m2 701 3)) (nI (nM A))), mJ, mJ] (mset m2 701 3 (dr (m2 701 3))) o 0 0 1
    rw [h2.2.2.2.2]
    have a1 : YI A y.1 y.2.1 (dr y.2.2.1) y.2.2.2 m (mset m2 701 3 (dr y.2.2.1)) := YI_dr h2 _
    generalize mset m2 701 3 (dr y.2.2.1) = m3 at a1 ⊢
    rw [(yK_lt hA.1 hM y).1]
    rw [csim_at (eqY_cs a1.1 hs) 0 (by omega), hC.1.1]
    refine ⟨trivial, fCi htr (x_draw m3 hS (by omega)) (by omega) ?_⟩
    show True ∧ mCal l g d k_X10_live Φ 0 0 _ 86 k_X8_walk false [.ref 589, .ref 702, .int (nI (yK A y)), .int (drv (dr (m3 701 3)) (nI (nS A)))] [] [.ref 701, .ref 589, .ref 626, .int seed, .int (nI n), .int q, .int (nI (nM A)), .int (nI k), .int (nI (yK A y)), .int (drv (dr (m3 701 3)) (nI (nS A))), .int ((mset m3 701 3 (dr (m3 701 3))) 702 3)] (mset m3 701 3 (dr (m3 701 3))) o 0 0 1
    have a15 : m3 701 3 = dr y.2.2.1 := a1.2.2.2.2
    rw [a15]
    have a2 : YI A y.1 y.2.1 (dr (dr y.2.2.1)) y.2.2.2 m (mset m3 701 3 (dr (dr y.2.2.1))) := YI_dr a1 _
    generalize mset m3 701 3 (dr (dr y.2.2.1)) = m4 at a2 ⊢
    rw [(yS_lt hA.1 hS y).1]
    have hkk := (yK_lt hA.1 hM y).2
    have hss := (yS_lt hA.1 hS y).2
    have rest := x_lrest (l := l) (g := g) htr o hA.1 (d := d) (by omega) hM hpl ih (nI (yS A y)) (m4 702 3)
    refine ⟨trivial, nCi htr (x_walk hA.1 hC (eqY_cs a2.1 hs) (by omega) (N := 702) rfl a2.2.1 hpl hkk hss) (by omega) ?_⟩
    rintro x m5 (⟨rfl, rfl, hw⟩ | ⟨rfl, rfl, hw, hup⟩)
    · have e0 : yN A y = (0, y.1, y.2.1) := ifp_t hw
      rw [e0] at rest
      show ((0 : Int32) = 0 → mWB l g d k_X10_live Φ 0 0 139 [.ref 701, .ref 589, .ref 626, .int seed, .int (nI n), .int q, .int (nI (nM A)), .int (nI k), .int (nI (yK A y)), .int (nI (yS A y)), .int (m5 702 3)] [] m5 o 0 0) ∧ (¬ (0 : Int32) = 0 → True ∧ mCal l g d k_X10_live Φ 0 0 _ 99 k_X8_callOut false [.ref 589, .ref 702, .int (nI (yK A y))] [] [.ref 701, .ref 589, .ref 626, .int seed, .int (nI n), .int q, .int (nI (nM A)), .int (nI k), .int (nI (yK A y)), .int (nI (yS A y)), .int (m5 702 3)] m5 o 0 0 1)
      refine br0b ?_
      refine rest _ a2.1 a2.2.1 ?_ a2.2.2.2.1 a2.2.2.2.2
      rw [a2.2.2.1]
      exact (nI_a0 _).symm
    · have hw4 := nWalk_w hA.1 hpl hkk hss y.2.1 hw hup
      have hb := awk_bits hA.1 (R := y.1) (R' := (nWalk A y.1 (yK A y) (yS A y) y.2.1).2.1) (fun p hp => hpl.2.2.2.1 p (by have := hA.1.2.2.2.2; omega)) hw4.2.2.1
      have hNp := NtR_place hA.1 a2.2.1 (k := yK A y) (s := yS A y) hkk
      have hcs := eqN_cs (N := 702) (by omega) (eqN_set (eqN_refl 702 m4) (a := 703) (by omega) (yK A y) (nI (yS A y))) (eqY_cs a2.1 hs)
      have hco := x_callOut (l := l) (g := g) (d := d - 1) hA hC hL hcs (by omega) (N := 702) rfl (by omega) hNp (Nt_place hA.1 hpl hkk hss) hkk y.2.1
      rw [← hw4.2.2.2] at hco
      show ((1 : Int32) = 0 → mWB l g d k_X10_live Φ 0 0 139 [.ref 701, .ref 589, .ref 626, .int seed, .int (nI n), .int q, .int (nI (nM A)), .int (nI k), .int (nI (yK A y)), .int (nI (yS A y)), .int (m4 702 3)] [] (mset m4 703 (yK A y) (nI (yS A y))) o 0 0) ∧ (¬ (1 : Int32) = 0 → True ∧ mCal l g d k_X10_live Φ 0 0 _ 99 k_X8_callOut false [.ref 589, .ref 702, .int (nI (yK A y))] [] [.ref 701, .ref 589, .ref 626, .int seed, .int (nI n), .int q, .int (nI (nM A)), .int (nI k), .int (nI (yK A y)), .int (nI (yS A y)), .int (m4 702 3)] (mset m4 703 (yK A y) (nI (yS A y))) o 0 0 1)
      refine br1b ?_
      refine ⟨trivial, nCi htr hco (by omega) ?_⟩
      rintro x m6 ⟨rfl, f1, f2⟩
      have ew : yN A y = nWalk A y.1 (yK A y) (yS A y) y.2.1 := rfl
      rw [ew] at rest
      rw [hw4.1]
      generalize hW : nWalk A y.1 (yK A y) (yS A y) y.2.1 = W at rest hw4 hb f2
      have g1 : eqL lY m m6 := eqL_trans a2.1 (eqL_trans (eqL_mset (eqL_refl _ _) (by decide) _ _) (eqY_N f1))
      have g2 : m6 701 = m4 701 := (f1 701 (by decide) (by decide) (by decide)).trans (mset_ne _ _ _ (by decide))
      show ((1 : Int32) = 0 → mWB l g d k_X10_live Φ 0 0 139 [.ref 701, .ref 589, .ref 626, .int seed, .int (nI n), .int q, .int (nI (nM A)), .int (nI k), .int (nI (yK A y)), .int (nI (yS A y)), .int (m4 702 3)] [] m6 o 0 0) ∧ (¬ (1 : Int32) = 0 → (Value.ref 701).category = 1 ∧ ((Value.ref 701).category = 1 ∧ (mCal l g d k_X10_live Φ 0 0 _ 132 k_J6_bitCount_0f7a4 false [.int (((mset m6 701 1 ((m6 701 1) + (1 : Int32))) 702 3) &&& ((m4 702 3) ^^^ (-1 : Int32)))] [.int ((mset m6 701 1 ((m6 701 1) + (1 : Int32))) 701 2), .ref 701] [.ref 701, .ref 589, .ref 626, .int seed, .int (nI n), .int q, .int (nI (nM A)), .int (nI k), .int (nI (yK A y)), .int (nI (yS A y)), .int (m4 702 3)] (mset m6 701 1 ((m6 701 1) + (1 : Int32))) o 0 0 1)))
      refine br1b ?_
      rw [mset_ne m6 (a := 701) (x := 702) _ _ (by decide), f2.2.2.2.1, a2.2.1.2.2.2.1]
      obtain ⟨b, hb1, hb2, hb3⟩ := hb
      rw [hb2]
      refine ⟨rfl, rfl, fCi htr (j_bitCount _ hb1) (by omega) ?_⟩
      rw [hb3]
      show mWB l g d k_X10_live Φ 0 0 139 [.ref 701, .ref 589, .ref 626, .int seed, .int (nI n), .int q, .int (nI (nM A)), .int (nI k), .int (nI (yK A y)), .int (nI (yS A y)), .int (msk (fun p => y.1 (27 + p) = 1) (nP A))] [] (mset (mset m6 701 1 (m6 701 1 + (1 : Int32))) 701 2 (((mset m6 701 1 (m6 701 1 + (1 : Int32))) 701 2) + (nI (cnt (fun p => W.2.1 (27 + p) = 1 ∧ y.1 (27 + p) = 0) (nP A))))) o 0 0
      rw [a2.2.1.2.2.2.1] at rest
      refine rest _ (eqL_mset (eqL_mset g1 (by decide) _ _) (by decide) _ _) (NtR_fr (fun a _ _ => by rw [mset_ne _ _ _ (by omega), mset_ne _ _ _ (by omega)]) f2) ?_ ?_ ?_
      · rw [mset_eq, pk_un (by decide), mset_eq, pk_us, g2, a2.2.2.1, hw4.1]
      · rw [mset_eq, pk_us, mset_eq, pk_un (by decide), g2, a2.2.2.2.1, hw4.2.1]
      · rw [mset_eq, pk_un (by decide), mset_eq, pk_un (by decide), g2, a2.2.2.2.2]
end X14
