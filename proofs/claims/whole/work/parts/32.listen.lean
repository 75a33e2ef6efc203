set_option maxRecDepth 100000
/-! THE REFERENCE'S QUERIES: who, listen -/
noncomputable def stW (A : Mm) (a h : Nat) (s : Int32 × Int32 × Int32) : Int32 × Int32 × Int32 := ifp (isC A a (nI h)) (s.1 + 1, if s.1 = 0 then 100 * nI a + nI h else s.2.1, s.2.2 ||| jshl 1 (nI a)) s
noncomputable def foW (A : Mm) (K : Nat) : Int32 × Int32 × Int32 := fo (fun a s => fo (stW A a) 24 s) K (0, -1, 0)
noncomputable def qWho (A : Mm) (w : Int32) : Oc := ifp (In w 3) (0, 0, if w = 0 then (foW A (nM A)).1 else if w = 1 then (foW A (nM A)).2.1 else (foW A (nM A)).2.2) (1, 1, 0)
noncomputable def stL (A : Mm) (s a h : Nat) (t : (Nat → Int32) × Int32) : (Nat → Int32) × Int32 := ifp (isC A a (nI h))
  (upd t.1 (sayN A a s (nI h)).toNatClampNeg (t.1 (sayN A a s (nI h)).toNatClampNeg + 1), if t.1 (sayN A a s (nI h)).toNatClampNeg + 1 < t.2 then t.2 else t.1 (sayN A a s (nI h)).toNatClampNeg + 1) t
noncomputable def foL (A : Mm) (s K : Nat) : (Nat → Int32) × Int32 := fo (fun a t => fo (stL A s a) 24 t) K (fun _ => 0, 0)
noncomputable def wrs (A : Mm) (s : Nat) : Int32 := (foL A s (nM A)).2
def PLs (A : Mm) (s : Nat) : Prop := ¬ isT A (nI s)
noncomputable def aLs (A : Mm) (n : Nat) : Int32 := amn (PLs A) (wrs A) n
noncomputable def qLis (A : Mm) (w : Int32) : Oc := ifp (In w 2) (0, 0, if w = 0 then aLs A (nS A) else lst1 (wrs A) (aLs A (nS A))) (1, 1, 0)
abbrev lT : List Nat := [411, 412, 583]
theorem sc_T : ∀ a, a ∈ lT → ∀ i, sc a i = true := by
  intro a ha i
  rcases List.mem_cons.mp ha with rfl | ha
  · rfl
  · rcases List.mem_cons.mp ha with rfl | ha
    · rfl
    · rcases List.mem_cons.mp ha with rfl | ha
      · rfl
      · cases ha
theorem eqT_Cn {A m m2 : Mm} (h : eqL lT m m2) (hm : Cn A m) : Cn A m2 := ⟨eqL_cl sc_T h hm.1, by rw [h 0 (by decide)]; exact hm.2⟩
theorem cn_583 {A m : Mm} (hm : Cn A m) (i : Nat) (v : Int32) : Cn A (mset m 583 i v) := eqT_Cn (eqL_mset (eqL_refl _ _) (by decide) i v) hm
theorem foL_s (A : Mm) (s a : Nat) : foL A s (a + 1) = fo (stL A s a) 24 (foL A s a) := rfl
theorem lit24 : (nI 24 : Int32) = 24 := rfl
section R16
variable {l : Launch} {g : mG} {d : Nat} {A : Mm}
theorem r_who (hA : Sv A) (hB : BkOk A) {m : Mm} (hm : cl m = A) (hd : 7 ≤ d) (w : Int32) : mHi l g d k_X12_who [.ref 0, .int w] m (rO A (qWho A w)) := by
  have hN := hA.1.1
  have hN2 := hA.1.2.2.1
  refine nBi 5 rfl rfl rfl (by decide) rfl (fun htr o Φ hΦ => mGoOn (mOk (by decide)) rfl [40,54] 400 ?_)
  show mCal l g d k_X12_who Φ 0 0 _ 9 k_X12_in false [.int w, .int (0 : Int32), .int (2 : Int32)] [.ref 0] [.ref 0, .int w, mJ, mJ, mJ, mJ, mJ] (mset m 0 0 (0 : Int32)) o 0 0 1
  have hC := Cn_0 hm
  generalize mset m 0 0 (0 : Int32) = M at hC ⊢
  clear hm
  obtain ⟨hM, hth⟩ := hC
  have hC : Cn A M := ⟨hM, hth⟩
  unfold qWho at hΦ
  refine fCi htr (r_inB (n := 3) (by omega) rfl) (by omega) ?_
  show (¬ (pI (In w 3)) = 0 → True ∧ mCal l g d k_X12_who Φ 0 0 _ 22 k_X12_bad false [.ref 0, .int (0 : Int32), .int (1 : Int32), .int (1 : Int32)] [] [.ref 0, .int w, mJ, mJ, mJ, mJ, mJ] M o 0 0 1) ∧ ((pI (In w 3)) = 0 → True ∧ mCal l g d k_X12_who Φ 0 0 _ 22 k_X12_bad false [.ref 0, .int (1 : Int32), .int (1 : Int32), .int (1 : Int32)] [] [.ref 0, .int w, mJ, mJ, mJ, mJ, mJ] M o 0 0 1)
  refine and_sw (fun h1 => ?_) (fun h1 => ?_)
  · replace h1 := pI_0.mp h1
    refine ⟨trivial, fCi htr (r_bad1 hth (t := 1) (j := 1) (by decide) (by decide)) (by omega) ?_⟩
    show ((1 : Int32) = 0 → mWB l g d k_X12_who Φ 0 0 40 [.ref 0, .int w, .int (0 : Int32), .int (-1 : Int32), .int (0 : Int32), .int (0 : Int32), mJ] [] (mset (mset M 0 0 1) 2 1 (M 2 1 + 1)) o 0 0) ∧ (¬ (1 : Int32) = 0 → Φ (.inl (some (.int (0 : Int32)))) (mset (mset M 0 0 1) 2 1 (M 2 1 + 1)) o ∧ 0 ≤ 0 ∧ 0 ≤ 0)
    rw [ifp_f (h1)] at hΦ
    first | exact br1a (eR (hΦ _ _ (rO_t hM (by decide) (by decide)))) | exact br1b (eR (hΦ _ _ (rO_t hM (by decide) (by decide))))
  replace h1 := pI_1.mp h1
  refine ⟨trivial, fCi htr (r_bad0 hth _ _) (by omega) ?_⟩
  show ((0 : Int32) = 0 → mWB l g d k_X12_who Φ 0 0 40 [.ref 0, .int w, .int (0 : Int32), .int (-1 : Int32), .int (0 : Int32), .int (0 : Int32), mJ] [] M o 0 0) ∧ (¬ (0 : Int32) = 0 → Φ (.inl (some (.int (0 : Int32)))) M o ∧ 0 ≤ 0 ∧ 0 ≤ 0)
  rw [ifp_t (h1)] at hΦ
  first | refine br0a ?_ | refine br0b ?_
  refine mLoopZ (P := fun a => ∀ m, Cn A m → mWB l g d k_X12_who Φ 0 0 40 [.ref 0, .int w, .int ((foW A a).1), .int ((foW A a).2.1), .int ((foW A a).2.2), .int (nI a), mJ] [] m o 0 0) (N := nM A) (fun m hm => mGoOn (mOk (by decide)) rfl [40,54] 400 ?_) (fun a hi ih m hm => mGoOn (mOk (by decide)) rfl [40,54] 400 ?_) M hC
  · show ((m 4 2) ≤ (nI (nM A)) → (¬ w = 0 → (¬ w = (1 : Int32) → Φ (.inl (some (.int ((foW A (nM A)).2.2)))) m o ∧ 0 ≤ 0 ∧ 0 ≤ 0) ∧ (w = (1 : Int32) → Φ (.inl (some (.int ((foW A (nM A)).2.1)))) m o ∧ 0 ≤ 0 ∧ 0 ≤ 0)) ∧ (w = 0 → Φ (.inl (some (.int ((foW A (nM A)).1)))) m o ∧ 0 ≤ 0 ∧ 0 ≤ 0)) ∧ (¬ (m 4 2) ≤ (nI (nM A)) → mWB l g d k_X12_who Φ 0 0 54 [.ref 0, .int w, .int ((foW A (nM A)).1), .int ((foW A (nM A)).2.1), .int ((foW A (nM A)).2.2), .int (nI (nM A)), .int (0 : Int32)] [] m o 0 0)
    simp (disch := omega) only [mReq_tt, nI_0a, nI_a0, nI_cl, mIn_ok, lit_add, lit_sub, add_lit, lit_le, le_lit, lit_lt, lt_lit, eq_lit, nI_add, nI_1, nI_leI, nI_ltI, nI_eq, mIn_lit, mIn_0, mIn_1, mIn_2, mIn_3, nI_l0, nI_p0, rf_22, rf_44, rf_60, rf_69, rf_391, rf_7, rf_37, rf_51, rf_230, rf_401, rf_413, rf_496, rf_513, rf_518, sB_2, sB_3, sB_4, sB_5, sB_6, sB_7, sL_2, sL_3, sL_4, sL_5, sL_6, sL_7, not_true_eq_false, not_false_eq_true, false_implies, true_implies, true_and, and_true, eq_self, true_or, or_true, Nat.le_refl, Nat.zero_add, Nat.add_zero, clA hm.1, hN2.1]
    refine ⟨fun q => ⟨fun z => ?_, fun z => ?_⟩, fun q => ?_⟩
    · exact hΦ _ _ (rO_k hm (by rw [if_neg q, if_neg z]))
    · exact hΦ _ _ (rO_k hm (by rw [if_neg q, if_pos z]))
    · exact hΦ _ _ (rO_k hm (by rw [if_pos q]))
  show ((m 4 2) ≤ (nI a) → (¬ w = 0 → (¬ w = (1 : Int32) → Φ (.inl (some (.int ((foW A a).2.2)))) m o ∧ 0 ≤ 0 ∧ 0 ≤ 0) ∧ (w = (1 : Int32) → Φ (.inl (some (.int ((foW A a).2.1)))) m o ∧ 0 ≤ 0 ∧ 0 ≤ 0)) ∧ (w = 0 → Φ (.inl (some (.int ((foW A a).1)))) m o ∧ 0 ≤ 0 ∧ 0 ≤ 0)) ∧ (¬ (m 4 2) ≤ (nI a) → mWB l g d k_X12_who Φ 0 0 54 [.ref 0, .int w, .int ((foW A a).1), .int ((foW A a).2.1), .int ((foW A a).2.2), .int (nI a), .int (0 : Int32)] [] m o 0 0)
  have hf : ¬ nM A ≤ a := by omega
  simp (disch := omega) only [mReq_tt, nI_0a, nI_a0, nI_cl, mIn_ok, lit_add, lit_sub, add_lit, lit_le, le_lit, lit_lt, lt_lit, eq_lit, nI_add, nI_1, nI_leI, nI_ltI, nI_eq, mIn_lit, mIn_0, mIn_1, mIn_2, mIn_3, nI_l0, nI_p0, rf_22, rf_44, rf_60, rf_69, rf_391, rf_7, rf_37, rf_51, rf_230, rf_401, rf_413, rf_496, rf_513, rf_518, sB_2, sB_3, sB_4, sB_5, sB_6, sB_7, sL_2, sL_3, sL_4, sL_5, sL_6, sL_7, not_true_eq_false, not_false_eq_true, false_implies, true_implies, true_and, and_true, eq_self, true_or, or_true, Nat.le_refl, Nat.zero_add, Nat.add_zero, clA hm.1, hN2.1, hf]
  replace ih : ∀ m, Cn A m → mWB l g d k_X12_who Φ 0 0 40 [.ref 0, .int w, .int ((fo (stW A a) 24 (foW A a)).1), .int ((fo (stW A a) 24 (foW A a)).2.1), .int ((fo (stW A a) 24 (foW A a)).2.2), .int (nI (a + 1)), mJ] [] m o 0 0 := ih
  generalize foW A a = s0 at ih ⊢
  refine mLoopZ (P := fun h => ∀ m, Cn A m → mWB l g d k_X12_who Φ 0 0 54 [.ref 0, .int w, .int ((fo (stW A a) h s0).1), .int ((fo (stW A a) h s0).2.1), .int ((fo (stW A a) h s0).2.2), .int (nI a), .int (nI h)] [] m o 0 0) (N := 24) (fun m hm => mGoOn (mOk (by decide)) rfl [40,54] 400 ?_) (fun h hi ih m hm => mGoOn (mOk (by decide)) rfl [40,54] 400 ?_) m hm
  · show ((24 : Int32) ≤ (nI 24) → mWB l g d k_X12_who Φ 0 0 40 [.ref 0, .int w, .int ((fo (stW A a) 24 s0).1), .int ((fo (stW A a) 24 s0).2.1), .int ((fo (stW A a) 24 s0).2.2), .int ((nI a) + (1 : Int32)), .int (nI 24)] [] m o 0 0) ∧ (¬ (24 : Int32) ≤ (nI 24) → True ∧ mCal l g d k_X12_who Φ 0 0 _ 66 k_X12_isCaller false [.ref 0, .int (nI a), .int (nI 24)] [] [.ref 0, .int w, .int ((fo (stW A a) 24 s0).1), .int ((fo (stW A a) 24 s0).2.1), .int ((fo (stW A a) 24 s0).2.2), .int (nI a), .int (nI 24)] m o 0 0 1)
    simp (disch := omega) only [mReq_tt, nI_0a, nI_a0, nI_cl, mIn_ok, lit_add, lit_sub, add_lit, lit_le, le_lit, lit_lt, lt_lit, eq_lit, nI_add, nI_1, nI_leI, nI_ltI, nI_eq, mIn_lit, mIn_0, mIn_1, mIn_2, mIn_3, nI_l0, nI_p0, rf_22, rf_44, rf_60, rf_69, rf_391, rf_7, rf_37, rf_51, rf_230, rf_401, rf_413, rf_496, rf_513, rf_518, sB_2, sB_3, sB_4, sB_5, sB_6, sB_7, sL_2, sL_3, sL_4, sL_5, sL_6, sL_7, not_true_eq_false, not_false_eq_true, false_implies, true_implies, true_and, and_true, eq_self, true_or, or_true, Nat.le_refl, Nat.zero_add, Nat.add_zero]
    exact mWB_wk (ih m hm) ⟨Or.inr rfl, Or.inr rfl, Or.inr rfl, Or.inr rfl, Or.inr rfl, Or.inr rfl, Or.inl rfl, trivial⟩
  show ((24 : Int32) ≤ (nI h) → mWB l g d k_X12_who Φ 0 0 40 [.ref 0, .int w, .int ((fo (stW A a) h s0).1), .int ((fo (stW A a) h s0).2.1), .int ((fo (stW A a) h s0).2.2), .int ((nI a) + (1 : Int32)), .int (nI h)] [] m o 0 0) ∧ (¬ (24 : Int32) ≤ (nI h) → True ∧ mCal l g d k_X12_who Φ 0 0 _ 66 k_X12_isCaller false [.ref 0, .int (nI a), .int (nI h)] [] [.ref 0, .int w, .int ((fo (stW A a) h s0).1), .int ((fo (stW A a) h s0).2.1), .int ((fo (stW A a) h s0).2.2), .int (nI a), .int (nI h)] m o 0 0 1)
  have hf : ¬ 24 ≤ h := by omega
  simp (disch := omega) only [mReq_tt, nI_0a, nI_a0, nI_cl, mIn_ok, lit_add, lit_sub, add_lit, lit_le, le_lit, lit_lt, lt_lit, eq_lit, nI_add, nI_1, nI_leI, nI_ltI, nI_eq, mIn_lit, mIn_0, mIn_1, mIn_2, mIn_3, nI_l0, nI_p0, rf_22, rf_44, rf_60, rf_69, rf_391, rf_7, rf_37, rf_51, rf_230, rf_401, rf_413, rf_496, rf_513, rf_518, sB_2, sB_3, sB_4, sB_5, sB_6, sB_7, sL_2, sL_3, sL_4, sL_5, sL_6, sL_7, not_true_eq_false, not_false_eq_true, false_implies, true_implies, true_and, and_true, eq_self, true_or, or_true, Nat.le_refl, Nat.zero_add, Nat.add_zero, hf]
  rename_i ih2 _ _
  refine nCi htr (r_isCaller hA hB hm.1 (by omega) (by assumption) _) (by omega) ?_
  intro v m2 hv
  have hm2 := eqK_Cn hv.2 hm
  have ih := ih m2 hm2
  rw [fo_s] at ih
  show (¬ v = 0 → (¬ ((fo (stW A a) h s0).1) = 0 → mWB l g d k_X12_who Φ 0 0 54 [.ref 0, .int w, .int (((fo (stW A a) h s0).1) + (1 : Int32)), .int ((fo (stW A a) h s0).2.1), .int (((fo (stW A a) h s0).2.2) ||| (jshl (1 : Int32) (nI a))), .int (nI a), .int ((nI h) + (1 : Int32))] [] m2 o 0 0) ∧ (((fo (stW A a) h s0).1) = 0 → mWB l g d k_X12_who Φ 0 0 54 [.ref 0, .int w, .int (((fo (stW A a) h s0).1) + (1 : Int32)), .int (((100 : Int32) * (nI a)) + (nI h)), .int (((fo (stW A a) h s0).2.2) ||| (jshl (1 : Int32) (nI a))), .int (nI a), .int ((nI h) + (1 : Int32))] [] m2 o 0 0)) ∧ (v = 0 → mWB l g d k_X12_who Φ 0 0 54 [.ref 0, .int w, .int ((fo (stW A a) h s0).1), .int ((fo (stW A a) h s0).2.1), .int ((fo (stW A a) h s0).2.2), .int (nI a), .int ((nI h) + (1 : Int32))] [] m2 o 0 0)
  rw [nI_1, hv.1]
  generalize fo (stW A a) h s0 = t at ih ⊢
  unfold stW at ih
  refine ⟨fun q => ?_, fun q => ?_⟩
  · rw [ifp_t (pI_1.mp q)] at ih
    exact ⟨fun z => by rw [if_neg z] at ih; exact ih, fun z => by rw [if_pos z] at ih; exact ih⟩
  · rw [ifp_f (pI_0.mp q)] at ih
    exact ih
theorem r_listen (hA : Sv A) (hB : BkOk A) {m : Mm} (hm : cl m = A) (hd : 7 ≤ d) (w : Int32) : mHi l g d k_X12_listen [.ref 0, .int w] m (rO A (qLis A w)) := by
  have hN := hA.1.1
  have hN2 := hA.1.2.2.1
  refine nBi 7 rfl rfl rfl (by decide) rfl (fun htr o Φ hΦ => mGoOn (mOk (by decide)) rfl [37,66,90,104] 400 ?_)
  show mCal l g d k_X12_listen Φ 0 0 _ 9 k_X12_in false [.int w, .int (0 : Int32), .int (1 : Int32)] [.ref 0] [.ref 0, .int w, mJ, mJ, mJ, mJ, mJ, mJ, mJ] (mset m 0 0 (0 : Int32)) o 0 0 1
  have hC := Cn_0 hm
  generalize mset m 0 0 (0 : Int32) = M at hC ⊢
  clear hm
  obtain ⟨hM, hth⟩ := hC
  have hC : Cn A M := ⟨hM, hth⟩
  unfold qLis at hΦ
  refine fCi htr (r_inB (n := 2) (by omega) rfl) (by omega) ?_
  show (¬ (pI (In w 2)) = 0 → True ∧ mCal l g d k_X12_listen Φ 0 0 _ 22 k_X12_bad false [.ref 0, .int (0 : Int32), .int (1 : Int32), .int (1 : Int32)] [] [.ref 0, .int w, mJ, mJ, mJ, mJ, mJ, mJ, mJ] M o 0 0 1) ∧ ((pI (In w 2)) = 0 → True ∧ mCal l g d k_X12_listen Φ 0 0 _ 22 k_X12_bad false [.ref 0, .int (1 : Int32), .int (1 : Int32), .int (1 : Int32)] [] [.ref 0, .int w, mJ, mJ, mJ, mJ, mJ, mJ, mJ] M o 0 0 1)
  refine and_sw (fun h1 => ?_) (fun h1 => ?_)
  · replace h1 := pI_0.mp h1
    refine ⟨trivial, fCi htr (r_bad1 hth (t := 1) (j := 1) (by decide) (by decide)) (by omega) ?_⟩
    show ((1 : Int32) = 0 → mWB l g d k_X12_listen Φ 0 0 37 [.ref 0, .int w, .int (-1 : Int32), .int (-1 : Int32), .int (0 : Int32), mJ, mJ, mJ, mJ] [] (mset (mset M 0 0 1) 2 1 (M 2 1 + 1)) o 0 0) ∧ (¬ (1 : Int32) = 0 → Φ (.inl (some (.int (0 : Int32)))) (mset (mset M 0 0 1) 2 1 (M 2 1 + 1)) o ∧ 0 ≤ 0 ∧ 0 ≤ 0)
    rw [ifp_f (h1)] at hΦ
    first | exact br1a (eR (hΦ _ _ (rO_t hM (by decide) (by decide)))) | exact br1b (eR (hΦ _ _ (rO_t hM (by decide) (by decide))))
  replace h1 := pI_1.mp h1
  refine ⟨trivial, fCi htr (r_bad0 hth _ _) (by omega) ?_⟩
  show ((0 : Int32) = 0 → mWB l g d k_X12_listen Φ 0 0 37 [.ref 0, .int w, .int (-1 : Int32), .int (-1 : Int32), .int (0 : Int32), mJ, mJ, mJ, mJ] [] M o 0 0) ∧ (¬ (0 : Int32) = 0 → Φ (.inl (some (.int (0 : Int32)))) M o ∧ 0 ≤ 0 ∧ 0 ≤ 0)
  rw [ifp_t (h1)] at hΦ
  first | refine br0a ?_ | refine br0b ?_
  refine mLoopZ (P := fun s => ∀ m, Cn A m → mWB l g d k_X12_listen Φ 0 0 37 [.ref 0, .int w, .int (aLs A s), .int (lst1 (wrs A) (aLs A s)), .int (nI s), mJ, mJ, mJ, mJ] [] m o 0 0) (N := nS A) (fun m hm => mGoOn (mOk (by decide)) rfl [37,66,90,104] 400 ?_) (fun s hi ih m hm => mGoOn (mOk (by decide)) rfl [37,66,90,104] 400 ?_) M hC
  · show ((m 4 0) ≤ (nI (nS A)) → (¬ w = 0 → Φ (.inl (some (.int (lst1 (wrs A) (aLs A (nS A)))))) m o ∧ 0 ≤ 0 ∧ 0 ≤ 0) ∧ (w = 0 → Φ (.inl (some (.int (aLs A (nS A))))) m o ∧ 0 ≤ 0 ∧ 0 ≤ 0)) ∧ (¬ (m 4 0) ≤ (nI (nS A)) → True ∧ mCal l g d k_X12_listen Φ 0 0 _ 51 k_X12_isTold false [.ref 0, .int (nI (nS A))] [] [.ref 0, .int w, .int (aLs A (nS A)), .int (lst1 (wrs A) (aLs A (nS A))), .int (nI (nS A)), mJ, mJ, mJ, mJ] m o 0 0 1)
    simp (disch := omega) only [mReq_tt, nI_0a, nI_a0, nI_cl, mIn_ok, lit_add, lit_sub, add_lit, lit_le, le_lit, lit_lt, lt_lit, eq_lit, nI_add, nI_1, nI_leI, nI_ltI, nI_eq, mIn_lit, mIn_0, mIn_1, mIn_2, mIn_3, nI_l0, nI_p0, rf_22, rf_44, rf_60, rf_69, rf_391, rf_7, rf_37, rf_51, rf_230, rf_401, rf_413, rf_496, rf_513, rf_518, sB_2, sB_3, sB_4, sB_5, sB_6, sB_7, sL_2, sL_3, sL_4, sL_5, sL_6, sL_7, not_true_eq_false, not_false_eq_true, false_implies, true_implies, true_and, and_true, eq_self, true_or, or_true, Nat.le_refl, Nat.zero_add, Nat.add_zero, clA hm.1, hN.1]
    exact ⟨fun q => hΦ _ _ (rO_k hm (by rw [if_neg q])), fun q => hΦ _ _ (rO_k hm (by rw [if_pos q]))⟩
  show ((m 4 0) ≤ (nI s) → (¬ w = 0 → Φ (.inl (some (.int (lst1 (wrs A) (aLs A s))))) m o ∧ 0 ≤ 0 ∧ 0 ≤ 0) ∧ (w = 0 → Φ (.inl (some (.int (aLs A s)))) m o ∧ 0 ≤ 0 ∧ 0 ≤ 0)) ∧ (¬ (m 4 0) ≤ (nI s) → True ∧ mCal l g d k_X12_listen Φ 0 0 _ 51 k_X12_isTold false [.ref 0, .int (nI s)] [] [.ref 0, .int w, .int (aLs A s), .int (lst1 (wrs A) (aLs A s)), .int (nI s), mJ, mJ, mJ, mJ] m o 0 0 1)
  have hf : ¬ nS A ≤ s := by omega
  simp (disch := omega) only [mReq_tt, nI_0a, nI_a0, nI_cl, mIn_ok, lit_add, lit_sub, add_lit, lit_le, le_lit, lit_lt, lt_lit, eq_lit, nI_add, nI_1, nI_leI, nI_ltI, nI_eq, mIn_lit, mIn_0, mIn_1, mIn_2, mIn_3, nI_l0, nI_p0, rf_22, rf_44, rf_60, rf_69, rf_391, rf_7, rf_37, rf_51, rf_230, rf_401, rf_413, rf_496, rf_513, rf_518, sB_2, sB_3, sB_4, sB_5, sB_6, sB_7, sL_2, sL_3, sL_4, sL_5, sL_6, sL_7, not_true_eq_false, not_false_eq_true, false_implies, true_implies, true_and, and_true, eq_self, true_or, or_true, Nat.le_refl, Nat.zero_add, Nat.add_zero, clA hm.1, hN.1, hf]
  have hsk : ¬ (PLs A s ∧ (aLs A s = -1 ∨ ¬ wrs A (aLs A s).toNatClampNeg ≤ wrs A s)) → ∀ m, Cn A m → mWB l g d k_X12_listen Φ 0 0 37 [.ref 0, .int w, .int (aLs A s), .int (lst1 (wrs A) (aLs A s)), .int (nI (s + 1)), mJ, mJ, mJ, mJ] [] m o 0 0 := fun q m hm => by
    have := ih m hm
    rw [show aLs A (s + 1) = aLs A s from amn_f q] at this
    exact this
  have htk : PLs A s → (aLs A s = -1 ∨ ¬ wrs A (aLs A s).toNatClampNeg ≤ wrs A s) → ∀ m, Cn A m → mWB l g d k_X12_listen Φ 0 0 37 [.ref 0, .int w, .int (nI s), .int (wrs A s), .int (nI (s + 1)), mJ, mJ, mJ, mJ] [] m o 0 0 := fun q q2 m hm => by
    have := ih m hm
    rw [show aLs A (s + 1) = nI s from amn_t q q2] at this
    unfold lst1 at this
    rw [if_neg (nI_m1 (by omega)), nI_cl (by omega)] at this
    exact this
  clear ih
  generalize aLs A s = B at hsk htk ⊢
  refine fCi htr (r_isTold hB hm.1 _) (by omega) ?_
  show ((pI (isT A (nI s))) = 0 → mWB l g d k_X12_listen Φ 0 0 66 [.ref 0, .int w, .int B, .int (lst1 (wrs A) B), .int (nI s), .int (0 : Int32), .int (0 : Int32), mJ, mJ] [] m o 0 0) ∧ (¬ (pI (isT A (nI s))) = 0 → mWB l g d k_X12_listen Φ 0 0 37 [.ref 0, .int w, .int B, .int (lst1 (wrs A) B), .int ((nI s) + (1 : Int32)), mJ, mJ, mJ, mJ] [] m o 0 0)
  rw [nI_1]
  refine and_sw (fun q => hsk (fun z => z.1 (pI_1.mp q)) m hm) (fun q => ?_)
  have hu : PLs A s := pI_0.mp q
  have men : ∀ m, Cn A m → (∀ j, j < 24 → m 583 j = 0) → mWB l g d k_X12_listen Φ 0 0 90 [.ref 0, .int w, .int B, .int (lst1 (wrs A) B), .int (nI s), .int (0 : Int32), .int (0 : Int32), mJ, mJ] [] m o 0 0 := by
    refine mLoopZ (P := fun a => ∀ m, Cn A m → (∀ j, j < 24 → m 583 j = (foL A s a).1 j) → mWB l g d k_X12_listen Φ 0 0 90 [.ref 0, .int w, .int B, .int (lst1 (wrs A) B), .int (nI s), .int ((foL A s a).2), .int (nI a), mJ, mJ] [] m o 0 0) (N := nM A) ?_ ?_
    · intro m hm _
      refine mGoOn (mOk (by decide)) rfl [37,66,90,104] 400 ?_
      show ((m 4 2) ≤ (nI (nM A)) → (B = (-1 : Int32) → mWB l g d k_X12_listen Φ 0 0 37 [.ref 0, .int w, .int (nI s), .int ((foL A s (nM A)).2), .int ((nI s) + (1 : Int32)), .int ((foL A s (nM A)).2), .int (nI (nM A)), mJ, mJ] [] m o 0 0) ∧ (¬ B = (-1 : Int32) → (((foL A s (nM A)).2) < (lst1 (wrs A) B) → mWB l g d k_X12_listen Φ 0 0 37 [.ref 0, .int w, .int (nI s), .int ((foL A s (nM A)).2), .int ((nI s) + (1 : Int32)), .int ((foL A s (nM A)).2), .int (nI (nM A)), mJ, mJ] [] m o 0 0) ∧ (¬ ((foL A s (nM A)).2) < (lst1 (wrs A) B) → mWB l g d k_X12_listen Φ 0 0 37 [.ref 0, .int w, .int B, .int (lst1 (wrs A) B), .int ((nI s) + (1 : Int32)), .int ((foL A s (nM A)).2), .int (nI (nM A)), mJ, mJ] [] m o 0 0))) ∧ (¬ (m 4 2) ≤ (nI (nM A)) → mWB l g d k_X12_listen Φ 0 0 104 [.ref 0, .int w, .int B, .int (lst1 (wrs A) B), .int (nI s), .int ((foL A s (nM A)).2), .int (nI (nM A)), .int (0 : Int32), mJ] [] m o 0 0)
      simp (disch := omega) only [mReq_tt, nI_0a, nI_a0, nI_cl, mIn_ok, lit_add, lit_sub, add_lit, lit_le, le_lit, lit_lt, lt_lit, eq_lit, nI_add, nI_1, nI_leI, nI_ltI, nI_eq, mIn_lit, mIn_0, mIn_1, mIn_2, mIn_3, nI_l0, nI_p0, rf_22, rf_44, rf_60, rf_69, rf_391, rf_7, rf_37, rf_51, rf_230, rf_401, rf_413, rf_496, rf_513, rf_518, sB_2, sB_3, sB_4, sB_5, sB_6, sB_7, sL_2, sL_3, sL_4, sL_5, sL_6, sL_7, not_true_eq_false, not_false_eq_true, false_implies, true_implies, true_and, and_true, eq_self, true_or, or_true, Nat.le_refl, Nat.zero_add, Nat.add_zero, clA hm.1, hN2.1]
      have tk := fun h2 => mWB_wk (htk hu h2 m hm) (L := [.ref 0, .int w, .int (nI s), .int (wrs A s), .int (nI (s + 1)), .int (wrs A s), .int (nI (nM A)), mJ, mJ]) ⟨Or.inr rfl, Or.inr rfl, Or.inr rfl, Or.inr rfl, Or.inr rfl, Or.inl rfl, Or.inl rfl, Or.inr rfl, Or.inr rfl, trivial⟩
      have sk := fun h2 => mWB_wk (hsk h2 m hm) (L := [.ref 0, .int w, .int B, .int (lst1 (wrs A) B), .int (nI (s + 1)), .int (wrs A s), .int (nI (nM A)), mJ, mJ]) ⟨Or.inr rfl, Or.inr rfl, Or.inr rfl, Or.inr rfl, Or.inr rfl, Or.inl rfl, Or.inl rfl, Or.inr rfl, Or.inr rfl, trivial⟩
      refine ⟨fun z => tk (Or.inl z), fun z => ?_⟩
      unfold lst1 at sk ⊢
      rw [if_neg z] at sk ⊢
      show ((wrs A s) < _ → _) ∧ _
      rw [← Int32.not_le]
      exact ⟨fun v => tk (Or.inr v), fun v => sk (fun e => e.2.elim z (fun e => v (Int32.not_le.mp e)))⟩
    · intro a ha ih m hm hT
      refine mGoOn (mOk (by decide)) rfl [37,66,90,104] 400 ?_
      show ((m 4 2) ≤ (nI a) → (B = (-1 : Int32) → mWB l g d k_X12_listen Φ 0 0 37 [.ref 0, .int w, .int (nI s), .int ((foL A s a).2), .int ((nI s) + (1 : Int32)), .int ((foL A s a).2), .int (nI a), mJ, mJ] [] m o 0 0) ∧ (¬ B = (-1 : Int32) → (((foL A s a).2) < (lst1 (wrs A) B) → mWB l g d k_X12_listen Φ 0 0 37 [.ref 0, .int w, .int (nI s), .int ((foL A s a).2), .int ((nI s) + (1 : Int32)), .int ((foL A s a).2), .int (nI a), mJ, mJ] [] m o 0 0) ∧ (¬ ((foL A s a).2) < (lst1 (wrs A) B) → mWB l g d k_X12_listen Φ 0 0 37 [.ref 0, .int w, .int B, .int (lst1 (wrs A) B), .int ((nI s) + (1 : Int32)), .int ((foL A s a).2), .int (nI a), mJ, mJ] [] m o 0 0))) ∧ (¬ (m 4 2) ≤ (nI a) → mWB l g d k_X12_listen Φ 0 0 104 [.ref 0, .int w, .int B, .int (lst1 (wrs A) B), .int (nI s), .int ((foL A s a).2), .int (nI a), .int (0 : Int32), mJ] [] m o 0 0)
      have hfa : ¬ nM A ≤ a := by omega
      simp (disch := omega) only [mReq_tt, nI_0a, nI_a0, nI_cl, mIn_ok, lit_add, lit_sub, add_lit, lit_le, le_lit, lit_lt, lt_lit, eq_lit, nI_add, nI_1, nI_leI, nI_ltI, nI_eq, mIn_lit, mIn_0, mIn_1, mIn_2, mIn_3, nI_l0, nI_p0, rf_22, rf_44, rf_60, rf_69, rf_391, rf_7, rf_37, rf_51, rf_230, rf_401, rf_413, rf_496, rf_513, rf_518, sB_2, sB_3, sB_4, sB_5, sB_6, sB_7, sL_2, sL_3, sL_4, sL_5, sL_6, sL_7, not_true_eq_false, not_false_eq_true, false_implies, true_implies, true_and, and_true, eq_self, true_or, or_true, Nat.le_refl, Nat.zero_add, Nat.add_zero, clA hm.1, hN2.1, hfa]
      rw [foL_s] at ih
      generalize foL A s a = t0 at ih hT ⊢
      refine mLoopZ (P := fun h => ∀ m, Cn A m → (∀ j, j < 24 → m 583 j = (fo (stL A s a) h t0).1 j) → mWB l g d k_X12_listen Φ 0 0 104 [.ref 0, .int w, .int B, .int (lst1 (wrs A) B), .int (nI s), .int ((fo (stL A s a) h t0).2), .int (nI a), .int (nI h), mJ] [] m o 0 0) (N := 24) ?_ ?_ m hm hT
      · intro m hm hT
        refine mGoOn (mOk (by decide)) rfl [37,66,90,104] 400 ?_
        show ((24 : Int32) ≤ (nI 24) → mWB l g d k_X12_listen Φ 0 0 90 [.ref 0, .int w, .int B, .int (lst1 (wrs A) B), .int (nI s), .int ((fo (stL A s a) 24 t0).2), .int ((nI a) + (1 : Int32)), .int (nI 24), mJ] [] m o 0 0) ∧ (¬ (24 : Int32) ≤ (nI 24) → True ∧ mCal l g d k_X12_listen Φ 0 0 _ 116 k_X12_isCaller false [.ref 0, .int (nI a), .int (nI 24)] [] [.ref 0, .int w, .int B, .int (lst1 (wrs A) B), .int (nI s), .int ((fo (stL A s a) 24 t0).2), .int (nI a), .int (nI 24), mJ] m o 0 0 1)
        simp (disch := omega) only [mReq_tt, nI_0a, nI_a0, nI_cl, mIn_ok, lit_add, lit_sub, add_lit, lit_le, le_lit, lit_lt, lt_lit, eq_lit, nI_add, nI_1, nI_leI, nI_ltI, nI_eq, mIn_lit, mIn_0, mIn_1, mIn_2, mIn_3, nI_l0, nI_p0, rf_22, rf_44, rf_60, rf_69, rf_391, rf_7, rf_37, rf_51, rf_230, rf_401, rf_413, rf_496, rf_513, rf_518, sB_2, sB_3, sB_4, sB_5, sB_6, sB_7, sL_2, sL_3, sL_4, sL_5, sL_6, sL_7, not_true_eq_false, not_false_eq_true, false_implies, true_implies, true_and, and_true, eq_self, true_or, or_true, Nat.le_refl, Nat.zero_add, Nat.add_zero]
        exact mWB_wk (ih m hm hT) ⟨Or.inr rfl, Or.inr rfl, Or.inr rfl, Or.inr rfl, Or.inr rfl, Or.inr rfl, Or.inr rfl, Or.inl rfl, Or.inr rfl, trivial⟩
      · intro h hh ih2 m hm hT
        refine mGoOn (mOk (by decide)) rfl [37,66,90,104] 400 ?_
        show ((24 : Int32) ≤ (nI h) → mWB l g d k_X12_listen Φ 0 0 90 [.ref 0, .int w, .int B, .int (lst1 (wrs A) B), .int (nI s), .int ((fo (stL A s a) h t0).2), .int ((nI a) + (1 : Int32)), .int (nI h), mJ] [] m o 0 0) ∧ (¬ (24 : Int32) ≤ (nI h) → True ∧ mCal l g d k_X12_listen Φ 0 0 _ 116 k_X12_isCaller false [.ref 0, .int (nI a), .int (nI h)] [] [.ref 0, .int w, .int B, .int (lst1 (wrs A) B), .int (nI s), .int ((fo (stL A s a) h t0).2), .int (nI a), .int (nI h), mJ] m o 0 0 1)
        have hfh : ¬ 24 ≤ h := by omega
        simp (disch := omega) only [mReq_tt, nI_0a, nI_a0, nI_cl, mIn_ok, lit_add, lit_sub, add_lit, lit_le, le_lit, lit_lt, lt_lit, eq_lit, nI_add, nI_1, nI_leI, nI_ltI, nI_eq, mIn_lit, mIn_0, mIn_1, mIn_2, mIn_3, nI_l0, nI_p0, rf_22, rf_44, rf_60, rf_69, rf_391, rf_7, rf_37, rf_51, rf_230, rf_401, rf_413, rf_496, rf_513, rf_518, sB_2, sB_3, sB_4, sB_5, sB_6, sB_7, sL_2, sL_3, sL_4, sL_5, sL_6, sL_7, not_true_eq_false, not_false_eq_true, false_implies, true_implies, true_and, and_true, eq_self, true_or, or_true, Nat.le_refl, Nat.zero_add, Nat.add_zero, hfh]
        refine nCi htr (r_isCaller hA hB hm.1 (by omega) ha _) (by omega) ?_
        intro v m2 hv
        have hm2 := eqK_Cn hv.2 hm
        rw [fo_s] at ih2
        show (¬ v = 0 → True ∧ mCal l g d k_X12_listen Φ 0 0 _ 136 k_X12_saysAt false [.ref 0, .ref 494, .int (nI a), .int (nI s), .int (nI h)] [] [.ref 0, .int w, .int B, .int (lst1 (wrs A) B), .int (nI s), .int ((fo (stL A s a) h t0).2), .int (nI a), .int (nI h), mJ] m2 o 0 0 1) ∧ (v = 0 → mWB l g d k_X12_listen Φ 0 0 104 [.ref 0, .int w, .int B, .int (lst1 (wrs A) B), .int (nI s), .int ((fo (stL A s a) h t0).2), .int (nI a), .int ((nI h) + (1 : Int32)), mJ] [] m2 o 0 0)
        rw [nI_1, hv.1]
        have hT2 : ∀ j, j < 24 → m2 583 j = (fo (stL A s a) h t0).1 j := fun j hj => by rw [hv.2 583 (by decide)]; exact hT j hj
        generalize fo (stL A s a) h t0 = t at ih2 hT2 ⊢
        unfold stL at ih2
        refine and_sw (fun q => ?_) (fun q => ?_)
        · rw [ifp_f (pI_0.mp q)] at ih2
          exact ih2 m2 hm2 hT2
        · rw [ifp_t (pI_1.mp q)] at ih2
          refine ⟨trivial, nCi htr (r_saysAt hA hm2.1 (by omega) row_494 ha (by omega) _) (by omega) ?_⟩
          intro x m3 hx
          have hm3 := eqK_Cn hx.2 hm2
          have hx1 : x = sayN A a s (nI h) := by rw [hx.1, clF hm2.1 (by omega)]; rfl
          have hc := In_cl (sayR_In A (A 494) a s (nI h)) (by omega)
          replace hc : sayN A a s (nI h) = nI (sayN A a s (nI h)).toNatClampNeg ∧ (sayN A a s (nI h)).toNatClampNeg < 24 := hc
          generalize (sayN A a s (nI h)).toNatClampNeg = c at hc ih2
          have hxc : x = nI c := hx1.trans hc.1
          subst hxc
          have hcl := hc.2
          show (Value.int (nI c)).category = 1 ∧ (Value.ref 583).category = 1 ∧ (mReq (mInB (nI c) 24) (mReq (mInB (nI c) 24) (mReq (mInB (nI c) 24) (mCal l g d k_X12_listen Φ 0 0 _ 161 k_X12_more false [.int t.2, .int ((mset m3 583 ((nI c).toNatClampNeg) ((m3 583 ((nI c).toNatClampNeg)) + (1 : Int32))) 583 ((nI c).toNatClampNeg))] [] [.ref 0, .int w, .int B, .int (lst1 (wrs A) B), .int (nI s), .int t.2, .int (nI a), .int (nI h), .int (nI c)] (mset m3 583 ((nI c).toNatClampNeg) ((m3 583 ((nI c).toNatClampNeg)) + (1 : Int32))) o 0 0 1))))
          refine ⟨rfl, rfl, ?_⟩
          simp (disch := omega) only [mReq_tt, nI_0a, nI_a0, nI_cl, mIn_ok, lit_add, lit_sub, add_lit, lit_le, le_lit, lit_lt, lt_lit, eq_lit, nI_add, nI_1, nI_leI, nI_ltI, nI_eq, mIn_lit, mIn_0, mIn_1, mIn_2, mIn_3, nI_l0, nI_p0, rf_22, rf_44, rf_60, rf_69, rf_391, rf_7, rf_37, rf_51, rf_230, rf_401, rf_413, rf_496, rf_513, rf_518, sB_2, sB_3, sB_4, sB_5, sB_6, sB_7, sL_2, sL_3, sL_4, sL_5, sL_6, sL_7, not_true_eq_false, not_false_eq_true, false_implies, true_implies, true_and, and_true, eq_self, true_or, or_true, Nat.le_refl, Nat.zero_add, Nat.add_zero]
          rw [mset_eq, pk_us]
          have e3 : m3 583 c = t.1 c := by rw [hx.2 583 (by decide)]; exact hT2 c hcl
          rw [e3]
          refine fCi htr (r_more _ _ _) (by omega) ?_
          show mWB l g d k_X12_listen Φ 0 0 104 [.ref 0, .int w, .int B, .int (lst1 (wrs A) B), .int (nI s), .int (if t.1 c + 1 < t.2 then t.2 else t.1 c + 1), .int (nI a), .int ((nI h) + (1 : Int32)), .int (nI c)] [] (mset m3 583 c (t.1 c + 1)) o 0 0
          rw [nI_1]
          refine mWB_wk (ih2 (mset m3 583 c (t.1 c + 1)) (cn_583 hm3 _ _) (fun j hj => ?_)) ⟨Or.inr rfl, Or.inr rfl, Or.inr rfl, Or.inr rfl, Or.inr rfl, Or.inr rfl, Or.inr rfl, Or.inr rfl, Or.inl rfl, trivial⟩
          rw [mset_eq]
          by_cases e : j = c
          · rw [e, pk_us]; exact pk_us.symm
          · rw [pk_un e, show (upd t.1 c (t.1 c + 1), if t.1 c + 1 < t.2 then t.2 else t.1 c + 1).1 j = t.1 j from pk_un e, hx.2 583 (by decide)]; exact hT2 j hj
  refine mLoopZ (P := fun h => ∀ m, Cn A m → (∀ j, j < h → m 583 j = 0) → mWB l g d k_X12_listen Φ 0 0 66 [.ref 0, .int w, .int B, .int (lst1 (wrs A) B), .int (nI s), .int (0 : Int32), .int (nI h), mJ, mJ] [] m o 0 0) (N := 24) ?_ ?_ m hm (fun j hj => by omega)
  · intro m hm hT
    refine mGoOn (mOk (by decide)) rfl [37,66,90,104] 400 ?_
    show ((24 : Int32) ≤ (nI 24) → mWB l g d k_X12_listen Φ 0 0 90 [.ref 0, .int w, .int B, .int (lst1 (wrs A) B), .int (nI s), .int (0 : Int32), .int (0 : Int32), mJ, mJ] [] m o 0 0) ∧ (¬ (24 : Int32) ≤ (nI 24) → mReq (mInB (nI 24) 24) (mWB l g d k_X12_listen Φ 0 0 66 [.ref 0, .int w, .int B, .int (lst1 (wrs A) B), .int (nI s), .int (0 : Int32), .int ((nI 24) + (1 : Int32)), mJ, mJ] [] (mset m 583 ((nI 24).toNatClampNeg) (0 : Int32)) o 0 0))
    simp (disch := omega) only [mReq_tt, nI_0a, nI_a0, nI_cl, mIn_ok, lit_add, lit_sub, add_lit, lit_le, le_lit, lit_lt, lt_lit, eq_lit, nI_add, nI_1, nI_leI, nI_ltI, nI_eq, mIn_lit, mIn_0, mIn_1, mIn_2, mIn_3, nI_l0, nI_p0, rf_22, rf_44, rf_60, rf_69, rf_391, rf_7, rf_37, rf_51, rf_230, rf_401, rf_413, rf_496, rf_513, rf_518, sB_2, sB_3, sB_4, sB_5, sB_6, sB_7, sL_2, sL_3, sL_4, sL_5, sL_6, sL_7, not_true_eq_false, not_false_eq_true, false_implies, true_implies, true_and, and_true, eq_self, true_or, or_true, Nat.le_refl, Nat.zero_add, Nat.add_zero]
    exact men m hm hT
  · intro h hh ih m hm hT
    refine mGoOn (mOk (by decide)) rfl [37,66,90,104] 400 ?_
    show ((24 : Int32) ≤ (nI h) → mWB l g d k_X12_listen Φ 0 0 90 [.ref 0, .int w, .int B, .int (lst1 (wrs A) B), .int (nI s), .int (0 : Int32), .int (0 : Int32), mJ, mJ] [] m o 0 0) ∧ (¬ (24 : Int32) ≤ (nI h) → mReq (mInB (nI h) 24) (mWB l g d k_X12_listen Φ 0 0 66 [.ref 0, .int w, .int B, .int (lst1 (wrs A) B), .int (nI s), .int (0 : Int32), .int ((nI h) + (1 : Int32)), mJ, mJ] [] (mset m 583 ((nI h).toNatClampNeg) (0 : Int32)) o 0 0))
    have hfh : ¬ 24 ≤ h := by omega
    simp (disch := omega) only [mReq_tt, nI_0a, nI_a0, nI_cl, mIn_ok, lit_add, lit_sub, add_lit, lit_le, le_lit, lit_lt, lt_lit, eq_lit, nI_add, nI_1, nI_leI, nI_ltI, nI_eq, mIn_lit, mIn_0, mIn_1, mIn_2, mIn_3, nI_l0, nI_p0, rf_22, rf_44, rf_60, rf_69, rf_391, rf_7, rf_37, rf_51, rf_230, rf_401, rf_413, rf_496, rf_513, rf_518, sB_2, sB_3, sB_4, sB_5, sB_6, sB_7, sL_2, sL_3, sL_4, sL_5, sL_6, sL_7, not_true_eq_false, not_false_eq_true, false_implies, true_implies, true_and, and_true, eq_self, true_or, or_true, Nat.le_refl, Nat.zero_add, Nat.add_zero, hfh]
    refine ih _ (cn_583 hm _ _) (fun j hj => ?_)
    rw [mset_eq]
    by_cases e : j = h
    · rw [e, pk_us]
    · rw [pk_un e]; exact hT j (by omega)
end R16
