set_option maxRecDepth 100000
/-! THE REFERENCE'S QUERIES: the least of some -/
/-- the first of those for which f is least; -1: none -/
noncomputable def amn (P : Nat → Prop) (f : Nat → Int32) : Nat → Int32
  | 0 => -1
  | n + 1 => ifp (P n ∧ (amn P f n = -1 ∨ ¬ f (amn P f n).toNatClampNeg ≤ f n)) (nI n) (amn P f n)
theorem amn_t {P : Nat → Prop} {f : Nat → Int32} {n : Nat} (h : P n) (h2 : amn P f n = -1 ∨ ¬ f (amn P f n).toNatClampNeg ≤ f n) : amn P f (n + 1) = nI n := ifp_t ⟨h, h2⟩
theorem amn_f {P : Nat → Prop} {f : Nat → Int32} {n : Nat} (h : ¬ (P n ∧ (amn P f n = -1 ∨ ¬ f (amn P f n).toNatClampNeg ≤ f n))) : amn P f (n + 1) = amn P f n := ifp_f h
theorem amn_In (P : Nat → Prop) (f : Nat → Int32) : ∀ n, amn P f n = -1 ∨ ∃ k, k < n ∧ amn P f n = nI k ∧ P k
  | 0 => Or.inl rfl
  | n + 1 => by
    by_cases h : P n ∧ (amn P f n = -1 ∨ ¬ f (amn P f n).toNatClampNeg ≤ f n)
    · exact Or.inr ⟨n, by omega, amn_t h.1 h.2, h.1⟩
    · rw [amn_f h]
      rcases amn_In P f n with q | ⟨k, hk, q, q2⟩
      · exact Or.inl q
      · exact Or.inr ⟨k, by omega, q, q2⟩
theorem In_cl {x : Int32} {n : Nat} (h : In x n) (hn : n < 2 ^ 31) : x = nI x.toNatClampNeg ∧ x.toNatClampNeg < n := by
  obtain ⟨k, hk, rfl⟩ := h
  rw [nI_cl (by omega)]
  exact ⟨rfl, hk⟩
/-- far from where the man stands -/
noncomputable def fM (A : Mm) (k : Nat) : Nat → Int32 := fl A (aS A) (A 494 k).toNatClampNeg (nS A)
noncomputable def aNr (A : Mm) (k : Nat) (h : Int32) : Int32 := amn (fun s => fM A k s ≠ -1 ∧ sayN A k s (A 494 35) = h) (fM A k) (nS A)
noncomputable def vNr (A : Mm) (k : Nat) (h w : Int32) : Int32 := if w = 1 ∨ aNr A k h = -1 then aNr A k h else fM A k (aNr A k h).toNatClampNeg
noncomputable def qNr (A : Mm) (k h w : Int32) : Oc := ifp (In k (nM A)) (ifp (In h 24 ∧ In w 2) (0, 0, vNr A k.toNatClampNeg h w) (2, 1, 0)) (1, 0, 0)
noncomputable def qRch (A : Mm) (k : Int32) : Oc := ifp (In k (nM A)) (0, 0, msk (fun s => ¬ fM A k.toNatClampNeg s = -1) (nS A)) (1, 0, 0)
noncomputable def qRng (A : Mm) (k : Int32) : Oc := ifp (In k (nM A)) (0, 0, uni (fun s => jshl 1 (sayN A k.toNatClampNeg s (A 494 35))) (nS A)) (1, 0, 0)
section R13
variable {l : Launch} {g : mG} {d : Nat} {A : Mm}
theorem r_sayNe (hA : Sv A) {m : Mm} (hm : Cn A m) (hd : 5 ≤ d) {k s : Nat} (hk : k < nM A) (hs : s < 9) : mHi l g d k_X12_saysIn [.ref 0, .ref 494, .int (nI k), .int (nI s)] m (fun x m2 => x = sayN A k s (A 494 35) ∧ eqL lK m m2) :=
  mHi_mono (r_saysIn hA hm.1 hd row_494 hk hs) (fun x m2 q => ⟨by rw [q.1, clF hm.1 (by omega)]; rfl, q.2⟩)
theorem r_late (hA : Sv A) (hR : Nt A (A 494)) {m : Mm} (hm : cl m = A) (hd : 6 ≤ d) (k : Int32) : mHi l g d k_X12_late [.ref 0, .int k] m (rO A (qLat A k)) := by
  have hN := hA.1.1
  have hN2 := hA.1.2.2.1
  refine nBi 1 rfl rfl rfl (by decide) rfl (fun htr o Φ hΦ => mGoOn (mOk (by decide)) rfl [] 400 ?_)
  show True ∧ mCal l g d k_X12_late Φ 0 0 _ 8 k_X12_isMan false [.ref 0, .int k] [.ref 0] [.ref 0, .int k, mJ] (mset m 0 0 (0 : Int32)) o 0 0 1
  have hC := Cn_0 hm
  generalize mset m 0 0 (0 : Int32) = M at hC ⊢
  clear hm
  obtain ⟨hM, hth⟩ := hC
  have hC : Cn A M := ⟨hM, hth⟩
  unfold qLat at hΦ
  refine ⟨trivial, fCi htr (r_isMan hA.1 hM (by omega) _) (by omega) ?_⟩
  show (¬ (pI (In k (nM A))) = 0 → True ∧ mCal l g d k_X12_late Φ 0 0 _ 21 k_X12_bad false [.ref 0, .int (0 : Int32), .int (1 : Int32), .int (0 : Int32)] [] [.ref 0, .int k, mJ] M o 0 0 1) ∧ ((pI (In k (nM A))) = 0 → True ∧ mCal l g d k_X12_late Φ 0 0 _ 21 k_X12_bad false [.ref 0, .int (1 : Int32), .int (1 : Int32), .int (0 : Int32)] [] [.ref 0, .int k, mJ] M o 0 0 1)
  refine and_sw (fun h1 => ?_) (fun h1 => ?_)
  · replace h1 := pI_0.mp h1
    refine ⟨trivial, fCi htr (r_bad1 hth (t := 1) (j := 0) (by decide) (by decide)) (by omega) ?_⟩
    show ((1 : Int32) = 0 → mReq (mInB ((0 : Int32) + k) 37) (True ∧ mCal l g d k_X12_late Φ 0 0 _ 43 k_X12_saysIn false [.ref 0, .ref 494, .int k, .int ((mset (mset M 0 0 1) 2 0 (M 2 0 + 1)) 494 (((0 : Int32) + k).toNatClampNeg))] [] [.ref 0, .int k, mJ] (mset (mset M 0 0 1) 2 0 (M 2 0 + 1)) o 0 0 1)) ∧ (¬ (1 : Int32) = 0 → Φ (.inl (some (.int (0 : Int32)))) (mset (mset M 0 0 1) 2 0 (M 2 0 + 1)) o ∧ 0 ≤ 0 ∧ 0 ≤ 0)
    rw [ifp_f (h1)] at hΦ
    first | exact br1a (eR (hΦ _ _ (rO_t hM (by decide) (by decide)))) | exact br1b (eR (hΦ _ _ (rO_t hM (by decide) (by decide))))
  replace h1 := pI_1.mp h1
  refine ⟨trivial, fCi htr (r_bad0 hth _ _) (by omega) ?_⟩
  show ((0 : Int32) = 0 → mReq (mInB ((0 : Int32) + k) 37) (True ∧ mCal l g d k_X12_late Φ 0 0 _ 43 k_X12_saysIn false [.ref 0, .ref 494, .int k, .int (M 494 (((0 : Int32) + k).toNatClampNeg))] [] [.ref 0, .int k, mJ] M o 0 0 1)) ∧ (¬ (0 : Int32) = 0 → Φ (.inl (some (.int (0 : Int32)))) M o ∧ 0 ≤ 0 ∧ 0 ≤ 0)
  rw [ifp_t (h1)] at hΦ
  first | refine br0a ?_ | refine br0b ?_
  obtain ⟨k, ha, rfl⟩ := h1
  have hs := In_cl (hR.1 k ha) (by omega)
  rw [nI_cl (by omega)] at hΦ
  simp (disch := omega) only [mReq_tt, nI_0a, nI_a0, nI_cl, mIn_ok, lit_add, lit_sub, add_lit, lit_le, le_lit, lit_lt, lt_lit, eq_lit, nI_add, nI_1, nI_leI, nI_ltI, nI_eq, mIn_lit, mIn_0, mIn_1, mIn_2, mIn_3, nI_l0, nI_p0, rf_22, rf_44, rf_60, rf_69, rf_391, rf_7, rf_37, rf_51, rf_230, rf_401, rf_413, rf_496, rf_513, rf_518, sB_2, sB_3, sB_4, sB_5, sB_6, sB_7, sL_2, sL_3, sL_4, sL_5, sL_6, sL_7, not_true_eq_false, not_false_eq_true, false_implies, true_implies, true_and, and_true, eq_self, true_or, or_true, Nat.le_refl, Nat.zero_add, Nat.add_zero, clA hM]
  rw [hs.1]
  refine nCi htr (r_sayN hA hC (by omega) ha (by omega)) (by omega) ?_
  intro x m2 hx
  show ¬ (24 : Int32) = 0 ∧ (mCal l g d k_X12_late Φ 0 0 _ 66 k_X12_less false [.int (jrem ((x - (m2 494 35)) + (24 : Int32)) (24 : Int32)), .int ((24 : Int32) - (jrem ((x - (m2 494 35)) + (24 : Int32)) (24 : Int32)))] [] [.ref 0, .int (nI k), .int (jrem ((x - (m2 494 35)) + (24 : Int32)) (24 : Int32))] m2 o 0 0 1)
  refine ⟨by decide, fCi htr (r_less _ _ _) (by omega) (eR (hΦ _ _ (rO_k hx.2 ?_)))⟩
  rw [hx.1, clA hx.2.1 35 (by omega)]
theorem r_nearest (hA : Sv A) (hR : Nt A (A 494)) {m : Mm} (hm : cl m = A) (hd : 7 ≤ d) (k h w : Int32) : mHi l g d k_X12_nearest [.ref 0, .int k, .int h, .int w] m (rO A (qNr A k h w)) := by
  have hN := hA.1.1
  have hN2 := hA.1.2.2.1
  refine nBi 2 rfl rfl rfl (by decide) rfl (fun htr o Φ hΦ => mGoOn (mOk (by decide)) rfl [81] 400 ?_)
  show True ∧ mCal l g d k_X12_nearest Φ 0 0 _ 8 k_X12_isMan false [.ref 0, .int k] [.ref 0] [.ref 0, .int k, .int h, .int w, mJ, mJ] (mset m 0 0 (0 : Int32)) o 0 0 1
  have hC := Cn_0 hm
  generalize mset m 0 0 (0 : Int32) = M at hC ⊢
  clear hm
  obtain ⟨hM, hth⟩ := hC
  have hC : Cn A M := ⟨hM, hth⟩
  unfold qNr at hΦ
  refine ⟨trivial, fCi htr (r_isMan hA.1 hM (by omega) _) (by omega) ?_⟩
  show (¬ (pI (In k (nM A))) = 0 → True ∧ mCal l g d k_X12_nearest Φ 0 0 _ 21 k_X12_bad false [.ref 0, .int (0 : Int32), .int (1 : Int32), .int (0 : Int32)] [] [.ref 0, .int k, .int h, .int w, mJ, mJ] M o 0 0 1) ∧ ((pI (In k (nM A))) = 0 → True ∧ mCal l g d k_X12_nearest Φ 0 0 _ 21 k_X12_bad false [.ref 0, .int (1 : Int32), .int (1 : Int32), .int (0 : Int32)] [] [.ref 0, .int k, .int h, .int w, mJ, mJ] M o 0 0 1)
  refine and_sw (fun h1 => ?_) (fun h1 => ?_)
  · replace h1 := pI_0.mp h1
    refine ⟨trivial, fCi htr (r_bad1 hth (t := 1) (j := 0) (by decide) (by decide)) (by omega) ?_⟩
    show (¬ (1 : Int32) = 0 → Φ (.inl (some (.int (0 : Int32)))) (mset (mset M 0 0 1) 2 0 (M 2 0 + 1)) o ∧ 0 ≤ 0 ∧ 0 ≤ 0) ∧ ((1 : Int32) = 0 → mCal l g d k_X12_nearest Φ 0 0 _ 29 k_X12_isHour false [.int h] [.ref 0] [.ref 0, .int k, .int h, .int w, mJ, mJ] (mset (mset M 0 0 1) 2 0 (M 2 0 + 1)) o 0 0 1)
    rw [ifp_f (h1)] at hΦ
    first | exact br1a (eR (hΦ _ _ (rO_t hM (by decide) (by decide)))) | exact br1b (eR (hΦ _ _ (rO_t hM (by decide) (by decide))))
  replace h1 := pI_1.mp h1
  refine ⟨trivial, fCi htr (r_bad0 hth _ _) (by omega) ?_⟩
  show (¬ (0 : Int32) = 0 → Φ (.inl (some (.int (0 : Int32)))) M o ∧ 0 ≤ 0 ∧ 0 ≤ 0) ∧ ((0 : Int32) = 0 → mCal l g d k_X12_nearest Φ 0 0 _ 29 k_X12_isHour false [.int h] [.ref 0] [.ref 0, .int k, .int h, .int w, mJ, mJ] M o 0 0 1)
  rw [ifp_t (h1)] at hΦ
  first | refine br0a ?_ | refine br0b ?_
  refine fCi htr (r_isHour (by omega) _) (by omega) ?_
  show ((pI (In h 24)) = 0 → True ∧ mCal l g d k_X12_nearest Φ 0 0 _ 51 k_X12_bad false [.ref 0, .int (1 : Int32), .int (2 : Int32), .int (1 : Int32)] [] [.ref 0, .int k, .int h, .int w, mJ, mJ] M o 0 0 1) ∧ (¬ (pI (In h 24)) = 0 → mCal l g d k_X12_nearest Φ 0 0 _ 38 k_X12_in false [.int w, .int (0 : Int32), .int (1 : Int32)] [.ref 0] [.ref 0, .int k, .int h, .int w, mJ, mJ] M o 0 0 1)
  refine ⟨fun h2 => ?_, fun h2 => ?_⟩
  · replace h2 := pI_0.mp h2
    refine ⟨trivial, fCi htr (r_bad1 hth (t := 2) (j := 1) (by decide) (by decide)) (by omega) ?_⟩
    show ((1 : Int32) = 0 → mReq (mInB ((0 : Int32) + k) 37) (True ∧ mCal l g d k_X12_nearest Φ 0 0 _ 72 k_X12_all false [.ref 0] [.int ((mset (mset M 0 0 2) 2 1 (M 2 1 + 1)) 494 (((0 : Int32) + k).toNatClampNeg)), .ref 0] [.ref 0, .int k, .int h, .int w, .int (-1 : Int32), mJ] (mset (mset M 0 0 2) 2 1 (M 2 1 + 1)) o 0 0 1)) ∧ (¬ (1 : Int32) = 0 → Φ (.inl (some (.int (0 : Int32)))) (mset (mset M 0 0 2) 2 1 (M 2 1 + 1)) o ∧ 0 ≤ 0 ∧ 0 ≤ 0)
    rw [ifp_f (fun z => h2 z.1)] at hΦ
    first | exact br1a (eR (hΦ _ _ (rO_t hM (by decide) (by decide)))) | exact br1b (eR (hΦ _ _ (rO_t hM (by decide) (by decide))))
  replace h2 := pI_1.mp h2
  refine fCi htr (r_inB (n := 2) (by omega) rfl) (by omega) ?_
  show (¬ (pI (In w 2)) = 0 → True ∧ mCal l g d k_X12_nearest Φ 0 0 _ 51 k_X12_bad false [.ref 0, .int (0 : Int32), .int (2 : Int32), .int (1 : Int32)] [] [.ref 0, .int k, .int h, .int w, mJ, mJ] M o 0 0 1) ∧ ((pI (In w 2)) = 0 → True ∧ mCal l g d k_X12_nearest Φ 0 0 _ 51 k_X12_bad false [.ref 0, .int (1 : Int32), .int (2 : Int32), .int (1 : Int32)] [] [.ref 0, .int k, .int h, .int w, mJ, mJ] M o 0 0 1)
  refine and_sw (fun h3 => ?_) (fun h3 => ?_)
  · replace h3 := pI_0.mp h3
    refine ⟨trivial, fCi htr (r_bad1 hth (t := 2) (j := 1) (by decide) (by decide)) (by omega) ?_⟩
    show ((1 : Int32) = 0 → mReq (mInB ((0 : Int32) + k) 37) (True ∧ mCal l g d k_X12_nearest Φ 0 0 _ 72 k_X12_all false [.ref 0] [.int ((mset (mset M 0 0 2) 2 1 (M 2 1 + 1)) 494 (((0 : Int32) + k).toNatClampNeg)), .ref 0] [.ref 0, .int k, .int h, .int w, .int (-1 : Int32), mJ] (mset (mset M 0 0 2) 2 1 (M 2 1 + 1)) o 0 0 1)) ∧ (¬ (1 : Int32) = 0 → Φ (.inl (some (.int (0 : Int32)))) (mset (mset M 0 0 2) 2 1 (M 2 1 + 1)) o ∧ 0 ≤ 0 ∧ 0 ≤ 0)
    rw [ifp_f (fun z => h3 z.2)] at hΦ
    first | exact br1a (eR (hΦ _ _ (rO_t hM (by decide) (by decide)))) | exact br1b (eR (hΦ _ _ (rO_t hM (by decide) (by decide))))
  replace h3 := pI_1.mp h3
  refine ⟨trivial, fCi htr (r_bad0 hth _ _) (by omega) ?_⟩
  show ((0 : Int32) = 0 → mReq (mInB ((0 : Int32) + k) 37) (True ∧ mCal l g d k_X12_nearest Φ 0 0 _ 72 k_X12_all false [.ref 0] [.int (M 494 (((0 : Int32) + k).toNatClampNeg)), .ref 0] [.ref 0, .int k, .int h, .int w, .int (-1 : Int32), mJ] M o 0 0 1)) ∧ (¬ (0 : Int32) = 0 → Φ (.inl (some (.int (0 : Int32)))) M o ∧ 0 ≤ 0 ∧ 0 ≤ 0)
  rw [ifp_t (⟨h2, h3⟩)] at hΦ
  first | refine br0a ?_ | refine br0b ?_
  obtain ⟨k, ha, rfl⟩ := h1
  have hs := In_cl (hR.1 k ha) (by omega)
  rw [nI_cl (by omega)] at hΦ
  simp (disch := omega) only [mReq_tt, nI_0a, nI_a0, nI_cl, mIn_ok, lit_add, lit_sub, add_lit, lit_le, le_lit, lit_lt, lt_lit, eq_lit, nI_add, nI_1, nI_leI, nI_ltI, nI_eq, mIn_lit, mIn_0, mIn_1, mIn_2, mIn_3, nI_l0, nI_p0, rf_22, rf_44, rf_60, rf_69, rf_391, rf_7, rf_37, rf_51, rf_230, rf_401, rf_413, rf_496, rf_513, rf_518, sB_2, sB_3, sB_4, sB_5, sB_6, sB_7, sL_2, sL_3, sL_4, sL_5, sL_6, sL_7, not_true_eq_false, not_false_eq_true, false_implies, true_implies, true_and, and_true, eq_self, true_or, or_true, Nat.le_refl, Nat.zero_add, Nat.add_zero, clA hM]
  refine fCi htr (r_all hA.1 hM) (by omega) ?_
  rw [hs.1]
  refine ⟨trivial, nCv htr (r_laysFar hA.1 hM (by omega) (by omega) _) (by omega) ?_⟩
  intro m2 ⟨hf1, hf2⟩
  replace hf2 : ∀ s, s < nS A → m2 517 s = fM A k s := hf2
  replace hC := eqF_Cn hf1 hC
  show mWB l g d k_X12_nearest Φ 0 0 81 [.ref 0, .int (nI k), .int h, .int w, .int (-1 : Int32), .int (0 : Int32)] [] m2 o 0 0
  refine mLoopZ (P := fun s => ∀ m', eqL lK m2 m' → mWB l g d k_X12_nearest Φ 0 0 81 [.ref 0, .int (nI k), .int h, .int w, .int (amn (fun s => fM A k s ≠ -1 ∧ sayN A k s (A 494 35) = h) (fM A k) s), .int (nI s)] [] m' o 0 0) (N := nS A) (fun m' he => mGoOn (mOk (by decide)) rfl [81] 400 ?_) (fun s hi ih m' he => mGoOn (mOk (by decide)) rfl [81] 400 ?_) m2 (eqL_refl _ _)
  · show ((m' 4 0) ≤ (nI (nS A)) → (w = (1 : Int32) → Φ (.inl (some (.int (amn (fun s => fM A k s ≠ -1 ∧ sayN A k s (A 494 35) = h) (fM A k) (nS A))))) m' o ∧ 0 ≤ 0 ∧ 0 ≤ 0) ∧ (¬ w = (1 : Int32) → (¬ (amn (fun s => fM A k s ≠ -1 ∧ sayN A k s (A 494 35) = h) (fM A k) (nS A)) = (-1 : Int32) → mReq (mInB (amn (fun s => fM A k s ≠ -1 ∧ sayN A k s (A 494 35) = h) (fM A k) (nS A)) 9) (Φ (.inl (some (.int (m' 517 ((amn (fun s => fM A k s ≠ -1 ∧ sayN A k s (A 494 35) = h) (fM A k) (nS A)).toNatClampNeg))))) m' o ∧ 0 ≤ 0 ∧ 0 ≤ 0)) ∧ ((amn (fun s => fM A k s ≠ -1 ∧ sayN A k s (A 494 35) = h) (fM A k) (nS A)) = (-1 : Int32) → Φ (.inl (some (.int (amn (fun s => fM A k s ≠ -1 ∧ sayN A k s (A 494 35) = h) (fM A k) (nS A))))) m' o ∧ 0 ≤ 0 ∧ 0 ≤ 0))) ∧ (¬ (m' 4 0) ≤ (nI (nS A)) → mReq (mInB (nI (nS A)) 9) (((m' 517 ((nI (nS A)).toNatClampNeg)) = (-1 : Int32) → mWB l g d k_X12_nearest Φ 0 0 81 [.ref 0, .int (nI k), .int h, .int w, .int (amn (fun s => fM A k s ≠ -1 ∧ sayN A k s (A 494 35) = h) (fM A k) (nS A)), .int ((nI (nS A)) + (1 : Int32))] [] m' o 0 0) ∧ (¬ (m' 517 ((nI (nS A)).toNatClampNeg)) = (-1 : Int32) → True ∧ mCal l g d k_X12_nearest Φ 0 0 _ 111 k_X12_saysIn false [.ref 0, .ref 494, .int (nI k), .int (nI (nS A))] [] [.ref 0, .int (nI k), .int h, .int w, .int (amn (fun s => fM A k s ≠ -1 ∧ sayN A k s (A 494 35) = h) (fM A k) (nS A)), .int (nI (nS A))] m' o 0 0 1)))
    have hm' := eqK_Cn he hC
    simp (disch := omega) only [mReq_tt, nI_0a, nI_a0, nI_cl, mIn_ok, lit_add, lit_sub, add_lit, lit_le, le_lit, lit_lt, lt_lit, eq_lit, nI_add, nI_1, nI_leI, nI_ltI, nI_eq, mIn_lit, mIn_0, mIn_1, mIn_2, mIn_3, nI_l0, nI_p0, rf_22, rf_44, rf_60, rf_69, rf_391, rf_7, rf_37, rf_51, rf_230, rf_401, rf_413, rf_496, rf_513, rf_518, sB_2, sB_3, sB_4, sB_5, sB_6, sB_7, sL_2, sL_3, sL_4, sL_5, sL_6, sL_7, not_true_eq_false, not_false_eq_true, false_implies, true_implies, true_and, and_true, eq_self, true_or, or_true, Nat.le_refl, Nat.zero_add, Nat.add_zero, clA hm'.1, hN.1]
    have h517 : m' 517 = m2 517 := he 517 (by decide)
    unfold vNr aNr at hΦ
    have hin := amn_In (fun s => fM A k s ≠ -1 ∧ sayN A k s (A 494 35) = h) (fM A k) (nS A)
    generalize hB : amn (fun s => fM A k s ≠ -1 ∧ sayN A k s (A 494 35) = h) (fM A k) (nS A) = B at hΦ hin ⊢
    refine ⟨fun q => ?_, fun q => ⟨fun z => ?_, fun z => ?_⟩⟩
    · rw [if_pos (Or.inl q)] at hΦ
      exact hΦ _ _ (rO_k hm' rfl)
    · rw [if_neg (fun y => y.elim q z)] at hΦ
      obtain ⟨b, hb, rfl, _⟩ := hin.resolve_left z
      simp (disch := omega) only [mReq_tt, nI_0a, nI_a0, nI_cl, mIn_ok, lit_add, lit_sub, add_lit, lit_le, le_lit, lit_lt, lt_lit, eq_lit, nI_add, nI_1, nI_leI, nI_ltI, nI_eq, mIn_lit, mIn_0, mIn_1, mIn_2, mIn_3, nI_l0, nI_p0, rf_22, rf_44, rf_60, rf_69, rf_391, rf_7, rf_37, rf_51, rf_230, rf_401, rf_413, rf_496, rf_513, rf_518, sB_2, sB_3, sB_4, sB_5, sB_6, sB_7, sL_2, sL_3, sL_4, sL_5, sL_6, sL_7, not_true_eq_false, not_false_eq_true, false_implies, true_implies, true_and, and_true, eq_self, true_or, or_true, Nat.le_refl, Nat.zero_add, Nat.add_zero]
      rw [nI_cl (by omega)] at hΦ
      rw [h517, hf2 b hb]
      exact hΦ _ _ (rO_k hm' rfl)
    · rw [if_pos (Or.inr z)] at hΦ
      exact hΦ _ _ (rO_k hm' rfl)
  show ((m' 4 0) ≤ (nI s) → (w = (1 : Int32) → Φ (.inl (some (.int (amn (fun s => fM A k s ≠ -1 ∧ sayN A k s (A 494 35) = h) (fM A k) s)))) m' o ∧ 0 ≤ 0 ∧ 0 ≤ 0) ∧ (¬ w = (1 : Int32) → (¬ (amn (fun s => fM A k s ≠ -1 ∧ sayN A k s (A 494 35) = h) (fM A k) s) = (-1 : Int32) → mReq (mInB (amn (fun s => fM A k s ≠ -1 ∧ sayN A k s (A 494 35) = h) (fM A k) s) 9) (Φ (.inl (some (.int (m' 517 ((amn (fun s => fM A k s ≠ -1 ∧ sayN A k s (A 494 35) = h) (fM A k) s).toNatClampNeg))))) m' o ∧ 0 ≤ 0 ∧ 0 ≤ 0)) ∧ ((amn (fun s => fM A k s ≠ -1 ∧ sayN A k s (A 494 35) = h) (fM A k) s) = (-1 : Int32) → Φ (.inl (some (.int (amn (fun s => fM A k s ≠ -1 ∧ sayN A k s (A 494 35) = h) (fM A k) s)))) m' o ∧ 0 ≤ 0 ∧ 0 ≤ 0))) ∧ (¬ (m' 4 0) ≤ (nI s) → mReq (mInB (nI s) 9) (((m' 517 ((nI s).toNatClampNeg)) = (-1 : Int32) → mWB l g d k_X12_nearest Φ 0 0 81 [.ref 0, .int (nI k), .int h, .int w, .int (amn (fun s => fM A k s ≠ -1 ∧ sayN A k s (A 494 35) = h) (fM A k) s), .int ((nI s) + (1 : Int32))] [] m' o 0 0) ∧ (¬ (m' 517 ((nI s).toNatClampNeg)) = (-1 : Int32) → True ∧ mCal l g d k_X12_nearest Φ 0 0 _ 111 k_X12_saysIn false [.ref 0, .ref 494, .int (nI k), .int (nI s)] [] [.ref 0, .int (nI k), .int h, .int w, .int (amn (fun s => fM A k s ≠ -1 ∧ sayN A k s (A 494 35) = h) (fM A k) s), .int (nI s)] m' o 0 0 1)))
  have hm' := eqK_Cn he hC
  have hf : ¬ nS A ≤ s := by omega
  simp (disch := omega) only [mReq_tt, nI_0a, nI_a0, nI_cl, mIn_ok, lit_add, lit_sub, add_lit, lit_le, le_lit, lit_lt, lt_lit, eq_lit, nI_add, nI_1, nI_leI, nI_ltI, nI_eq, mIn_lit, mIn_0, mIn_1, mIn_2, mIn_3, nI_l0, nI_p0, rf_22, rf_44, rf_60, rf_69, rf_391, rf_7, rf_37, rf_51, rf_230, rf_401, rf_413, rf_496, rf_513, rf_518, sB_2, sB_3, sB_4, sB_5, sB_6, sB_7, sL_2, sL_3, sL_4, sL_5, sL_6, sL_7, not_true_eq_false, not_false_eq_true, false_implies, true_implies, true_and, and_true, eq_self, true_or, or_true, Nat.le_refl, Nat.zero_add, Nat.add_zero, clA hm'.1, hN.1, hf]
  have h517 : m' 517 = m2 517 := he 517 (by decide)
  have hsk : ¬ ((fM A k s ≠ -1 ∧ sayN A k s (A 494 35) = h) ∧ (amn (fun s => fM A k s ≠ -1 ∧ sayN A k s (A 494 35) = h) (fM A k) s = -1 ∨ ¬ fM A k (amn (fun s => fM A k s ≠ -1 ∧ sayN A k s (A 494 35) = h) (fM A k) s).toNatClampNeg ≤ fM A k s)) → ∀ m', eqL lK m2 m' → mWB l g d k_X12_nearest Φ 0 0 81 [.ref 0, .int (nI k), .int h, .int w, .int (amn (fun s => fM A k s ≠ -1 ∧ sayN A k s (A 494 35) = h) (fM A k) s), .int (nI (s + 1))] [] m' o 0 0 := fun q m' he => by
    have := ih m' he
    rw [amn_f q] at this
    exact this
  have htk : (fM A k s ≠ -1 ∧ sayN A k s (A 494 35) = h) → (amn (fun s => fM A k s ≠ -1 ∧ sayN A k s (A 494 35) = h) (fM A k) s = -1 ∨ ¬ fM A k (amn (fun s => fM A k s ≠ -1 ∧ sayN A k s (A 494 35) = h) (fM A k) s).toNatClampNeg ≤ fM A k s) → ∀ m', eqL lK m2 m' → mWB l g d k_X12_nearest Φ 0 0 81 [.ref 0, .int (nI k), .int h, .int w, .int (nI s), .int (nI (s + 1))] [] m' o 0 0 := fun q q2 m' he => by
    have := ih m' he
    rw [amn_t q q2] at this
    exact this
  have hin := amn_In (fun s => fM A k s ≠ -1 ∧ sayN A k s (A 494 35) = h) (fM A k) s
  generalize hB : amn (fun s => fM A k s ≠ -1 ∧ sayN A k s (A 494 35) = h) (fM A k) s = B at hsk htk hin ⊢
  rw [h517, hf2 s hi]
  refine ⟨fun q => hsk (fun z => z.1.1 q) m' he, fun q => ?_⟩
  refine nCi htr (r_sayNe hA hm' (by omega) ha (by omega)) (by omega) ?_
  intro x m3 hx
  have he3 := eqL_trans he hx.2
  have h517 : m3 517 = m2 517 := he3 517 (by decide)
  show (¬ x = h → mWB l g d k_X12_nearest Φ 0 0 81 [.ref 0, .int (nI k), .int h, .int w, .int B, .int ((nI s) + (1 : Int32))] [] m3 o 0 0) ∧ (x = h → (B = (-1 : Int32) → mWB l g d k_X12_nearest Φ 0 0 81 [.ref 0, .int (nI k), .int h, .int w, .int (nI s), .int ((nI s) + (1 : Int32))] [] m3 o 0 0) ∧ (¬ B = (-1 : Int32) → mReq (mInB (nI s) 9) (mReq (mInB B 9) (((m3 517 B.toNatClampNeg) ≤ (m3 517 ((nI s).toNatClampNeg)) → mWB l g d k_X12_nearest Φ 0 0 81 [.ref 0, .int (nI k), .int h, .int w, .int B, .int ((nI s) + (1 : Int32))] [] m3 o 0 0) ∧ (¬ (m3 517 B.toNatClampNeg) ≤ (m3 517 ((nI s).toNatClampNeg)) → mWB l g d k_X12_nearest Φ 0 0 81 [.ref 0, .int (nI k), .int h, .int w, .int (nI s), .int ((nI s) + (1 : Int32))] [] m3 o 0 0)))))
  rw [nI_1, hx.1]
  refine ⟨fun z => hsk (fun y => z y.1.2) m3 he3, fun z => ⟨fun y => htk ⟨q, z⟩ (Or.inl y) m3 he3, fun y => ?_⟩⟩
  obtain ⟨b, hb, rfl, _⟩ := hin.resolve_left y
  simp (disch := omega) only [mReq_tt, nI_0a, nI_a0, nI_cl, mIn_ok, lit_add, lit_sub, add_lit, lit_le, le_lit, lit_lt, lt_lit, eq_lit, nI_add, nI_1, nI_leI, nI_ltI, nI_eq, mIn_lit, mIn_0, mIn_1, mIn_2, mIn_3, nI_l0, nI_p0, rf_22, rf_44, rf_60, rf_69, rf_391, rf_7, rf_37, rf_51, rf_230, rf_401, rf_413, rf_496, rf_513, rf_518, sB_2, sB_3, sB_4, sB_5, sB_6, sB_7, sL_2, sL_3, sL_4, sL_5, sL_6, sL_7, not_true_eq_false, not_false_eq_true, false_implies, true_implies, true_and, and_true, eq_self, true_or, or_true, Nat.le_refl, Nat.zero_add, Nat.add_zero]
  rw [nI_cl (by omega)] at hsk htk
  rw [h517, hf2 b (by omega), hf2 s hi]
  exact ⟨fun v => hsk (fun z => z.2.elim (fun e => absurd e (nI_m1 (by omega))) (fun e => e v)) m3 he3, fun v => htk ⟨q, z⟩ (Or.inr v) m3 he3⟩
end R13
