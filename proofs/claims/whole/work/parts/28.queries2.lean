set_option maxRecDepth 100000
/-! THE REFERENCE'S QUERIES, on -/
noncomputable def vMan (A : Mm) (k w : Nat) : Int32 := if w = 0 then A 494 k else if w = 3 then A 494 (6 + k) else if w = 4 then 1 - A 494 (12 + k) else A (45 + k) w
noncomputable def qMan (A : Mm) (k w : Int32) : Oc := ifp (In k (nM A)) (ifp (In w 5) (0, 0, vMan A k.toNatClampNeg w.toNatClampNeg) (2, 1, 0)) (1, 0, 0)
noncomputable def vSlp (A : Mm) (p w : Nat) : Int32 := if w < 2 then A (61 + p) w else A 494 (27 + p)
noncomputable def qSlp (A : Mm) (k w : Int32) : Oc := ifp (In k (nP A)) (ifp (In w 3) (0, 0, vSlp A k.toNatClampNeg w.toNatClampNeg) (2, 1, 0)) (1, 0, 0)
noncomputable def hrd (A : Mm) (s : Nat) : Int32 := if A 494 (18 + s) = 24 then -1 else A 494 (18 + s)
noncomputable def vStr (A : Mm) (s w : Nat) : Int32 := if w = 0 then A 6 s else if w = 1 then msk (fun k => Ln A (nI s) (nI k)) (nS A) else if w = 2 then msk (fun k => A 494 k = nI s) (nM A) else if w = 3 then msk (fun p => A (61 + p) 0 = nI s) (nP A) else hrd A s
noncomputable def qStr (A : Mm) (k w : Int32) : Oc := ifp (In k (nS A)) (ifp (In w 5) (0, 0, vStr A k.toNatClampNeg w.toNatClampNeg) (2, 1, 0)) (1, 0, 0)
noncomputable def vTld (A : Mm) (w : Nat) : Int32 := if w < 4 then A 4 w else if w = 4 then A 494 35 else if w = 5 then A 494 36 else if w = 6 then msk (fun k => A 494 (12 + k) = 0) (nM A) else if w = 7 then msk (fun k => A 494 (27 + k) = 1) (nP A) else if w = 8 then A 0 35 else if w = 9 then A 0 37 else sm (fun k => A 494 (6 + k)) (nM A)
noncomputable def qTld (A : Mm) (w : Int32) : Oc := ifp (In w 11) (0, 0, vTld A w.toNatClampNeg) (1, 1, 0)
noncomputable def qWld (A : Mm) (hope hour calls s men walks night heard : Int32) : Oc := ifp (In hope 24 ∧ In hour 24 ∧ In calls 1000 ∧ In s 9 ∧ In men 6 ∧ (1 ≤ walks ∧ walks ≤ 24) ∧ In night 301 ∧ In heard 25) (0, 0, wl A hope hour calls s men walks night heard) (1, 1, 0)
noncomputable def qSay (A : Mm) (k s : Int32) : Oc := ifp (In k (nM A) ∧ In s (nS A)) (0, 0, sayN A k.toNatClampNeg s.toNatClampNeg (A 494 35)) (1, 0, 0)
noncomputable def qWak (A : Mm) (k s : Int32) : Oc := ifp (In k (nM A) ∧ In s (nS A)) (0, 0, wkB A k.toNatClampNeg s.toNatClampNeg) (1, 0, 0)
/-- all streets -/
def aS (A : Mm) : Int32 := jshl 1 (nI (nS A)) - 1
noncomputable def snd (A : Mm) (h : Int32) : Int32 := msk (fun k => A 494 (18 + k) = h) (nS A)
noncomputable def qWay (A : Mm) (a b : Int32) : Oc := ifp (In a (nS A) ∧ In b (nS A)) (0, 0, fl A (aS A) a.toNatClampNeg (nS A) b.toNatClampNeg) (1, 0, 0)
noncomputable def qPst (A : Mm) (a b h : Int32) : Oc := ifp (In a (nS A) ∧ In b (nS A)) (ifp (In h 24) (0, 0, fl A (aS A &&& (snd A h ^^^ -1)) a.toNatClampNeg (nS A) b.toNatClampNeg) (2, 1, 0)) (1, 0, 0)
noncomputable def qSnd (A : Mm) (h : Int32) : Oc := ifp (In h 24) (0, 0, snd A h) (1, 1, 0)
/-- what is sure of a row of a night -/
def Nt (A : Mm) (R : Nat → Int32) : Prop := (∀ k, k < nM A → In (R k) (nS A)) ∧ (∀ k, k < 6 → In (R (12 + k)) 2) ∧ (∀ s, s < 9 → In (R (18 + s)) 25) ∧ (∀ p, p < 8 → In (R (27 + p)) 2) ∧ In (R 35) 24 ∧ (∀ k, nM A ≤ k → k < 6 → R (6 + k) = 0)
noncomputable def qLat (A : Mm) (k : Int32) : Oc := ifp (In k (nM A)) (0, 0,
  let n := jrem (sayN A k.toNatClampNeg (A 494 k.toNatClampNeg).toNatClampNeg (A 494 35) - A 494 35 + 24) 24
  if n < 24 - n then n else 24 - n) (1, 0, 0)
section R12
variable {l : Launch} {g : mG} {d : Nat} {A : Mm}
theorem r_man (hA : CtB A) {m : Mm} (hm : cl m = A) (hd : 3 ≤ d) (e w : Int32) : mHi l g d k_X12_man [.ref 0, .int e, .int w] m (rO A (qMan A e w)) := by
  have hN := hA.2.2.1
  refine nBi 0 rfl rfl rfl (by decide) rfl (fun htr o Φ hΦ => mGoOn (mOk (by decide)) rfl [] 400 ?_)
  show True ∧ mCal l g d k_X12_man Φ 0 0 _ 8 k_X12_isMan false [.ref 0, .int e] [.ref 0] [.ref 0, .int e, .int w] (mset m 0 0 (0 : Int32)) o 0 0 1
  have hC := Cn_0 hm
  generalize mset m 0 0 (0 : Int32) = M at hC ⊢
  clear hm
  obtain ⟨hM, hth⟩ := hC
  have hC : Cn A M := ⟨hM, hth⟩
  unfold qMan at hΦ
  refine ⟨trivial, fCi htr (r_isMan hA hM (by omega) _) (by omega) ?_⟩
  show (¬ (pI (In e (nM A))) = 0 → True ∧ mCal l g d k_X12_man Φ 0 0 _ 21 k_X12_bad false [.ref 0, .int (0 : Int32), .int (1 : Int32), .int (0 : Int32)] [] [.ref 0, .int e, .int w] M o 0 0 1) ∧ ((pI (In e (nM A))) = 0 → True ∧ mCal l g d k_X12_man Φ 0 0 _ 21 k_X12_bad false [.ref 0, .int (1 : Int32), .int (1 : Int32), .int (0 : Int32)] [] [.ref 0, .int e, .int w] M o 0 0 1)
  refine and_sw (fun h1 => ?_) (fun h1 => ?_)
  · replace h1 := pI_0.mp h1
    refine ⟨trivial, fCi htr (r_bad1 hth (t := 1) (j := 0) (by decide) (by decide)) (by omega) ?_⟩
    show (¬ (1 : Int32) = 0 → Φ (.inl (some (.int (0 : Int32)))) (mset (mset M 0 0 1) 2 0 (M 2 0 + 1)) o ∧ 0 ≤ 0 ∧ 0 ≤ 0) ∧ ((1 : Int32) = 0 → mCal l g d k_X12_man Φ 0 0 _ 31 k_X12_in false [.int w, .int (0 : Int32), .int (4 : Int32)] [.ref 0] [.ref 0, .int e, .int w] (mset (mset M 0 0 1) 2 0 (M 2 0 + 1)) o 0 0 1)
    rw [ifp_f (h1)] at hΦ
    first | exact br1a (eR (hΦ _ _ (rO_t hM (by decide) (by decide)))) | exact br1b (eR (hΦ _ _ (rO_t hM (by decide) (by decide))))
  replace h1 := pI_1.mp h1
  refine ⟨trivial, fCi htr (r_bad0 hth _ _) (by omega) ?_⟩
  show (¬ (0 : Int32) = 0 → Φ (.inl (some (.int (0 : Int32)))) M o ∧ 0 ≤ 0 ∧ 0 ≤ 0) ∧ ((0 : Int32) = 0 → mCal l g d k_X12_man Φ 0 0 _ 31 k_X12_in false [.int w, .int (0 : Int32), .int (4 : Int32)] [.ref 0] [.ref 0, .int e, .int w] M o 0 0 1)
  rw [ifp_t (h1)] at hΦ
  first | refine br0a ?_ | refine br0b ?_
  refine fCi htr (r_inB (n := 5) (by omega) rfl) (by omega) ?_
  show (¬ (pI (In w 5)) = 0 → True ∧ mCal l g d k_X12_man Φ 0 0 _ 44 k_X12_bad false [.ref 0, .int (0 : Int32), .int (2 : Int32), .int (1 : Int32)] [] [.ref 0, .int e, .int w] M o 0 0 1) ∧ ((pI (In w 5)) = 0 → True ∧ mCal l g d k_X12_man Φ 0 0 _ 44 k_X12_bad false [.ref 0, .int (1 : Int32), .int (2 : Int32), .int (1 : Int32)] [] [.ref 0, .int e, .int w] M o 0 0 1)
  refine and_sw (fun h2 => ?_) (fun h2 => ?_)
  · replace h2 := pI_0.mp h2
    refine ⟨trivial, fCi htr (r_bad1 hth (t := 2) (j := 1) (by decide) (by decide)) (by omega) ?_⟩
    show ((1 : Int32) = 0 → ((w.toInt = 0 → mReq (mInB ((0 : Int32) + e) 37) (Φ (.inl (some (.int ((mset (mset M 0 0 2) 2 1 (M 2 1 + 1)) 494 (((0 : Int32) + e).toNatClampNeg))))) (mset (mset M 0 0 2) 2 1 (M 2 1 + 1)) o ∧ 0 ≤ 0 ∧ 0 ≤ 0)) ∧ (w.toInt = 1 → mReq (mInB e 6) (mReq (mIsB (mRF 44 e.toNatClampNeg) 1) (mReq (mInB w (mLn (mRF 44 e.toNatClampNeg))) (Φ (.inl (some (.int ((mset (mset M 0 0 2) 2 1 (M 2 1 + 1)) (mRF 44 e.toNatClampNeg) w.toNatClampNeg)))) (mset (mset M 0 0 2) 2 1 (M 2 1 + 1)) o ∧ 0 ≤ 0 ∧ 0 ≤ 0)))) ∧ (w.toInt = 2 → mReq (mInB e 6) (mReq (mIsB (mRF 44 e.toNatClampNeg) 1) (mReq (mInB w (mLn (mRF 44 e.toNatClampNeg))) (Φ (.inl (some (.int ((mset (mset M 0 0 2) 2 1 (M 2 1 + 1)) (mRF 44 e.toNatClampNeg) w.toNatClampNeg)))) (mset (mset M 0 0 2) 2 1 (M 2 1 + 1)) o ∧ 0 ≤ 0 ∧ 0 ≤ 0)))) ∧ (w.toInt = 3 → mReq (mInB ((6 : Int32) + e) 37) (Φ (.inl (some (.int ((mset (mset M 0 0 2) 2 1 (M 2 1 + 1)) 494 (((6 : Int32) + e).toNatClampNeg))))) (mset (mset M 0 0 2) 2 1 (M 2 1 + 1)) o ∧ 0 ≤ 0 ∧ 0 ≤ 0)) ∧ (w.toInt = 4 → mReq (mInB ((12 : Int32) + e) 37) (Φ (.inl (some (.int ((1 : Int32) - ((mset (mset M 0 0 2) 2 1 (M 2 1 + 1)) 494 (((12 : Int32) + e).toNatClampNeg)))))) (mset (mset M 0 0 2) 2 1 (M 2 1 + 1)) o ∧ 0 ≤ 0 ∧ 0 ≤ 0)) ∧ True) ∧ (w.toInt < 0 ∨ 4 < w.toInt → mReq (mInB e 6) (mReq (mIsB (mRF 44 e.toNatClampNeg) 1) (mReq (mInB w (mLn (mRF 44 e.toNatClampNeg))) (Φ (.inl (some (.int ((mset (mset M 0 0 2) 2 1 (M 2 1 + 1)) (mRF 44 e.toNatClampNeg) w.toNatClampNeg)))) (mset (mset M 0 0 2) 2 1 (M 2 1 + 1)) o ∧ 0 ≤ 0 ∧ 0 ≤ 0))))) ∧ (¬ (1 : Int32) = 0 → Φ (.inl (some (.int (0 : Int32)))) (mset (mset M 0 0 2) 2 1 (M 2 1 + 1)) o ∧ 0 ≤ 0 ∧ 0 ≤ 0)
    rw [ifp_f (h2)] at hΦ
    first | exact br1a (eR (hΦ _ _ (rO_t hM (by decide) (by decide)))) | exact br1b (eR (hΦ _ _ (rO_t hM (by decide) (by decide))))
  replace h2 := pI_1.mp h2
  refine ⟨trivial, fCi htr (r_bad0 hth _ _) (by omega) ?_⟩
  show ((0 : Int32) = 0 → ((w.toInt = 0 → mReq (mInB ((0 : Int32) + e) 37) (Φ (.inl (some (.int (M 494 (((0 : Int32) + e).toNatClampNeg))))) M o ∧ 0 ≤ 0 ∧ 0 ≤ 0)) ∧ (w.toInt = 1 → mReq (mInB e 6) (mReq (mIsB (mRF 44 e.toNatClampNeg) 1) (mReq (mInB w (mLn (mRF 44 e.toNatClampNeg))) (Φ (.inl (some (.int (M (mRF 44 e.toNatClampNeg) w.toNatClampNeg)))) M o ∧ 0 ≤ 0 ∧ 0 ≤ 0)))) ∧ (w.toInt = 2 → mReq (mInB e 6) (mReq (mIsB (mRF 44 e.toNatClampNeg) 1) (mReq (mInB w (mLn (mRF 44 e.toNatClampNeg))) (Φ (.inl (some (.int (M (mRF 44 e.toNatClampNeg) w.toNatClampNeg)))) M o ∧ 0 ≤ 0 ∧ 0 ≤ 0)))) ∧ (w.toInt = 3 → mReq (mInB ((6 : Int32) + e) 37) (Φ (.inl (some (.int (M 494 (((6 : Int32) + e).toNatClampNeg))))) M o ∧ 0 ≤ 0 ∧ 0 ≤ 0)) ∧ (w.toInt = 4 → mReq (mInB ((12 : Int32) + e) 37) (Φ (.inl (some (.int ((1 : Int32) - (M 494 (((12 : Int32) + e).toNatClampNeg)))))) M o ∧ 0 ≤ 0 ∧ 0 ≤ 0)) ∧ True) ∧ (w.toInt < 0 ∨ 4 < w.toInt → mReq (mInB e 6) (mReq (mIsB (mRF 44 e.toNatClampNeg) 1) (mReq (mInB w (mLn (mRF 44 e.toNatClampNeg))) (Φ (.inl (some (.int (M (mRF 44 e.toNatClampNeg) w.toNatClampNeg)))) M o ∧ 0 ≤ 0 ∧ 0 ≤ 0))))) ∧ (¬ (0 : Int32) = 0 → Φ (.inl (some (.int (0 : Int32)))) M o ∧ 0 ≤ 0 ∧ 0 ≤ 0)
  rw [ifp_t (h2)] at hΦ
  first | refine br0a ?_ | refine br0b ?_
  obtain ⟨k, he, rfl⟩ := h1
  obtain ⟨w, hw, rfl⟩ := h2
  rw [nI_toInt (by omega)]
  rw [nI_cl (by omega), nI_cl (by omega)] at hΦ
  unfold vMan at hΦ
  refine ⟨⟨fun h => ?_, fun h => ?_, fun h => ?_, fun h => ?_, fun h => ?_, trivial⟩, fun h => by omega⟩
  · simp (disch := omega) only [mReq_tt, nI_0a, nI_a0, nI_cl, mIn_ok, lit_add, lit_sub, add_lit, lit_le, le_lit, lit_lt, lt_lit, eq_lit, nI_add, nI_1, nI_leI, nI_ltI, nI_eq, mIn_lit, mIn_0, mIn_1, mIn_2, mIn_3, nI_l0, nI_p0, rf_22, rf_44, rf_60, rf_69, rf_391, rf_7, rf_37, rf_51, rf_230, rf_401, rf_413, rf_496, rf_513, rf_518, sB_2, sB_3, sB_4, sB_5, sB_6, sB_7, sL_2, sL_3, sL_4, sL_5, sL_6, sL_7, not_true_eq_false, not_false_eq_true, false_implies, true_implies, true_and, and_true, eq_self, true_or, or_true, Nat.le_refl, Nat.zero_add, Nat.add_zero, clA hM]
    rw [if_pos (by omega)] at hΦ
    exact hΦ _ _ (rO_k hC rfl)
  · simp (disch := omega) only [mReq_tt, nI_0a, nI_a0, nI_cl, mIn_ok, lit_add, lit_sub, add_lit, lit_le, le_lit, lit_lt, lt_lit, eq_lit, nI_add, nI_1, nI_leI, nI_ltI, nI_eq, mIn_lit, mIn_0, mIn_1, mIn_2, mIn_3, nI_l0, nI_p0, rf_22, rf_44, rf_60, rf_69, rf_391, rf_7, rf_37, rf_51, rf_230, rf_401, rf_413, rf_496, rf_513, rf_518, sB_2, sB_3, sB_4, sB_5, sB_6, sB_7, sL_2, sL_3, sL_4, sL_5, sL_6, sL_7, not_true_eq_false, not_false_eq_true, false_implies, true_implies, true_and, and_true, eq_self, true_or, or_true, Nat.le_refl, Nat.zero_add, Nat.add_zero, clA hM]
    rw [if_neg (by omega), if_neg (by omega), if_neg (by omega)] at hΦ
    exact hΦ _ _ (rO_k hC rfl)
  · simp (disch := omega) only [mReq_tt, nI_0a, nI_a0, nI_cl, mIn_ok, lit_add, lit_sub, add_lit, lit_le, le_lit, lit_lt, lt_lit, eq_lit, nI_add, nI_1, nI_leI, nI_ltI, nI_eq, mIn_lit, mIn_0, mIn_1, mIn_2, mIn_3, nI_l0, nI_p0, rf_22, rf_44, rf_60, rf_69, rf_391, rf_7, rf_37, rf_51, rf_230, rf_401, rf_413, rf_496, rf_513, rf_518, sB_2, sB_3, sB_4, sB_5, sB_6, sB_7, sL_2, sL_3, sL_4, sL_5, sL_6, sL_7, not_true_eq_false, not_false_eq_true, false_implies, true_implies, true_and, and_true, eq_self, true_or, or_true, Nat.le_refl, Nat.zero_add, Nat.add_zero, clA hM]
    rw [if_neg (by omega), if_neg (by omega), if_neg (by omega)] at hΦ
    exact hΦ _ _ (rO_k hC rfl)
  · simp (disch := omega) only [mReq_tt, nI_0a, nI_a0, nI_cl, mIn_ok, lit_add, lit_sub, add_lit, lit_le, le_lit, lit_lt, lt_lit, eq_lit, nI_add, nI_1, nI_leI, nI_ltI, nI_eq, mIn_lit, mIn_0, mIn_1, mIn_2, mIn_3, nI_l0, nI_p0, rf_22, rf_44, rf_60, rf_69, rf_391, rf_7, rf_37, rf_51, rf_230, rf_401, rf_413, rf_496, rf_513, rf_518, sB_2, sB_3, sB_4, sB_5, sB_6, sB_7, sL_2, sL_3, sL_4, sL_5, sL_6, sL_7, not_true_eq_false, not_false_eq_true, false_implies, true_implies, true_and, and_true, eq_self, true_or, or_true, Nat.le_refl, Nat.zero_add, Nat.add_zero, clA hM]
    rw [if_neg (by omega), if_pos (by omega)] at hΦ
    exact hΦ _ _ (rO_k hC rfl)
  · simp (disch := omega) only [mReq_tt, nI_0a, nI_a0, nI_cl, mIn_ok, lit_add, lit_sub, add_lit, lit_le, le_lit, lit_lt, lt_lit, eq_lit, nI_add, nI_1, nI_leI, nI_ltI, nI_eq, mIn_lit, mIn_0, mIn_1, mIn_2, mIn_3, nI_l0, nI_p0, rf_22, rf_44, rf_60, rf_69, rf_391, rf_7, rf_37, rf_51, rf_230, rf_401, rf_413, rf_496, rf_513, rf_518, sB_2, sB_3, sB_4, sB_5, sB_6, sB_7, sL_2, sL_3, sL_4, sL_5, sL_6, sL_7, not_true_eq_false, not_false_eq_true, false_implies, true_implies, true_and, and_true, eq_self, true_or, or_true, Nat.le_refl, Nat.zero_add, Nat.add_zero, clA hM]
    rw [if_neg (by omega), if_neg (by omega), if_pos (by omega)] at hΦ
    exact hΦ _ _ (rO_k hC rfl)
theorem r_sleeper (hA : CtB A) {m : Mm} (hm : cl m = A) (hd : 3 ≤ d) (e w : Int32) : mHi l g d k_X12_sleeper [.ref 0, .int e, .int w] m (rO A (qSlp A e w)) := by
  have hN := hA.2.2.2
  refine nBi 0 rfl rfl rfl (by decide) rfl (fun htr o Φ hΦ => mGoOn (mOk (by decide)) rfl [] 400 ?_)
  show mCal l g d k_X12_sleeper Φ 0 0 _ 16 k_X12_in false [.int e, .int (0 : Int32), .int (((mset m 0 0 (0 : Int32)) 4 3) - (1 : Int32))] [.ref 0] [.ref 0, .int e, .int w] (mset m 0 0 (0 : Int32)) o 0 0 1
  have hC := Cn_0 hm
  generalize mset m 0 0 (0 : Int32) = M at hC ⊢
  clear hm
  obtain ⟨hM, hth⟩ := hC
  have hC : Cn A M := ⟨hM, hth⟩
  unfold qSlp at hΦ
  refine fCi htr (r_inB (n := nP A) (by omega) (by rw [clA hM 3 (by omega), hN.1])) (by omega) ?_
  show (¬ (pI (In e (nP A))) = 0 → True ∧ mCal l g d k_X12_sleeper Φ 0 0 _ 29 k_X12_bad false [.ref 0, .int (0 : Int32), .int (1 : Int32), .int (0 : Int32)] [] [.ref 0, .int e, .int w] M o 0 0 1) ∧ ((pI (In e (nP A))) = 0 → True ∧ mCal l g d k_X12_sleeper Φ 0 0 _ 29 k_X12_bad false [.ref 0, .int (1 : Int32), .int (1 : Int32), .int (0 : Int32)] [] [.ref 0, .int e, .int w] M o 0 0 1)
  refine and_sw (fun h1 => ?_) (fun h1 => ?_)
  · replace h1 := pI_0.mp h1
    refine ⟨trivial, fCi htr (r_bad1 hth (t := 1) (j := 0) (by decide) (by decide)) (by omega) ?_⟩
    show (¬ (1 : Int32) = 0 → Φ (.inl (some (.int (0 : Int32)))) (mset (mset M 0 0 1) 2 0 (M 2 0 + 1)) o ∧ 0 ≤ 0 ∧ 0 ≤ 0) ∧ ((1 : Int32) = 0 → mCal l g d k_X12_sleeper Φ 0 0 _ 39 k_X12_in false [.int w, .int (0 : Int32), .int (2 : Int32)] [.ref 0] [.ref 0, .int e, .int w] (mset (mset M 0 0 1) 2 0 (M 2 0 + 1)) o 0 0 1)
    rw [ifp_f (h1)] at hΦ
    first | exact br1a (eR (hΦ _ _ (rO_t hM (by decide) (by decide)))) | exact br1b (eR (hΦ _ _ (rO_t hM (by decide) (by decide))))
  replace h1 := pI_1.mp h1
  refine ⟨trivial, fCi htr (r_bad0 hth _ _) (by omega) ?_⟩
  show (¬ (0 : Int32) = 0 → Φ (.inl (some (.int (0 : Int32)))) M o ∧ 0 ≤ 0 ∧ 0 ≤ 0) ∧ ((0 : Int32) = 0 → mCal l g d k_X12_sleeper Φ 0 0 _ 39 k_X12_in false [.int w, .int (0 : Int32), .int (2 : Int32)] [.ref 0] [.ref 0, .int e, .int w] M o 0 0 1)
  rw [ifp_t (h1)] at hΦ
  first | refine br0a ?_ | refine br0b ?_
  refine fCi htr (r_inB (n := 3) (by omega) rfl) (by omega) ?_
  show (¬ (pI (In w 3)) = 0 → True ∧ mCal l g d k_X12_sleeper Φ 0 0 _ 52 k_X12_bad false [.ref 0, .int (0 : Int32), .int (2 : Int32), .int (1 : Int32)] [] [.ref 0, .int e, .int w] M o 0 0 1) ∧ ((pI (In w 3)) = 0 → True ∧ mCal l g d k_X12_sleeper Φ 0 0 _ 52 k_X12_bad false [.ref 0, .int (1 : Int32), .int (2 : Int32), .int (1 : Int32)] [] [.ref 0, .int e, .int w] M o 0 0 1)
  refine and_sw (fun h2 => ?_) (fun h2 => ?_)
  · replace h2 := pI_0.mp h2
    refine ⟨trivial, fCi htr (r_bad1 hth (t := 2) (j := 1) (by decide) (by decide)) (by omega) ?_⟩
    show ((1 : Int32) = 0 → ((2 : Int32) ≤ w → mReq (mInB ((27 : Int32) + e) 37) (Φ (.inl (some (.int ((mset (mset M 0 0 2) 2 1 (M 2 1 + 1)) 494 (((27 : Int32) + e).toNatClampNeg))))) (mset (mset M 0 0 2) 2 1 (M 2 1 + 1)) o ∧ 0 ≤ 0 ∧ 0 ≤ 0)) ∧ (¬ (2 : Int32) ≤ w → mReq (mInB e 8) (mReq (mIsB (mRF 60 e.toNatClampNeg) 1) (mReq (mInB w (mLn (mRF 60 e.toNatClampNeg))) (Φ (.inl (some (.int ((mset (mset M 0 0 2) 2 1 (M 2 1 + 1)) (mRF 60 e.toNatClampNeg) w.toNatClampNeg)))) (mset (mset M 0 0 2) 2 1 (M 2 1 + 1)) o ∧ 0 ≤ 0 ∧ 0 ≤ 0))))) ∧ (¬ (1 : Int32) = 0 → Φ (.inl (some (.int (0 : Int32)))) (mset (mset M 0 0 2) 2 1 (M 2 1 + 1)) o ∧ 0 ≤ 0 ∧ 0 ≤ 0)
    rw [ifp_f (h2)] at hΦ
    first | exact br1a (eR (hΦ _ _ (rO_t hM (by decide) (by decide)))) | exact br1b (eR (hΦ _ _ (rO_t hM (by decide) (by decide))))
  replace h2 := pI_1.mp h2
  refine ⟨trivial, fCi htr (r_bad0 hth _ _) (by omega) ?_⟩
  show ((0 : Int32) = 0 → ((2 : Int32) ≤ w → mReq (mInB ((27 : Int32) + e) 37) (Φ (.inl (some (.int (M 494 (((27 : Int32) + e).toNatClampNeg))))) M o ∧ 0 ≤ 0 ∧ 0 ≤ 0)) ∧ (¬ (2 : Int32) ≤ w → mReq (mInB e 8) (mReq (mIsB (mRF 60 e.toNatClampNeg) 1) (mReq (mInB w (mLn (mRF 60 e.toNatClampNeg))) (Φ (.inl (some (.int (M (mRF 60 e.toNatClampNeg) w.toNatClampNeg)))) M o ∧ 0 ≤ 0 ∧ 0 ≤ 0))))) ∧ (¬ (0 : Int32) = 0 → Φ (.inl (some (.int (0 : Int32)))) M o ∧ 0 ≤ 0 ∧ 0 ≤ 0)
  rw [ifp_t (h2)] at hΦ
  first | refine br0a ?_ | refine br0b ?_
  obtain ⟨k, he, rfl⟩ := h1
  obtain ⟨w, hw, rfl⟩ := h2
  rw [nI_cl (by omega), nI_cl (by omega)] at hΦ
  unfold vSlp at hΦ
  refine ⟨fun h => ?_, fun h => ?_⟩
  · rw [lit_le (by decide) (by omega)] at h
    simp (disch := omega) only [mReq_tt, nI_0a, nI_a0, nI_cl, mIn_ok, lit_add, lit_sub, add_lit, lit_le, le_lit, lit_lt, lt_lit, eq_lit, nI_add, nI_1, nI_leI, nI_ltI, nI_eq, mIn_lit, mIn_0, mIn_1, mIn_2, mIn_3, nI_l0, nI_p0, rf_22, rf_44, rf_60, rf_69, rf_391, rf_7, rf_37, rf_51, rf_230, rf_401, rf_413, rf_496, rf_513, rf_518, sB_2, sB_3, sB_4, sB_5, sB_6, sB_7, sL_2, sL_3, sL_4, sL_5, sL_6, sL_7, not_true_eq_false, not_false_eq_true, false_implies, true_implies, true_and, and_true, eq_self, true_or, or_true, Nat.le_refl, Nat.zero_add, Nat.add_zero, clA hM]
    rw [if_neg (by omega)] at hΦ
    exact hΦ _ _ (rO_k hC rfl)
  · rw [lit_le (by decide) (by omega)] at h
    simp (disch := omega) only [mReq_tt, nI_0a, nI_a0, nI_cl, mIn_ok, lit_add, lit_sub, add_lit, lit_le, le_lit, lit_lt, lt_lit, eq_lit, nI_add, nI_1, nI_leI, nI_ltI, nI_eq, mIn_lit, mIn_0, mIn_1, mIn_2, mIn_3, nI_l0, nI_p0, rf_22, rf_44, rf_60, rf_69, rf_391, rf_7, rf_37, rf_51, rf_230, rf_401, rf_413, rf_496, rf_513, rf_518, sB_2, sB_3, sB_4, sB_5, sB_6, sB_7, sL_2, sL_3, sL_4, sL_5, sL_6, sL_7, not_true_eq_false, not_false_eq_true, false_implies, true_implies, true_and, and_true, eq_self, true_or, or_true, Nat.le_refl, Nat.zero_add, Nat.add_zero, clA hM]
    rw [if_pos (by omega)] at hΦ
    exact hΦ _ _ (rO_k hC rfl)
theorem r_street (hA : CtB A) {m : Mm} (hm : cl m = A) (hd : 3 ≤ d) (e w : Int32) : mHi l g d k_X12_street [.ref 0, .int e, .int w] m (rO A (qStr A e w)) := by
  have hN := hA.1
  have hN2 := hA.2.2.1
  have hN3 := hA.2.2.2
  refine nBi 3 rfl rfl rfl (by decide) rfl (fun htr o Φ hΦ => mGoOn (mOk (by decide)) rfl [60] 400 ?_)
  show True ∧ mCal l g d k_X12_street Φ 0 0 _ 8 k_X12_isStreet false [.ref 0, .int e] [.ref 0] [.ref 0, .int e, .int w, mJ, mJ, mJ] (mset m 0 0 (0 : Int32)) o 0 0 1
  have hC := Cn_0 hm
  generalize mset m 0 0 (0 : Int32) = M at hC ⊢
  clear hm
  obtain ⟨hM, hth⟩ := hC
  have hC : Cn A M := ⟨hM, hth⟩
  unfold qStr at hΦ
  refine ⟨trivial, fCi htr (r_isStreet hA hM (by omega) _) (by omega) ?_⟩
  show (¬ (pI (In e (nS A))) = 0 → True ∧ mCal l g d k_X12_street Φ 0 0 _ 21 k_X12_bad false [.ref 0, .int (0 : Int32), .int (1 : Int32), .int (0 : Int32)] [] [.ref 0, .int e, .int w, mJ, mJ, mJ] M o 0 0 1) ∧ ((pI (In e (nS A))) = 0 → True ∧ mCal l g d k_X12_street Φ 0 0 _ 21 k_X12_bad false [.ref 0, .int (1 : Int32), .int (1 : Int32), .int (0 : Int32)] [] [.ref 0, .int e, .int w, mJ, mJ, mJ] M o 0 0 1)
  refine and_sw (fun h1 => ?_) (fun h1 => ?_)
  · replace h1 := pI_0.mp h1
    refine ⟨trivial, fCi htr (r_bad1 hth (t := 1) (j := 0) (by decide) (by decide)) (by omega) ?_⟩
    show (¬ (1 : Int32) = 0 → Φ (.inl (some (.int (0 : Int32)))) (mset (mset M 0 0 1) 2 0 (M 2 0 + 1)) o ∧ 0 ≤ 0 ∧ 0 ≤ 0) ∧ ((1 : Int32) = 0 → mCal l g d k_X12_street Φ 0 0 _ 31 k_X12_in false [.int w, .int (0 : Int32), .int (4 : Int32)] [.ref 0] [.ref 0, .int e, .int w, mJ, mJ, mJ] (mset (mset M 0 0 1) 2 0 (M 2 0 + 1)) o 0 0 1)
    rw [ifp_f (h1)] at hΦ
    first | exact br1a (eR (hΦ _ _ (rO_t hM (by decide) (by decide)))) | exact br1b (eR (hΦ _ _ (rO_t hM (by decide) (by decide))))
  replace h1 := pI_1.mp h1
  refine ⟨trivial, fCi htr (r_bad0 hth _ _) (by omega) ?_⟩
  show (¬ (0 : Int32) = 0 → Φ (.inl (some (.int (0 : Int32)))) M o ∧ 0 ≤ 0 ∧ 0 ≤ 0) ∧ ((0 : Int32) = 0 → mCal l g d k_X12_street Φ 0 0 _ 31 k_X12_in false [.int w, .int (0 : Int32), .int (4 : Int32)] [.ref 0] [.ref 0, .int e, .int w, mJ, mJ, mJ] M o 0 0 1)
  rw [ifp_t (h1)] at hΦ
  first | refine br0a ?_ | refine br0b ?_
  refine fCi htr (r_inB (n := 5) (by omega) rfl) (by omega) ?_
  show (¬ (pI (In w 5)) = 0 → True ∧ mCal l g d k_X12_street Φ 0 0 _ 44 k_X12_bad false [.ref 0, .int (0 : Int32), .int (2 : Int32), .int (1 : Int32)] [] [.ref 0, .int e, .int w, mJ, mJ, mJ] M o 0 0 1) ∧ ((pI (In w 5)) = 0 → True ∧ mCal l g d k_X12_street Φ 0 0 _ 44 k_X12_bad false [.ref 0, .int (1 : Int32), .int (2 : Int32), .int (1 : Int32)] [] [.ref 0, .int e, .int w, mJ, mJ, mJ] M o 0 0 1)
  refine and_sw (fun h2 => ?_) (fun h2 => ?_)
  · replace h2 := pI_0.mp h2
    refine ⟨trivial, fCi htr (r_bad1 hth (t := 2) (j := 1) (by decide) (by decide)) (by omega) ?_⟩
    show ((1 : Int32) = 0 → mWB l g d k_X12_street Φ 0 0 60 [.ref 0, .int e, .int w, .int (0 : Int32), .int (0 : Int32), .int (0 : Int32)] [] (mset (mset M 0 0 2) 2 1 (M 2 1 + 1)) o 0 0) ∧ (¬ (1 : Int32) = 0 → Φ (.inl (some (.int (0 : Int32)))) (mset (mset M 0 0 2) 2 1 (M 2 1 + 1)) o ∧ 0 ≤ 0 ∧ 0 ≤ 0)
    rw [ifp_f (h2)] at hΦ
    first | exact br1a (eR (hΦ _ _ (rO_t hM (by decide) (by decide)))) | exact br1b (eR (hΦ _ _ (rO_t hM (by decide) (by decide))))
  replace h2 := pI_1.mp h2
  refine ⟨trivial, fCi htr (r_bad0 hth _ _) (by omega) ?_⟩
  show ((0 : Int32) = 0 → mWB l g d k_X12_street Φ 0 0 60 [.ref 0, .int e, .int w, .int (0 : Int32), .int (0 : Int32), .int (0 : Int32)] [] M o 0 0) ∧ (¬ (0 : Int32) = 0 → Φ (.inl (some (.int (0 : Int32)))) M o ∧ 0 ≤ 0 ∧ 0 ≤ 0)
  rw [ifp_t (h2)] at hΦ
  first | refine br0a ?_ | refine br0b ?_
  obtain ⟨s, he, rfl⟩ := h1
  obtain ⟨w, hw, rfl⟩ := h2
  rw [nI_cl (by omega), nI_cl (by omega)] at hΦ
  unfold vStr at hΦ
  have sl : mWB l g d k_X12_street Φ 0 0 104 [.ref 0, .int (nI s), .int (nI w), .int (msk (fun k => A 494 k = nI s) (nM A)), .int (0 : Int32), .int (0 : Int32)] [] M o 0 0 := by
    refine mLoopZ (P := fun k => mWB l g d k_X12_street Φ 0 0 104 [.ref 0, .int (nI s), .int (nI w), .int (msk (fun k => A 494 k = nI s) (nM A)), .int (msk (fun p => A (61 + p) 0 = nI s) k), .int (nI k)] [] M o 0 0) (N := nP A) (mGoOn (mOk (by decide)) rfl [104] 400 ?_) (fun k hi ih => mGoOn (mOk (by decide)) rfl [104] 400 ?_)
    · show ((M 4 3) ≤ (nI (nP A)) → (((nI w).toInt = 0 → mReq (mInB (nI s) 9) (Φ (.inl (some (.int (M 6 ((nI s).toNatClampNeg))))) M o ∧ 0 ≤ 0 ∧ 0 ≤ 0)) ∧ ((nI w).toInt = 1 → True ∧ mCal l g d k_X12_street Φ 0 0 _ 189 k_X12_lanesOf false [.ref 0, .int (nI s)] [] [.ref 0, .int (nI s), .int (nI w), .int (msk (fun k => A 494 k = nI s) (nM A)), .int (msk (fun p => A (61 + p) 0 = nI s) (nP A)), .int (nI (nP A))] M o 0 0 1) ∧ ((nI w).toInt = 2 → Φ (.inl (some (.int (msk (fun k => A 494 k = nI s) (nM A))))) M o ∧ 0 ≤ 0 ∧ 0 ≤ 0) ∧ ((nI w).toInt = 3 → Φ (.inl (some (.int (msk (fun p => A (61 + p) 0 = nI s) (nP A))))) M o ∧ 0 ≤ 0 ∧ 0 ≤ 0) ∧ True) ∧ ((nI w).toInt < 0 ∨ 3 < (nI w).toInt → mReq (mInB ((18 : Int32) + (nI s)) 37) ((¬ (M 494 (((18 : Int32) + (nI s)).toNatClampNeg)) = (24 : Int32) → mReq (mInB ((18 : Int32) + (nI s)) 37) (Φ (.inl (some (.int (M 494 (((18 : Int32) + (nI s)).toNatClampNeg))))) M o ∧ 0 ≤ 0 ∧ 0 ≤ 0)) ∧ ((M 494 (((18 : Int32) + (nI s)).toNatClampNeg)) = (24 : Int32) → Φ (.inl (some (.int (-1 : Int32)))) M o ∧ 0 ≤ 0 ∧ 0 ≤ 0)))) ∧ (¬ (M 4 3) ≤ (nI (nP A)) → mReq (mInB (nI (nP A)) 8) (mReq (mIsB (mRF 60 ((nI (nP A)).toNatClampNeg)) 1) (mReq (mInB (0 : Int32) (mLn (mRF 60 ((nI (nP A)).toNatClampNeg)))) ((¬ (M (mRF 60 ((nI (nP A)).toNatClampNeg)) 0) = (nI s) → mWB l g d k_X12_street Φ 0 0 104 [.ref 0, .int (nI s), .int (nI w), .int (msk (fun k => A 494 k = nI s) (nM A)), .int ((msk (fun p => A (61 + p) 0 = nI s) (nP A)) ||| (0 : Int32)), .int ((nI (nP A)) + (1 : Int32))] [] M o 0 0) ∧ ((M (mRF 60 ((nI (nP A)).toNatClampNeg)) 0) = (nI s) → mWB l g d k_X12_street Φ 0 0 104 [.ref 0, .int (nI s), .int (nI w), .int (msk (fun k => A 494 k = nI s) (nM A)), .int ((msk (fun p => A (61 + p) 0 = nI s) (nP A)) ||| (jshl (1 : Int32) (nI (nP A)))), .int ((nI (nP A)) + (1 : Int32))] [] M o 0 0)))))
      simp (disch := omega) only [mReq_tt, nI_0a, nI_a0, nI_cl, mIn_ok, lit_add, lit_sub, add_lit, lit_le, le_lit, lit_lt, lt_lit, eq_lit, nI_add, nI_1, nI_leI, nI_ltI, nI_eq, mIn_lit, mIn_0, mIn_1, mIn_2, mIn_3, nI_l0, nI_p0, rf_22, rf_44, rf_60, rf_69, rf_391, rf_7, rf_37, rf_51, rf_230, rf_401, rf_413, rf_496, rf_513, rf_518, sB_2, sB_3, sB_4, sB_5, sB_6, sB_7, sL_2, sL_3, sL_4, sL_5, sL_6, sL_7, not_true_eq_false, not_false_eq_true, false_implies, true_implies, true_and, and_true, eq_self, true_or, or_true, Nat.le_refl, Nat.zero_add, Nat.add_zero, clA hM, hN3.1]
      rw [nI_toInt (by omega)]
      refine ⟨⟨fun h => ?_, fun h => ?_, fun h => ?_, fun h => ?_⟩, fun h => ?_⟩
      · rw [if_pos (by omega)] at hΦ
        exact hΦ _ _ (rO_k hC rfl)
      · rw [if_neg (by omega), if_pos (by omega)] at hΦ
        exact fCi htr (r_lanesOf hA hM (by omega) _) (by omega) (eR (hΦ _ _ (rO_k hC rfl)))
      · rw [if_neg (by omega), if_neg (by omega), if_pos (by omega)] at hΦ
        exact hΦ _ _ (rO_k hC rfl)
      · rw [if_neg (by omega), if_neg (by omega), if_neg (by omega), if_pos (by omega)] at hΦ
        exact hΦ _ _ (rO_k hC rfl)
      · rw [if_neg (by omega), if_neg (by omega), if_neg (by omega), if_neg (by omega)] at hΦ
        unfold hrd at hΦ
        refine ⟨fun q => ?_, fun q => ?_⟩
        · rw [if_neg q] at hΦ
          exact hΦ _ _ (rO_k hC rfl)
        · rw [if_pos q] at hΦ
          exact hΦ _ _ (rO_k hC rfl)
    show ((M 4 3) ≤ (nI k) → (((nI w).toInt = 0 → mReq (mInB (nI s) 9) (Φ (.inl (some (.int (M 6 ((nI s).toNatClampNeg))))) M o ∧ 0 ≤ 0 ∧ 0 ≤ 0)) ∧ ((nI w).toInt = 1 → True ∧ mCal l g d k_X12_street Φ 0 0 _ 189 k_X12_lanesOf false [.ref 0, .int (nI s)] [] [.ref 0, .int (nI s), .int (nI w), .int (msk (fun k => A 494 k = nI s) (nM A)), .int (msk (fun p => A (61 + p) 0 = nI s) k), .int (nI k)] M o 0 0 1) ∧ ((nI w).toInt = 2 → Φ (.inl (some (.int (msk (fun k => A 494 k = nI s) (nM A))))) M o ∧ 0 ≤ 0 ∧ 0 ≤ 0) ∧ ((nI w).toInt = 3 → Φ (.inl (some (.int (msk (fun p => A (61 + p) 0 = nI s) k)))) M o ∧ 0 ≤ 0 ∧ 0 ≤ 0) ∧ True) ∧ ((nI w).toInt < 0 ∨ 3 < (nI w).toInt → mReq (mInB ((18 : Int32) + (nI s)) 37) ((¬ (M 494 (((18 : Int32) + (nI s)).toNatClampNeg)) = (24 : Int32) → mReq (mInB ((18 : Int32) + (nI s)) 37) (Φ (.inl (some (.int (M 494 (((18 : Int32) + (nI s)).toNatClampNeg))))) M o ∧ 0 ≤ 0 ∧ 0 ≤ 0)) ∧ ((M 494 (((18 : Int32) + (nI s)).toNatClampNeg)) = (24 : Int32) → Φ (.inl (some (.int (-1 : Int32)))) M o ∧ 0 ≤ 0 ∧ 0 ≤ 0)))) ∧ (¬ (M 4 3) ≤ (nI k) → mReq (mInB (nI k) 8) (mReq (mIsB (mRF 60 ((nI k).toNatClampNeg)) 1) (mReq (mInB (0 : Int32) (mLn (mRF 60 ((nI k).toNatClampNeg)))) ((¬ (M (mRF 60 ((nI k).toNatClampNeg)) 0) = (nI s) → mWB l g d k_X12_street Φ 0 0 104 [.ref 0, .int (nI s), .int (nI w), .int (msk (fun k => A 494 k = nI s) (nM A)), .int ((msk (fun p => A (61 + p) 0 = nI s) k) ||| (0 : Int32)), .int ((nI k) + (1 : Int32))] [] M o 0 0) ∧ ((M (mRF 60 ((nI k).toNatClampNeg)) 0) = (nI s) → mWB l g d k_X12_street Φ 0 0 104 [.ref 0, .int (nI s), .int (nI w), .int (msk (fun k => A 494 k = nI s) (nM A)), .int ((msk (fun p => A (61 + p) 0 = nI s) k) ||| (jshl (1 : Int32) (nI k))), .int ((nI k) + (1 : Int32))] [] M o 0 0)))))
    have hf : ¬ nP A ≤ k := by omega
    simp (disch := omega) only [mReq_tt, nI_0a, nI_a0, nI_cl, mIn_ok, lit_add, lit_sub, add_lit, lit_le, le_lit, lit_lt, lt_lit, eq_lit, nI_add, nI_1, nI_leI, nI_ltI, nI_eq, mIn_lit, mIn_0, mIn_1, mIn_2, mIn_3, nI_l0, nI_p0, rf_22, rf_44, rf_60, rf_69, rf_391, rf_7, rf_37, rf_51, rf_230, rf_401, rf_413, rf_496, rf_513, rf_518, sB_2, sB_3, sB_4, sB_5, sB_6, sB_7, sL_2, sL_3, sL_4, sL_5, sL_6, sL_7, not_true_eq_false, not_false_eq_true, false_implies, true_implies, true_and, and_true, eq_self, true_or, or_true, Nat.le_refl, Nat.zero_add, Nat.add_zero, clA hM, hN3.1, hf]
    exact ⟨fun h => by rw [or_zero]; rw [msk_f h] at ih; exact ih, fun h => by rw [msk_t h] at ih; exact ih⟩
  refine mLoopZ (P := fun k => mWB l g d k_X12_street Φ 0 0 60 [.ref 0, .int (nI s), .int (nI w), .int (msk (fun k => A 494 k = nI s) k), .int (0 : Int32), .int (nI k)] [] M o 0 0) (N := nM A) (mGoOn (mOk (by decide)) rfl [60,104] 400 ?_) (fun k hi ih => mGoOn (mOk (by decide)) rfl [60,104] 400 ?_)
  · show ((M 4 2) ≤ (nI (nM A)) → mWB l g d k_X12_street Φ 0 0 104 [.ref 0, .int (nI s), .int (nI w), .int (msk (fun k => A 494 k = nI s) (nM A)), .int (0 : Int32), .int (0 : Int32)] [] M o 0 0) ∧ (¬ (M 4 2) ≤ (nI (nM A)) → mReq (mInB ((0 : Int32) + (nI (nM A))) 37) ((¬ (M 494 (((0 : Int32) + (nI (nM A))).toNatClampNeg)) = (nI s) → mWB l g d k_X12_street Φ 0 0 60 [.ref 0, .int (nI s), .int (nI w), .int ((msk (fun k => A 494 k = nI s) (nM A)) ||| (0 : Int32)), .int (0 : Int32), .int ((nI (nM A)) + (1 : Int32))] [] M o 0 0) ∧ ((M 494 (((0 : Int32) + (nI (nM A))).toNatClampNeg)) = (nI s) → mWB l g d k_X12_street Φ 0 0 60 [.ref 0, .int (nI s), .int (nI w), .int ((msk (fun k => A 494 k = nI s) (nM A)) ||| (jshl (1 : Int32) (nI (nM A)))), .int (0 : Int32), .int ((nI (nM A)) + (1 : Int32))] [] M o 0 0)))
    simp (disch := omega) only [mReq_tt, nI_0a, nI_a0, nI_cl, mIn_ok, lit_add, lit_sub, add_lit, lit_le, le_lit, lit_lt, lt_lit, eq_lit, nI_add, nI_1, nI_leI, nI_ltI, nI_eq, mIn_lit, mIn_0, mIn_1, mIn_2, mIn_3, nI_l0, nI_p0, rf_22, rf_44, rf_60, rf_69, rf_391, rf_7, rf_37, rf_51, rf_230, rf_401, rf_413, rf_496, rf_513, rf_518, sB_2, sB_3, sB_4, sB_5, sB_6, sB_7, sL_2, sL_3, sL_4, sL_5, sL_6, sL_7, not_true_eq_false, not_false_eq_true, false_implies, true_implies, true_and, and_true, eq_self, true_or, or_true, Nat.le_refl, Nat.zero_add, Nat.add_zero, clA hM, hN2.1]
    exact sl
  show ((M 4 2) ≤ (nI k) → mWB l g d k_X12_street Φ 0 0 104 [.ref 0, .int (nI s), .int (nI w), .int (msk (fun k => A 494 k = nI s) k), .int (0 : Int32), .int (0 : Int32)] [] M o 0 0) ∧ (¬ (M 4 2) ≤ (nI k) → mReq (mInB ((0 : Int32) + (nI k)) 37) ((¬ (M 494 (((0 : Int32) + (nI k)).toNatClampNeg)) = (nI s) → mWB l g d k_X12_street Φ 0 0 60 [.ref 0, .int (nI s), .int (nI w), .int ((msk (fun k => A 494 k = nI s) k) ||| (0 : Int32)), .int (0 : Int32), .int ((nI k) + (1 : Int32))] [] M o 0 0) ∧ ((M 494 (((0 : Int32) + (nI k)).toNatClampNeg)) = (nI s) → mWB l g d k_X12_street Φ 0 0 60 [.ref 0, .int (nI s), .int (nI w), .int ((msk (fun k => A 494 k = nI s) k) ||| (jshl (1 : Int32) (nI k))), .int (0 : Int32), .int ((nI k) + (1 : Int32))] [] M o 0 0)))
  have hf : ¬ nM A ≤ k := by omega
  simp (disch := omega) only [mReq_tt, nI_0a, nI_a0, nI_cl, mIn_ok, lit_add, lit_sub, add_lit, lit_le, le_lit, lit_lt, lt_lit, eq_lit, nI_add, nI_1, nI_leI, nI_ltI, nI_eq, mIn_lit, mIn_0, mIn_1, mIn_2, mIn_3, nI_l0, nI_p0, rf_22, rf_44, rf_60, rf_69, rf_391, rf_7, rf_37, rf_51, rf_230, rf_401, rf_413, rf_496, rf_513, rf_518, sB_2, sB_3, sB_4, sB_5, sB_6, sB_7, sL_2, sL_3, sL_4, sL_5, sL_6, sL_7, not_true_eq_false, not_false_eq_true, false_implies, true_implies, true_and, and_true, eq_self, true_or, or_true, Nat.le_refl, Nat.zero_add, Nat.add_zero, clA hM, hN2.1, hf]
  exact ⟨fun h => by rw [or_zero]; rw [msk_f h] at ih; exact ih, fun h => by rw [msk_t h] at ih; exact ih⟩
theorem r_told (hA : CtB A) {m : Mm} (hm : cl m = A) (hd : 3 ≤ d) (w : Int32) : mHi l g d k_X12_told [.ref 0, .int w] m (rO A (qTld A w)) := by
  have hN2 := hA.2.2.1
  refine nBi 2 rfl rfl rfl (by decide) rfl (fun htr o Φ hΦ => mGoOn (mOk (by decide)) rfl [35] 400 ?_)
  show mCal l g d k_X12_told Φ 0 0 _ 10 k_X12_in false [.int w, .int (0 : Int32), .int (10 : Int32)] [.ref 0] [.ref 0, .int w, mJ, mJ] (mset m 0 0 (0 : Int32)) o 0 0 1
  have hC := Cn_0 hm
  generalize mset m 0 0 (0 : Int32) = M at hC ⊢
  clear hm
  obtain ⟨hM, hth⟩ := hC
  have hC : Cn A M := ⟨hM, hth⟩
  unfold qTld at hΦ
  refine fCi htr (r_inB (n := 11) (by omega) rfl) (by omega) ?_
  show (¬ (pI (In w 11)) = 0 → True ∧ mCal l g d k_X12_told Φ 0 0 _ 23 k_X12_bad false [.ref 0, .int (0 : Int32), .int (1 : Int32), .int (1 : Int32)] [] [.ref 0, .int w, mJ, mJ] M o 0 0 1) ∧ ((pI (In w 11)) = 0 → True ∧ mCal l g d k_X12_told Φ 0 0 _ 23 k_X12_bad false [.ref 0, .int (1 : Int32), .int (1 : Int32), .int (1 : Int32)] [] [.ref 0, .int w, mJ, mJ] M o 0 0 1)
  refine and_sw (fun h1 => ?_) (fun h1 => ?_)
  · replace h1 := pI_0.mp h1
    refine ⟨trivial, fCi htr (r_bad1 hth (t := 1) (j := 1) (by decide) (by decide)) (by omega) ?_⟩
    show ((1 : Int32) = 0 → mWB l g d k_X12_told Φ 0 0 35 [.ref 0, .int w, .int (0 : Int32), .int (0 : Int32)] [] (mset (mset M 0 0 1) 2 1 (M 2 1 + 1)) o 0 0) ∧ (¬ (1 : Int32) = 0 → Φ (.inl (some (.int (0 : Int32)))) (mset (mset M 0 0 1) 2 1 (M 2 1 + 1)) o ∧ 0 ≤ 0 ∧ 0 ≤ 0)
    rw [ifp_f (h1)] at hΦ
    first | exact br1a (eR (hΦ _ _ (rO_t hM (by decide) (by decide)))) | exact br1b (eR (hΦ _ _ (rO_t hM (by decide) (by decide))))
  replace h1 := pI_1.mp h1
  refine ⟨trivial, fCi htr (r_bad0 hth _ _) (by omega) ?_⟩
  show ((0 : Int32) = 0 → mWB l g d k_X12_told Φ 0 0 35 [.ref 0, .int w, .int (0 : Int32), .int (0 : Int32)] [] M o 0 0) ∧ (¬ (0 : Int32) = 0 → Φ (.inl (some (.int (0 : Int32)))) M o ∧ 0 ≤ 0 ∧ 0 ≤ 0)
  rw [ifp_t (h1)] at hΦ
  first | refine br0a ?_ | refine br0b ?_
  refine mLoopZ (P := fun k => mWB l g d k_X12_told Φ 0 0 35 [.ref 0, .int w, .int (sm (fun k => A 494 (6 + k)) k), .int (nI k)] [] M o 0 0) (N := nM A) (mGoOn (mOk (by decide)) rfl [35] 400 ?_) (fun k hi ih => mGoOn (mOk (by decide)) rfl [35] 400 ?_)
  · show ((M 4 2) ≤ (nI (nM A)) → ((w.toInt = 0 → mReq (mInB w 4) (Φ (.inl (some (.int (M 4 w.toNatClampNeg)))) M o ∧ 0 ≤ 0 ∧ 0 ≤ 0)) ∧ (w.toInt = 1 → mReq (mInB w 4) (Φ (.inl (some (.int (M 4 w.toNatClampNeg)))) M o ∧ 0 ≤ 0 ∧ 0 ≤ 0)) ∧ (w.toInt = 2 → mReq (mInB w 4) (Φ (.inl (some (.int (M 4 w.toNatClampNeg)))) M o ∧ 0 ≤ 0 ∧ 0 ≤ 0)) ∧ (w.toInt = 3 → mReq (mInB w 4) (Φ (.inl (some (.int (M 4 w.toNatClampNeg)))) M o ∧ 0 ≤ 0 ∧ 0 ≤ 0)) ∧ (w.toInt = 4 → Φ (.inl (some (.int (M 494 35)))) M o ∧ 0 ≤ 0 ∧ 0 ≤ 0) ∧ (w.toInt = 5 → Φ (.inl (some (.int (M 494 36)))) M o ∧ 0 ≤ 0 ∧ 0 ≤ 0) ∧ (w.toInt = 6 → True ∧ mCal l g d k_X12_told Φ 0 0 _ 148 k_X12_upIn false [.ref 0, .ref 494] [] [.ref 0, .int w, .int (sm (fun k => A 494 (6 + k)) (nM A)), .int (nI (nM A))] M o 0 0 1) ∧ (w.toInt = 7 → True ∧ mCal l g d k_X12_told Φ 0 0 _ 157 k_X12_awakeIn false [.ref 0, .ref 494] [] [.ref 0, .int w, .int (sm (fun k => A 494 (6 + k)) (nM A)), .int (nI (nM A))] M o 0 0 1) ∧ (w.toInt = 8 → Φ (.inl (some (.int (M 0 35)))) M o ∧ 0 ≤ 0 ∧ 0 ≤ 0) ∧ (w.toInt = 9 → Φ (.inl (some (.int (M 0 37)))) M o ∧ 0 ≤ 0 ∧ 0 ≤ 0) ∧ True) ∧ (w.toInt < 0 ∨ 9 < w.toInt → Φ (.inl (some (.int (sm (fun k => A 494 (6 + k)) (nM A))))) M o ∧ 0 ≤ 0 ∧ 0 ≤ 0)) ∧ (¬ (M 4 2) ≤ (nI (nM A)) → mReq (mInB ((6 : Int32) + (nI (nM A))) 37) (mWB l g d k_X12_told Φ 0 0 35 [.ref 0, .int w, .int ((sm (fun k => A 494 (6 + k)) (nM A)) + (M 494 (((6 : Int32) + (nI (nM A))).toNatClampNeg))), .int ((nI (nM A)) + (1 : Int32))] [] M o 0 0))
    simp (disch := omega) only [mReq_tt, nI_0a, nI_a0, nI_cl, mIn_ok, lit_add, lit_sub, add_lit, lit_le, le_lit, lit_lt, lt_lit, eq_lit, nI_add, nI_1, nI_leI, nI_ltI, nI_eq, mIn_lit, mIn_0, mIn_1, mIn_2, mIn_3, nI_l0, nI_p0, rf_22, rf_44, rf_60, rf_69, rf_391, rf_7, rf_37, rf_51, rf_230, rf_401, rf_413, rf_496, rf_513, rf_518, sB_2, sB_3, sB_4, sB_5, sB_6, sB_7, sL_2, sL_3, sL_4, sL_5, sL_6, sL_7, not_true_eq_false, not_false_eq_true, false_implies, true_implies, true_and, and_true, eq_self, true_or, or_true, Nat.le_refl, Nat.zero_add, Nat.add_zero, clA hM, clO hM, hN2.1]
    obtain ⟨w, hw, rfl⟩ := h1
    rw [nI_cl (by omega)] at hΦ
    unfold vTld at hΦ
    rw [nI_toInt (by omega)]
    refine ⟨⟨fun h => ?_, fun h => ?_, fun h => ?_, fun h => ?_, fun h => ?_, fun h => ?_, fun h => ?_, fun h => ?_, fun h => ?_, fun h => ?_⟩, fun h => ?_⟩
    iterate 4
      · rw [if_pos (by omega)] at hΦ
        simp (disch := omega) only [mReq_tt, nI_0a, nI_a0, nI_cl, mIn_ok, lit_add, lit_sub, add_lit, lit_le, le_lit, lit_lt, lt_lit, eq_lit, nI_add, nI_1, nI_leI, nI_ltI, nI_eq, mIn_lit, mIn_0, mIn_1, mIn_2, mIn_3, nI_l0, nI_p0, rf_22, rf_44, rf_60, rf_69, rf_391, rf_7, rf_37, rf_51, rf_230, rf_401, rf_413, rf_496, rf_513, rf_518, sB_2, sB_3, sB_4, sB_5, sB_6, sB_7, sL_2, sL_3, sL_4, sL_5, sL_6, sL_7, not_true_eq_false, not_false_eq_true, false_implies, true_implies, true_and, and_true, eq_self, true_or, or_true, Nat.le_refl, Nat.zero_add, Nat.add_zero, clA hM]
        exact hΦ _ _ (rO_k hC rfl)
    · rw [if_neg (by omega), if_pos (by omega)] at hΦ
      exact hΦ _ _ (rO_k hC rfl)
    · rw [if_neg (by omega), if_neg (by omega), if_pos (by omega)] at hΦ
      exact hΦ _ _ (rO_k hC rfl)
    · rw [if_neg (by omega), if_neg (by omega), if_neg (by omega), if_pos (by omega)] at hΦ
      refine fCi htr (r_upIn hA hM row_494) (by omega) (eR (hΦ _ _ (rO_k hC ?_)))
      rw [clF hM (by omega)]
    · rw [if_neg (by omega), if_neg (by omega), if_neg (by omega), if_neg (by omega), if_pos (by omega)] at hΦ
      refine fCi htr (r_awakeIn hA hM row_494) (by omega) (eR (hΦ _ _ (rO_k hC ?_)))
      rw [clF hM (by omega)]
    · rw [if_neg (by omega), if_neg (by omega), if_neg (by omega), if_neg (by omega), if_neg (by omega), if_pos (by omega)] at hΦ
      exact hΦ _ _ (rO_k hC rfl)
    · rw [if_neg (by omega), if_neg (by omega), if_neg (by omega), if_neg (by omega), if_neg (by omega), if_neg (by omega), if_pos (by omega)] at hΦ
      exact hΦ _ _ (rO_k hC rfl)
    · rw [if_neg (by omega), if_neg (by omega), if_neg (by omega), if_neg (by omega), if_neg (by omega), if_neg (by omega), if_neg (by omega)] at hΦ
      exact hΦ _ _ (rO_k hC rfl)
  show ((M 4 2) ≤ (nI k) → ((w.toInt = 0 → mReq (mInB w 4) (Φ (.inl (some (.int (M 4 w.toNatClampNeg)))) M o ∧ 0 ≤ 0 ∧ 0 ≤ 0)) ∧ (w.toInt = 1 → mReq (mInB w 4) (Φ (.inl (some (.int (M 4 w.toNatClampNeg)))) M o ∧ 0 ≤ 0 ∧ 0 ≤ 0)) ∧ (w.toInt = 2 → mReq (mInB w 4) (Φ (.inl (some (.int (M 4 w.toNatClampNeg)))) M o ∧ 0 ≤ 0 ∧ 0 ≤ 0)) ∧ (w.toInt = 3 → mReq (mInB w 4) (Φ (.inl (some (.int (M 4 w.toNatClampNeg)))) M o ∧ 0 ≤ 0 ∧ 0 ≤ 0)) ∧ (w.toInt = 4 → Φ (.inl (some (.int (M 494 35)))) M o ∧ 0 ≤ 0 ∧ 0 ≤ 0) ∧ (w.toInt = 5 → Φ (.inl (some (.int (M 494 36)))) M o ∧ 0 ≤ 0 ∧ 0 ≤ 0) ∧ (w.toInt = 6 → True ∧ mCal l g d k_X12_told Φ 0 0 _ 148 k_X12_upIn false [.ref 0, .ref 494] [] [.ref 0, .int w, .int (sm (fun k => A 494 (6 + k)) k), .int (nI k)] M o 0 0 1) ∧ (w.toInt = 7 → True ∧ mCal l g d k_X12_told Φ 0 0 _ 157 k_X12_awakeIn false [.ref 0, .ref 494] [] [.ref 0, .int w, .int (sm (fun k => A 494 (6 + k)) k), .int (nI k)] M o 0 0 1) ∧ (w.toInt = 8 → Φ (.inl (some (.int (M 0 35)))) M o ∧ 0 ≤ 0 ∧ 0 ≤ 0) ∧ (w.toInt = 9 → Φ (.inl (some (.int (M 0 37)))) M o ∧ 0 ≤ 0 ∧ 0 ≤ 0) ∧ True) ∧ (w.toInt < 0 ∨ 9 < w.toInt → Φ (.inl (some (.int (sm (fun k => A 494 (6 + k)) k)))) M o ∧ 0 ≤ 0 ∧ 0 ≤ 0)) ∧ (¬ (M 4 2) ≤ (nI k) → mReq (mInB ((6 : Int32) + (nI k)) 37) (mWB l g d k_X12_told Φ 0 0 35 [.ref 0, .int w, .int ((sm (fun k => A 494 (6 + k)) k) + (M 494 (((6 : Int32) + (nI k)).toNatClampNeg))), .int ((nI k) + (1 : Int32))] [] M o 0 0))
  have hf : ¬ nM A ≤ k := by omega
  simp (disch := omega) only [mReq_tt, nI_0a, nI_a0, nI_cl, mIn_ok, lit_add, lit_sub, add_lit, lit_le, le_lit, lit_lt, lt_lit, eq_lit, nI_add, nI_1, nI_leI, nI_ltI, nI_eq, mIn_lit, mIn_0, mIn_1, mIn_2, mIn_3, nI_l0, nI_p0, rf_22, rf_44, rf_60, rf_69, rf_391, rf_7, rf_37, rf_51, rf_230, rf_401, rf_413, rf_496, rf_513, rf_518, sB_2, sB_3, sB_4, sB_5, sB_6, sB_7, sL_2, sL_3, sL_4, sL_5, sL_6, sL_7, not_true_eq_false, not_false_eq_true, false_implies, true_implies, true_and, and_true, eq_self, true_or, or_true, Nat.le_refl, Nat.zero_add, Nat.add_zero, clA hM, clO hM, hN2.1, hf]
  exact ih
theorem r_in1 {v lo hi : Int32} {M : Mm} : mFi l g d k_X12_in [.int v, .int lo, .int hi] M (pI (lo ≤ v ∧ v ≤ hi)) M := q_in _ _ _ _
theorem r_would (hA : Sv A) {m : Mm} (hm : cl m = A) (hd : 5 ≤ d) (a b c s e w n h : Int32) : mHi l g d k_X12_would [.ref 0, .int a, .int b, .int c, .int s, .int e, .int w, .int n, .int h] m (rO A (qWld A a b c s e w n h)) := by
  refine nBi 0 rfl rfl rfl (by decide) rfl (fun htr o Φ hΦ => mGoOn (mOk (by decide)) rfl [] 400 ?_)
  show mCal l g d k_X12_would Φ 0 0 _ 7 k_X12_isHour false [.int a] [.ref 0] [.ref 0, .int a, .int b, .int c, .int s, .int e, .int w, .int n, .int h] (mset m 0 0 (0 : Int32)) o 0 0 1
  have hC := Cn_0 hm
  generalize mset m 0 0 (0 : Int32) = M at hC ⊢
  clear hm
  obtain ⟨hM, hth⟩ := hC
  have hC : Cn A M := ⟨hM, hth⟩
  unfold qWld at hΦ
  refine fCi htr (r_isHour (by omega) _) (by omega) ?_
  show ((pI (In a 24)) = 0 → True ∧ mCal l g d k_X12_would Φ 0 0 _ 93 k_X12_bad false [.ref 0, .int (1 : Int32), .int (1 : Int32), .int (1 : Int32)] [] [.ref 0, .int a, .int b, .int c, .int s, .int e, .int w, .int n, .int h] M o 0 0 1) ∧ (¬ (pI (In a 24)) = 0 → mCal l g d k_X12_would Φ 0 0 _ 14 k_X12_isHour false [.int b] [.ref 0] [.ref 0, .int a, .int b, .int c, .int s, .int e, .int w, .int n, .int h] M o 0 0 1)
  refine ⟨fun h1 => ?_, fun h1 => ?_⟩
  · replace h1 := pI_0.mp h1
    refine ⟨trivial, fCi htr (r_bad1 hth (t := 1) (j := 1) (by decide) (by decide)) (by omega) ?_⟩
    show ((1 : Int32) = 0 → True ∧ mCal l g d k_X12_would Φ 0 0 _ 115 k_X12_callBy false [.ref 0, .int a, .int b, .int c, .int s, .int e, .int w, .int n, .int h] [] [.ref 0, .int a, .int b, .int c, .int s, .int e, .int w, .int n, .int h] (mset (mset M 0 0 1) 2 1 (M 2 1 + 1)) o 0 0 1) ∧ (¬ (1 : Int32) = 0 → Φ (.inl (some (.int (0 : Int32)))) (mset (mset M 0 0 1) 2 1 (M 2 1 + 1)) o ∧ 0 ≤ 0 ∧ 0 ≤ 0)
    rw [ifp_f (fun z => h1 z.1)] at hΦ
    first | exact br1a (eR (hΦ _ _ (rO_t hM (by decide) (by decide)))) | exact br1b (eR (hΦ _ _ (rO_t hM (by decide) (by decide))))
  replace h1 := pI_1.mp h1
  refine fCi htr (r_isHour (by omega) _) (by omega) ?_
  show ((pI (In b 24)) = 0 → True ∧ mCal l g d k_X12_would Φ 0 0 _ 93 k_X12_bad false [.ref 0, .int (1 : Int32), .int (1 : Int32), .int (1 : Int32)] [] [.ref 0, .int a, .int b, .int c, .int s, .int e, .int w, .int n, .int h] M o 0 0 1) ∧ (¬ (pI (In b 24)) = 0 → mCal l g d k_X12_would Φ 0 0 _ 25 k_X12_in false [.int c, .int (0 : Int32), .int (999 : Int32)] [.ref 0] [.ref 0, .int a, .int b, .int c, .int s, .int e, .int w, .int n, .int h] M o 0 0 1)
  refine ⟨fun h2 => ?_, fun h2 => ?_⟩
  · replace h2 := pI_0.mp h2
    refine ⟨trivial, fCi htr (r_bad1 hth (t := 1) (j := 1) (by decide) (by decide)) (by omega) ?_⟩
    show ((1 : Int32) = 0 → True ∧ mCal l g d k_X12_would Φ 0 0 _ 115 k_X12_callBy false [.ref 0, .int a, .int b, .int c, .int s, .int e, .int w, .int n, .int h] [] [.ref 0, .int a, .int b, .int c, .int s, .int e, .int w, .int n, .int h] (mset (mset M 0 0 1) 2 1 (M 2 1 + 1)) o 0 0 1) ∧ (¬ (1 : Int32) = 0 → Φ (.inl (some (.int (0 : Int32)))) (mset (mset M 0 0 1) 2 1 (M 2 1 + 1)) o ∧ 0 ≤ 0 ∧ 0 ≤ 0)
    rw [ifp_f (fun z => h2 z.2.1)] at hΦ
    first | exact br1a (eR (hΦ _ _ (rO_t hM (by decide) (by decide)))) | exact br1b (eR (hΦ _ _ (rO_t hM (by decide) (by decide))))
  replace h2 := pI_1.mp h2
  refine fCi htr (r_inB (n := 1000) (by omega) rfl) (by omega) ?_
  show ((pI (In c 1000)) = 0 → True ∧ mCal l g d k_X12_would Φ 0 0 _ 93 k_X12_bad false [.ref 0, .int (1 : Int32), .int (1 : Int32), .int (1 : Int32)] [] [.ref 0, .int a, .int b, .int c, .int s, .int e, .int w, .int n, .int h] M o 0 0 1) ∧ (¬ (pI (In c 1000)) = 0 → mCal l g d k_X12_would Φ 0 0 _ 36 k_X12_in false [.int s, .int (0 : Int32), .int (8 : Int32)] [.ref 0] [.ref 0, .int a, .int b, .int c, .int s, .int e, .int w, .int n, .int h] M o 0 0 1)
  refine ⟨fun h3 => ?_, fun h3 => ?_⟩
  · replace h3 := pI_0.mp h3
    refine ⟨trivial, fCi htr (r_bad1 hth (t := 1) (j := 1) (by decide) (by decide)) (by omega) ?_⟩
    show ((1 : Int32) = 0 → True ∧ mCal l g d k_X12_would Φ 0 0 _ 115 k_X12_callBy false [.ref 0, .int a, .int b, .int c, .int s, .int e, .int w, .int n, .int h] [] [.ref 0, .int a, .int b, .int c, .int s, .int e, .int w, .int n, .int h] (mset (mset M 0 0 1) 2 1 (M 2 1 + 1)) o 0 0 1) ∧ (¬ (1 : Int32) = 0 → Φ (.inl (some (.int (0 : Int32)))) (mset (mset M 0 0 1) 2 1 (M 2 1 + 1)) o ∧ 0 ≤ 0 ∧ 0 ≤ 0)
    rw [ifp_f (fun z => h3 z.2.2.1)] at hΦ
    first | exact br1a (eR (hΦ _ _ (rO_t hM (by decide) (by decide)))) | exact br1b (eR (hΦ _ _ (rO_t hM (by decide) (by decide))))
  replace h3 := pI_1.mp h3
  refine fCi htr (r_inB (n := 9) (by omega) rfl) (by omega) ?_
  show ((pI (In s 9)) = 0 → True ∧ mCal l g d k_X12_would Φ 0 0 _ 93 k_X12_bad false [.ref 0, .int (1 : Int32), .int (1 : Int32), .int (1 : Int32)] [] [.ref 0, .int a, .int b, .int c, .int s, .int e, .int w, .int n, .int h] M o 0 0 1) ∧ (¬ (pI (In s 9)) = 0 → mCal l g d k_X12_would Φ 0 0 _ 46 k_X12_in false [.int e, .int (0 : Int32), .int (5 : Int32)] [.ref 0] [.ref 0, .int a, .int b, .int c, .int s, .int e, .int w, .int n, .int h] M o 0 0 1)
  refine ⟨fun h4 => ?_, fun h4 => ?_⟩
  · replace h4 := pI_0.mp h4
    refine ⟨trivial, fCi htr (r_bad1 hth (t := 1) (j := 1) (by decide) (by decide)) (by omega) ?_⟩
    show ((1 : Int32) = 0 → True ∧ mCal l g d k_X12_would Φ 0 0 _ 115 k_X12_callBy false [.ref 0, .int a, .int b, .int c, .int s, .int e, .int w, .int n, .int h] [] [.ref 0, .int a, .int b, .int c, .int s, .int e, .int w, .int n, .int h] (mset (mset M 0 0 1) 2 1 (M 2 1 + 1)) o 0 0 1) ∧ (¬ (1 : Int32) = 0 → Φ (.inl (some (.int (0 : Int32)))) (mset (mset M 0 0 1) 2 1 (M 2 1 + 1)) o ∧ 0 ≤ 0 ∧ 0 ≤ 0)
    rw [ifp_f (fun z => h4 z.2.2.2.1)] at hΦ
    first | exact br1a (eR (hΦ _ _ (rO_t hM (by decide) (by decide)))) | exact br1b (eR (hΦ _ _ (rO_t hM (by decide) (by decide))))
  replace h4 := pI_1.mp h4
  refine fCi htr (r_inB (n := 6) (by omega) rfl) (by omega) ?_
  show ((pI (In e 6)) = 0 → True ∧ mCal l g d k_X12_would Φ 0 0 _ 93 k_X12_bad false [.ref 0, .int (1 : Int32), .int (1 : Int32), .int (1 : Int32)] [] [.ref 0, .int a, .int b, .int c, .int s, .int e, .int w, .int n, .int h] M o 0 0 1) ∧ (¬ (pI (In e 6)) = 0 → mCal l g d k_X12_would Φ 0 0 _ 57 k_X12_in false [.int w, .int (1 : Int32), .int (24 : Int32)] [.ref 0] [.ref 0, .int a, .int b, .int c, .int s, .int e, .int w, .int n, .int h] M o 0 0 1)
  refine ⟨fun h5 => ?_, fun h5 => ?_⟩
  · replace h5 := pI_0.mp h5
    refine ⟨trivial, fCi htr (r_bad1 hth (t := 1) (j := 1) (by decide) (by decide)) (by omega) ?_⟩
    show ((1 : Int32) = 0 → True ∧ mCal l g d k_X12_would Φ 0 0 _ 115 k_X12_callBy false [.ref 0, .int a, .int b, .int c, .int s, .int e, .int w, .int n, .int h] [] [.ref 0, .int a, .int b, .int c, .int s, .int e, .int w, .int n, .int h] (mset (mset M 0 0 1) 2 1 (M 2 1 + 1)) o 0 0 1) ∧ (¬ (1 : Int32) = 0 → Φ (.inl (some (.int (0 : Int32)))) (mset (mset M 0 0 1) 2 1 (M 2 1 + 1)) o ∧ 0 ≤ 0 ∧ 0 ≤ 0)
    rw [ifp_f (fun z => h5 z.2.2.2.2.1)] at hΦ
    first | exact br1a (eR (hΦ _ _ (rO_t hM (by decide) (by decide)))) | exact br1b (eR (hΦ _ _ (rO_t hM (by decide) (by decide))))
  replace h5 := pI_1.mp h5
  refine fCi htr (q_in _ _ _ _) (by omega) ?_
  show ((pI (1 ≤ w ∧ w ≤ 24)) = 0 → True ∧ mCal l g d k_X12_would Φ 0 0 _ 93 k_X12_bad false [.ref 0, .int (1 : Int32), .int (1 : Int32), .int (1 : Int32)] [] [.ref 0, .int a, .int b, .int c, .int s, .int e, .int w, .int n, .int h] M o 0 0 1) ∧ (¬ (pI (1 ≤ w ∧ w ≤ 24)) = 0 → mCal l g d k_X12_would Φ 0 0 _ 69 k_X12_in false [.int n, .int (0 : Int32), .int (300 : Int32)] [.ref 0] [.ref 0, .int a, .int b, .int c, .int s, .int e, .int w, .int n, .int h] M o 0 0 1)
  refine ⟨fun h6 => ?_, fun h6 => ?_⟩
  · replace h6 := pI_0.mp h6
    refine ⟨trivial, fCi htr (r_bad1 hth (t := 1) (j := 1) (by decide) (by decide)) (by omega) ?_⟩
    show ((1 : Int32) = 0 → True ∧ mCal l g d k_X12_would Φ 0 0 _ 115 k_X12_callBy false [.ref 0, .int a, .int b, .int c, .int s, .int e, .int w, .int n, .int h] [] [.ref 0, .int a, .int b, .int c, .int s, .int e, .int w, .int n, .int h] (mset (mset M 0 0 1) 2 1 (M 2 1 + 1)) o 0 0 1) ∧ (¬ (1 : Int32) = 0 → Φ (.inl (some (.int (0 : Int32)))) (mset (mset M 0 0 1) 2 1 (M 2 1 + 1)) o ∧ 0 ≤ 0 ∧ 0 ≤ 0)
    rw [ifp_f (fun z => h6 z.2.2.2.2.2.1)] at hΦ
    first | exact br1a (eR (hΦ _ _ (rO_t hM (by decide) (by decide)))) | exact br1b (eR (hΦ _ _ (rO_t hM (by decide) (by decide))))
  replace h6 := pI_1.mp h6
  refine fCi htr (r_inB (n := 301) (by omega) rfl) (by omega) ?_
  show ((pI (In n 301)) = 0 → True ∧ mCal l g d k_X12_would Φ 0 0 _ 93 k_X12_bad false [.ref 0, .int (1 : Int32), .int (1 : Int32), .int (1 : Int32)] [] [.ref 0, .int a, .int b, .int c, .int s, .int e, .int w, .int n, .int h] M o 0 0 1) ∧ (¬ (pI (In n 301)) = 0 → mCal l g d k_X12_would Φ 0 0 _ 80 k_X12_in false [.int h, .int (0 : Int32), .int (24 : Int32)] [.ref 0] [.ref 0, .int a, .int b, .int c, .int s, .int e, .int w, .int n, .int h] M o 0 0 1)
  refine ⟨fun h7 => ?_, fun h7 => ?_⟩
  · replace h7 := pI_0.mp h7
    refine ⟨trivial, fCi htr (r_bad1 hth (t := 1) (j := 1) (by decide) (by decide)) (by omega) ?_⟩
    show ((1 : Int32) = 0 → True ∧ mCal l g d k_X12_would Φ 0 0 _ 115 k_X12_callBy false [.ref 0, .int a, .int b, .int c, .int s, .int e, .int w, .int n, .int h] [] [.ref 0, .int a, .int b, .int c, .int s, .int e, .int w, .int n, .int h] (mset (mset M 0 0 1) 2 1 (M 2 1 + 1)) o 0 0 1) ∧ (¬ (1 : Int32) = 0 → Φ (.inl (some (.int (0 : Int32)))) (mset (mset M 0 0 1) 2 1 (M 2 1 + 1)) o ∧ 0 ≤ 0 ∧ 0 ≤ 0)
    rw [ifp_f (fun z => h7 z.2.2.2.2.2.2.1)] at hΦ
    first | exact br1a (eR (hΦ _ _ (rO_t hM (by decide) (by decide)))) | exact br1b (eR (hΦ _ _ (rO_t hM (by decide) (by decide))))
  replace h7 := pI_1.mp h7
  refine fCi htr (r_inB (n := 25) (by omega) rfl) (by omega) ?_
  show (¬ (pI (In h 25)) = 0 → True ∧ mCal l g d k_X12_would Φ 0 0 _ 93 k_X12_bad false [.ref 0, .int (0 : Int32), .int (1 : Int32), .int (1 : Int32)] [] [.ref 0, .int a, .int b, .int c, .int s, .int e, .int w, .int n, .int h] M o 0 0 1) ∧ ((pI (In h 25)) = 0 → True ∧ mCal l g d k_X12_would Φ 0 0 _ 93 k_X12_bad false [.ref 0, .int (1 : Int32), .int (1 : Int32), .int (1 : Int32)] [] [.ref 0, .int a, .int b, .int c, .int s, .int e, .int w, .int n, .int h] M o 0 0 1)
  refine and_sw (fun h8 => ?_) (fun h8 => ?_)
  · replace h8 := pI_0.mp h8
    refine ⟨trivial, fCi htr (r_bad1 hth (t := 1) (j := 1) (by decide) (by decide)) (by omega) ?_⟩
    show ((1 : Int32) = 0 → True ∧ mCal l g d k_X12_would Φ 0 0 _ 115 k_X12_callBy false [.ref 0, .int a, .int b, .int c, .int s, .int e, .int w, .int n, .int h] [] [.ref 0, .int a, .int b, .int c, .int s, .int e, .int w, .int n, .int h] (mset (mset M 0 0 1) 2 1 (M 2 1 + 1)) o 0 0 1) ∧ (¬ (1 : Int32) = 0 → Φ (.inl (some (.int (0 : Int32)))) (mset (mset M 0 0 1) 2 1 (M 2 1 + 1)) o ∧ 0 ≤ 0 ∧ 0 ≤ 0)
    rw [ifp_f (fun z => h8 z.2.2.2.2.2.2.2)] at hΦ
    first | exact br1a (eR (hΦ _ _ (rO_t hM (by decide) (by decide)))) | exact br1b (eR (hΦ _ _ (rO_t hM (by decide) (by decide))))
  replace h8 := pI_1.mp h8
  refine ⟨trivial, fCi htr (r_bad0 hth _ _) (by omega) ?_⟩
  show ((0 : Int32) = 0 → True ∧ mCal l g d k_X12_would Φ 0 0 _ 115 k_X12_callBy false [.ref 0, .int a, .int b, .int c, .int s, .int e, .int w, .int n, .int h] [] [.ref 0, .int a, .int b, .int c, .int s, .int e, .int w, .int n, .int h] M o 0 0 1) ∧ (¬ (0 : Int32) = 0 → Φ (.inl (some (.int (0 : Int32)))) M o ∧ 0 ≤ 0 ∧ 0 ≤ 0)
  rw [ifp_t (⟨h1, h2, h3, h4, h5, h6, h7, h8⟩)] at hΦ
  first | refine br0a ?_ | refine br0b ?_
  refine ⟨trivial, nCi htr (r_callBy hA.2 hM (by omega) _ _ _ _ _ _ _ _) (by omega) ?_⟩
  intro x m2 hx
  exact eR (hΦ _ _ (rO_k (eqK_Cn hx.2 hC) hx.1))
theorem r_says (hA : Sv A) {m : Mm} (hm : cl m = A) (hd : 7 ≤ d) (a b : Int32) : mHi l g d k_X12_says [.ref 0, .int a, .int b] m (rO A (qSay A a b)) := by
  have hN := hA.1.1
  have hN2 := hA.1.2.2.1
  refine nBi 0 rfl rfl rfl (by decide) rfl (fun htr o Φ hΦ => mGoOn (mOk (by decide)) rfl [] 400 ?_)
  show True ∧ mCal l g d k_X12_says Φ 0 0 _ 8 k_X12_isMan false [.ref 0, .int a] [.ref 0] [.ref 0, .int a, .int b] (mset m 0 0 (0 : Int32)) o 0 0 1
  have hC := Cn_0 hm
  generalize mset m 0 0 (0 : Int32) = M at hC ⊢
  clear hm
  obtain ⟨hM, hth⟩ := hC
  have hC : Cn A M := ⟨hM, hth⟩
  unfold qSay at hΦ
  refine ⟨trivial, fCi htr (r_isMan hA.1 hM (by omega) _) (by omega) ?_⟩
  show ((pI (In a (nM A))) = 0 → True ∧ mCal l g d k_X12_says Φ 0 0 _ 29 k_X12_bad false [.ref 0, .int (1 : Int32), .int (1 : Int32), .int (0 : Int32)] [] [.ref 0, .int a, .int b] M o 0 0 1) ∧ (¬ (pI (In a (nM A))) = 0 → True ∧ mCal l g d k_X12_says Φ 0 0 _ 16 k_X12_isStreet false [.ref 0, .int b] [.ref 0] [.ref 0, .int a, .int b] M o 0 0 1)
  refine ⟨fun h1 => ?_, fun h1 => ?_⟩
  · replace h1 := pI_0.mp h1
    refine ⟨trivial, fCi htr (r_bad1 hth (t := 1) (j := 0) (by decide) (by decide)) (by omega) ?_⟩
    show ((1 : Int32) = 0 → True ∧ mCal l g d k_X12_says Φ 0 0 _ 44 k_X12_saysIn false [.ref 0, .ref 494, .int a, .int b] [] [.ref 0, .int a, .int b] (mset (mset M 0 0 1) 2 0 (M 2 0 + 1)) o 0 0 1) ∧ (¬ (1 : Int32) = 0 → Φ (.inl (some (.int (0 : Int32)))) (mset (mset M 0 0 1) 2 0 (M 2 0 + 1)) o ∧ 0 ≤ 0 ∧ 0 ≤ 0)
    rw [ifp_f (fun z => h1 z.1)] at hΦ
    first | exact br1a (eR (hΦ _ _ (rO_t hM (by decide) (by decide)))) | exact br1b (eR (hΦ _ _ (rO_t hM (by decide) (by decide))))
  replace h1 := pI_1.mp h1
  refine ⟨trivial, fCi htr (r_isStreet hA.1 hM (by omega) _) (by omega) ?_⟩
  show (¬ (pI (In b (nS A))) = 0 → True ∧ mCal l g d k_X12_says Φ 0 0 _ 29 k_X12_bad false [.ref 0, .int (0 : Int32), .int (1 : Int32), .int (0 : Int32)] [] [.ref 0, .int a, .int b] M o 0 0 1) ∧ ((pI (In b (nS A))) = 0 → True ∧ mCal l g d k_X12_says Φ 0 0 _ 29 k_X12_bad false [.ref 0, .int (1 : Int32), .int (1 : Int32), .int (0 : Int32)] [] [.ref 0, .int a, .int b] M o 0 0 1)
  refine and_sw (fun h2 => ?_) (fun h2 => ?_)
  · replace h2 := pI_0.mp h2
    refine ⟨trivial, fCi htr (r_bad1 hth (t := 1) (j := 0) (by decide) (by decide)) (by omega) ?_⟩
    show ((1 : Int32) = 0 → True ∧ mCal l g d k_X12_says Φ 0 0 _ 44 k_X12_saysIn false [.ref 0, .ref 494, .int a, .int b] [] [.ref 0, .int a, .int b] (mset (mset M 0 0 1) 2 0 (M 2 0 + 1)) o 0 0 1) ∧ (¬ (1 : Int32) = 0 → Φ (.inl (some (.int (0 : Int32)))) (mset (mset M 0 0 1) 2 0 (M 2 0 + 1)) o ∧ 0 ≤ 0 ∧ 0 ≤ 0)
    rw [ifp_f (fun z => h2 z.2)] at hΦ
    first | exact br1a (eR (hΦ _ _ (rO_t hM (by decide) (by decide)))) | exact br1b (eR (hΦ _ _ (rO_t hM (by decide) (by decide))))
  replace h2 := pI_1.mp h2
  refine ⟨trivial, fCi htr (r_bad0 hth _ _) (by omega) ?_⟩
  show ((0 : Int32) = 0 → True ∧ mCal l g d k_X12_says Φ 0 0 _ 44 k_X12_saysIn false [.ref 0, .ref 494, .int a, .int b] [] [.ref 0, .int a, .int b] M o 0 0 1) ∧ (¬ (0 : Int32) = 0 → Φ (.inl (some (.int (0 : Int32)))) M o ∧ 0 ≤ 0 ∧ 0 ≤ 0)
  rw [ifp_t (⟨h1, h2⟩)] at hΦ
  first | refine br0a ?_ | refine br0b ?_
  obtain ⟨a, ha, rfl⟩ := h1
  obtain ⟨b, hb, rfl⟩ := h2
  rw [nI_cl (by omega), nI_cl (by omega)] at hΦ
  refine ⟨trivial, nCi htr (r_sayN hA hC (by omega) ha (by omega)) (by omega) ?_⟩
  intro x m2 hx
  exact eR (hΦ _ _ (rO_k hx.2 hx.1))
theorem r_wakes (hA : Sv A) {m : Mm} (hm : cl m = A) (hd : 7 ≤ d) (a b : Int32) : mHi l g d k_X12_wakes [.ref 0, .int a, .int b] m (rO A (qWak A a b)) := by
  have hN := hA.1.1
  have hN2 := hA.1.2.2.1
  refine nBi 0 rfl rfl rfl (by decide) rfl (fun htr o Φ hΦ => mGoOn (mOk (by decide)) rfl [] 400 ?_)
  show True ∧ mCal l g d k_X12_wakes Φ 0 0 _ 8 k_X12_isMan false [.ref 0, .int a] [.ref 0] [.ref 0, .int a, .int b] (mset m 0 0 (0 : Int32)) o 0 0 1
  have hC := Cn_0 hm
  generalize mset m 0 0 (0 : Int32) = M at hC ⊢
  clear hm
  obtain ⟨hM, hth⟩ := hC
  have hC : Cn A M := ⟨hM, hth⟩
  unfold qWak at hΦ
  refine ⟨trivial, fCi htr (r_isMan hA.1 hM (by omega) _) (by omega) ?_⟩
  show ((pI (In a (nM A))) = 0 → True ∧ mCal l g d k_X12_wakes Φ 0 0 _ 29 k_X12_bad false [.ref 0, .int (1 : Int32), .int (1 : Int32), .int (0 : Int32)] [] [.ref 0, .int a, .int b] M o 0 0 1) ∧ (¬ (pI (In a (nM A))) = 0 → True ∧ mCal l g d k_X12_wakes Φ 0 0 _ 16 k_X12_isStreet false [.ref 0, .int b] [.ref 0] [.ref 0, .int a, .int b] M o 0 0 1)
  refine ⟨fun h1 => ?_, fun h1 => ?_⟩
  · replace h1 := pI_0.mp h1
    refine ⟨trivial, fCi htr (r_bad1 hth (t := 1) (j := 0) (by decide) (by decide)) (by omega) ?_⟩
    show ((1 : Int32) = 0 → True ∧ mCal l g d k_X12_wakes Φ 0 0 _ 40 k_X12_wakesBy false [.ref 0, .int a, .int b] [] [.ref 0, .int a, .int b] (mset (mset M 0 0 1) 2 0 (M 2 0 + 1)) o 0 0 1) ∧ (¬ (1 : Int32) = 0 → Φ (.inl (some (.int (0 : Int32)))) (mset (mset M 0 0 1) 2 0 (M 2 0 + 1)) o ∧ 0 ≤ 0 ∧ 0 ≤ 0)
    rw [ifp_f (fun z => h1 z.1)] at hΦ
    first | exact br1a (eR (hΦ _ _ (rO_t hM (by decide) (by decide)))) | exact br1b (eR (hΦ _ _ (rO_t hM (by decide) (by decide))))
  replace h1 := pI_1.mp h1
  refine ⟨trivial, fCi htr (r_isStreet hA.1 hM (by omega) _) (by omega) ?_⟩
  show (¬ (pI (In b (nS A))) = 0 → True ∧ mCal l g d k_X12_wakes Φ 0 0 _ 29 k_X12_bad false [.ref 0, .int (0 : Int32), .int (1 : Int32), .int (0 : Int32)] [] [.ref 0, .int a, .int b] M o 0 0 1) ∧ ((pI (In b (nS A))) = 0 → True ∧ mCal l g d k_X12_wakes Φ 0 0 _ 29 k_X12_bad false [.ref 0, .int (1 : Int32), .int (1 : Int32), .int (0 : Int32)] [] [.ref 0, .int a, .int b] M o 0 0 1)
  refine and_sw (fun h2 => ?_) (fun h2 => ?_)
  · replace h2 := pI_0.mp h2
    refine ⟨trivial, fCi htr (r_bad1 hth (t := 1) (j := 0) (by decide) (by decide)) (by omega) ?_⟩
    show ((1 : Int32) = 0 → True ∧ mCal l g d k_X12_wakes Φ 0 0 _ 40 k_X12_wakesBy false [.ref 0, .int a, .int b] [] [.ref 0, .int a, .int b] (mset (mset M 0 0 1) 2 0 (M 2 0 + 1)) o 0 0 1) ∧ (¬ (1 : Int32) = 0 → Φ (.inl (some (.int (0 : Int32)))) (mset (mset M 0 0 1) 2 0 (M 2 0 + 1)) o ∧ 0 ≤ 0 ∧ 0 ≤ 0)
    rw [ifp_f (fun z => h2 z.2)] at hΦ
    first | exact br1a (eR (hΦ _ _ (rO_t hM (by decide) (by decide)))) | exact br1b (eR (hΦ _ _ (rO_t hM (by decide) (by decide))))
  replace h2 := pI_1.mp h2
  refine ⟨trivial, fCi htr (r_bad0 hth _ _) (by omega) ?_⟩
  show ((0 : Int32) = 0 → True ∧ mCal l g d k_X12_wakes Φ 0 0 _ 40 k_X12_wakesBy false [.ref 0, .int a, .int b] [] [.ref 0, .int a, .int b] M o 0 0 1) ∧ (¬ (0 : Int32) = 0 → Φ (.inl (some (.int (0 : Int32)))) M o ∧ 0 ≤ 0 ∧ 0 ≤ 0)
  rw [ifp_t (⟨h1, h2⟩)] at hΦ
  first | refine br0a ?_ | refine br0b ?_
  obtain ⟨a, ha, rfl⟩ := h1
  obtain ⟨b, hb, rfl⟩ := h2
  rw [nI_cl (by omega), nI_cl (by omega)] at hΦ
  refine ⟨trivial, nCi htr (r_wakesBy hA hC (by omega) ha (by omega)) (by omega) ?_⟩
  intro x m2 hx
  exact eR (hΦ _ _ (rO_k hx.2 hx.1))
theorem r_way (hA : CtB A) {m : Mm} (hm : cl m = A) (hd : 3 ≤ d) (a b : Int32) : mHi l g d k_X12_way [.ref 0, .int a, .int b] m (rO A (qWay A a b)) := by
  have hN := hA.1
  refine nBi 0 rfl rfl rfl (by decide) rfl (fun htr o Φ hΦ => mGoOn (mOk (by decide)) rfl [] 400 ?_)
  show True ∧ mCal l g d k_X12_way Φ 0 0 _ 8 k_X12_isStreet false [.ref 0, .int a] [.ref 0] [.ref 0, .int a, .int b] (mset m 0 0 (0 : Int32)) o 0 0 1
  have hC := Cn_0 hm
  generalize mset m 0 0 (0 : Int32) = M at hC ⊢
  clear hm
  obtain ⟨hM, hth⟩ := hC
  have hC : Cn A M := ⟨hM, hth⟩
  unfold qWay at hΦ
  refine ⟨trivial, fCi htr (r_isStreet hA hM (by omega) _) (by omega) ?_⟩
  show ((pI (In a (nS A))) = 0 → True ∧ mCal l g d k_X12_way Φ 0 0 _ 29 k_X12_bad false [.ref 0, .int (1 : Int32), .int (1 : Int32), .int (0 : Int32)] [] [.ref 0, .int a, .int b] M o 0 0 1) ∧ (¬ (pI (In a (nS A))) = 0 → True ∧ mCal l g d k_X12_way Φ 0 0 _ 16 k_X12_isStreet false [.ref 0, .int b] [.ref 0] [.ref 0, .int a, .int b] M o 0 0 1)
  refine ⟨fun h1 => ?_, fun h1 => ?_⟩
  · replace h1 := pI_0.mp h1
    refine ⟨trivial, fCi htr (r_bad1 hth (t := 1) (j := 0) (by decide) (by decide)) (by omega) ?_⟩
    show ((1 : Int32) = 0 → True ∧ mCal l g d k_X12_way Φ 0 0 _ 40 k_X12_all false [.ref 0] [.int a, .ref 0] [.ref 0, .int a, .int b] (mset (mset M 0 0 1) 2 0 (M 2 0 + 1)) o 0 0 1) ∧ (¬ (1 : Int32) = 0 → Φ (.inl (some (.int (0 : Int32)))) (mset (mset M 0 0 1) 2 0 (M 2 0 + 1)) o ∧ 0 ≤ 0 ∧ 0 ≤ 0)
    rw [ifp_f (fun z => h1 z.1)] at hΦ
    first | exact br1a (eR (hΦ _ _ (rO_t hM (by decide) (by decide)))) | exact br1b (eR (hΦ _ _ (rO_t hM (by decide) (by decide))))
  replace h1 := pI_1.mp h1
  refine ⟨trivial, fCi htr (r_isStreet hA hM (by omega) _) (by omega) ?_⟩
  show (¬ (pI (In b (nS A))) = 0 → True ∧ mCal l g d k_X12_way Φ 0 0 _ 29 k_X12_bad false [.ref 0, .int (0 : Int32), .int (1 : Int32), .int (0 : Int32)] [] [.ref 0, .int a, .int b] M o 0 0 1) ∧ ((pI (In b (nS A))) = 0 → True ∧ mCal l g d k_X12_way Φ 0 0 _ 29 k_X12_bad false [.ref 0, .int (1 : Int32), .int (1 : Int32), .int (0 : Int32)] [] [.ref 0, .int a, .int b] M o 0 0 1)
  refine and_sw (fun h2 => ?_) (fun h2 => ?_)
  · replace h2 := pI_0.mp h2
    refine ⟨trivial, fCi htr (r_bad1 hth (t := 1) (j := 0) (by decide) (by decide)) (by omega) ?_⟩
    show ((1 : Int32) = 0 → True ∧ mCal l g d k_X12_way Φ 0 0 _ 40 k_X12_all false [.ref 0] [.int a, .ref 0] [.ref 0, .int a, .int b] (mset (mset M 0 0 1) 2 0 (M 2 0 + 1)) o 0 0 1) ∧ (¬ (1 : Int32) = 0 → Φ (.inl (some (.int (0 : Int32)))) (mset (mset M 0 0 1) 2 0 (M 2 0 + 1)) o ∧ 0 ≤ 0 ∧ 0 ≤ 0)
    rw [ifp_f (fun z => h2 z.2)] at hΦ
    first | exact br1a (eR (hΦ _ _ (rO_t hM (by decide) (by decide)))) | exact br1b (eR (hΦ _ _ (rO_t hM (by decide) (by decide))))
  replace h2 := pI_1.mp h2
  refine ⟨trivial, fCi htr (r_bad0 hth _ _) (by omega) ?_⟩
  show ((0 : Int32) = 0 → True ∧ mCal l g d k_X12_way Φ 0 0 _ 40 k_X12_all false [.ref 0] [.int a, .ref 0] [.ref 0, .int a, .int b] M o 0 0 1) ∧ (¬ (0 : Int32) = 0 → Φ (.inl (some (.int (0 : Int32)))) M o ∧ 0 ≤ 0 ∧ 0 ≤ 0)
  rw [ifp_t (⟨h1, h2⟩)] at hΦ
  first | refine br0a ?_ | refine br0b ?_
  obtain ⟨a, ha, rfl⟩ := h1
  obtain ⟨b, hb, rfl⟩ := h2
  rw [nI_cl (by omega), nI_cl (by omega)] at hΦ
  refine ⟨trivial, fCi htr (r_all hA hM) (by omega) ?_⟩
  refine ⟨trivial, nCv htr (r_laysFar hA hM (by omega) (by omega) _) (by omega) ?_⟩
  intro m2 hx
  show mReq (mInB (nI b) 9) (Φ (.inl (some (.int (m2 517 ((nI b).toNatClampNeg))))) m2 o ∧ 0 ≤ 0 ∧ 0 ≤ 0)
  simp (disch := omega) only [mReq_tt, nI_0a, nI_a0, nI_cl, mIn_ok, lit_add, lit_sub, add_lit, lit_le, le_lit, lit_lt, lt_lit, eq_lit, nI_add, nI_1, nI_leI, nI_ltI, nI_eq, mIn_lit, mIn_0, mIn_1, mIn_2, mIn_3, nI_l0, nI_p0, rf_22, rf_44, rf_60, rf_69, rf_391, rf_7, rf_37, rf_51, rf_230, rf_401, rf_413, rf_496, rf_513, rf_518, sB_2, sB_3, sB_4, sB_5, sB_6, sB_7, sL_2, sL_3, sL_4, sL_5, sL_6, sL_7, not_true_eq_false, not_false_eq_true, false_implies, true_implies, true_and, and_true, eq_self, true_or, or_true, Nat.le_refl, Nat.zero_add, Nat.add_zero]
  exact hΦ _ _ (rO_k (eqF_Cn hx.1 hC) (hx.2 b hb))
theorem r_past (hA : CtB A) {m : Mm} (hm : cl m = A) (hd : 3 ≤ d) (a b h : Int32) : mHi l g d k_X12_past [.ref 0, .int a, .int b, .int h] m (rO A (qPst A a b h)) := by
  have hN := hA.1
  refine nBi 0 rfl rfl rfl (by decide) rfl (fun htr o Φ hΦ => mGoOn (mOk (by decide)) rfl [] 400 ?_)
  show True ∧ mCal l g d k_X12_past Φ 0 0 _ 8 k_X12_isStreet false [.ref 0, .int a] [.ref 0] [.ref 0, .int a, .int b, .int h] (mset m 0 0 (0 : Int32)) o 0 0 1
  have hC := Cn_0 hm
  generalize mset m 0 0 (0 : Int32) = M at hC ⊢
  clear hm
  obtain ⟨hM, hth⟩ := hC
  have hC : Cn A M := ⟨hM, hth⟩
  unfold qPst at hΦ
  refine ⟨trivial, fCi htr (r_isStreet hA hM (by omega) _) (by omega) ?_⟩
  show ((pI (In a (nS A))) = 0 → True ∧ mCal l g d k_X12_past Φ 0 0 _ 29 k_X12_bad false [.ref 0, .int (1 : Int32), .int (1 : Int32), .int (0 : Int32)] [] [.ref 0, .int a, .int b, .int h] M o 0 0 1) ∧ (¬ (pI (In a (nS A))) = 0 → True ∧ mCal l g d k_X12_past Φ 0 0 _ 16 k_X12_isStreet false [.ref 0, .int b] [.ref 0] [.ref 0, .int a, .int b, .int h] M o 0 0 1)
  refine ⟨fun h1 => ?_, fun h1 => ?_⟩
  · replace h1 := pI_0.mp h1
    refine ⟨trivial, fCi htr (r_bad1 hth (t := 1) (j := 0) (by decide) (by decide)) (by omega) ?_⟩
    show (¬ (1 : Int32) = 0 → Φ (.inl (some (.int (0 : Int32)))) (mset (mset M 0 0 1) 2 0 (M 2 0 + 1)) o ∧ 0 ≤ 0 ∧ 0 ≤ 0) ∧ ((1 : Int32) = 0 → mCal l g d k_X12_past Φ 0 0 _ 37 k_X12_isHour false [.int h] [.ref 0] [.ref 0, .int a, .int b, .int h] (mset (mset M 0 0 1) 2 0 (M 2 0 + 1)) o 0 0 1)
    rw [ifp_f (fun z => h1 z.1)] at hΦ
    first | exact br1a (eR (hΦ _ _ (rO_t hM (by decide) (by decide)))) | exact br1b (eR (hΦ _ _ (rO_t hM (by decide) (by decide))))
  replace h1 := pI_1.mp h1
  refine ⟨trivial, fCi htr (r_isStreet hA hM (by omega) _) (by omega) ?_⟩
  show (¬ (pI (In b (nS A))) = 0 → True ∧ mCal l g d k_X12_past Φ 0 0 _ 29 k_X12_bad false [.ref 0, .int (0 : Int32), .int (1 : Int32), .int (0 : Int32)] [] [.ref 0, .int a, .int b, .int h] M o 0 0 1) ∧ ((pI (In b (nS A))) = 0 → True ∧ mCal l g d k_X12_past Φ 0 0 _ 29 k_X12_bad false [.ref 0, .int (1 : Int32), .int (1 : Int32), .int (0 : Int32)] [] [.ref 0, .int a, .int b, .int h] M o 0 0 1)
  refine and_sw (fun h2 => ?_) (fun h2 => ?_)
  · replace h2 := pI_0.mp h2
    refine ⟨trivial, fCi htr (r_bad1 hth (t := 1) (j := 0) (by decide) (by decide)) (by omega) ?_⟩
    show (¬ (1 : Int32) = 0 → Φ (.inl (some (.int (0 : Int32)))) (mset (mset M 0 0 1) 2 0 (M 2 0 + 1)) o ∧ 0 ≤ 0 ∧ 0 ≤ 0) ∧ ((1 : Int32) = 0 → mCal l g d k_X12_past Φ 0 0 _ 37 k_X12_isHour false [.int h] [.ref 0] [.ref 0, .int a, .int b, .int h] (mset (mset M 0 0 1) 2 0 (M 2 0 + 1)) o 0 0 1)
    rw [ifp_f (fun z => h2 z.2)] at hΦ
    first | exact br1a (eR (hΦ _ _ (rO_t hM (by decide) (by decide)))) | exact br1b (eR (hΦ _ _ (rO_t hM (by decide) (by decide))))
  replace h2 := pI_1.mp h2
  refine ⟨trivial, fCi htr (r_bad0 hth _ _) (by omega) ?_⟩
  show (¬ (0 : Int32) = 0 → Φ (.inl (some (.int (0 : Int32)))) M o ∧ 0 ≤ 0 ∧ 0 ≤ 0) ∧ ((0 : Int32) = 0 → mCal l g d k_X12_past Φ 0 0 _ 37 k_X12_isHour false [.int h] [.ref 0] [.ref 0, .int a, .int b, .int h] M o 0 0 1)
  rw [ifp_t (⟨h1, h2⟩)] at hΦ
  first | refine br0a ?_ | refine br0b ?_
  refine fCi htr (r_isHour (by omega) _) (by omega) ?_
  show (¬ (pI (In h 24)) = 0 → True ∧ mCal l g d k_X12_past Φ 0 0 _ 50 k_X12_bad false [.ref 0, .int (0 : Int32), .int (2 : Int32), .int (1 : Int32)] [] [.ref 0, .int a, .int b, .int h] M o 0 0 1) ∧ ((pI (In h 24)) = 0 → True ∧ mCal l g d k_X12_past Φ 0 0 _ 50 k_X12_bad false [.ref 0, .int (1 : Int32), .int (2 : Int32), .int (1 : Int32)] [] [.ref 0, .int a, .int b, .int h] M o 0 0 1)
  refine and_sw (fun h3 => ?_) (fun h3 => ?_)
  · replace h3 := pI_0.mp h3
    refine ⟨trivial, fCi htr (r_bad1 hth (t := 2) (j := 1) (by decide) (by decide)) (by omega) ?_⟩
    show ((1 : Int32) = 0 → True ∧ mCal l g d k_X12_past Φ 0 0 _ 61 k_X12_all false [.ref 0] [.int a, .ref 0] [.ref 0, .int a, .int b, .int h] (mset (mset M 0 0 2) 2 1 (M 2 1 + 1)) o 0 0 1) ∧ (¬ (1 : Int32) = 0 → Φ (.inl (some (.int (0 : Int32)))) (mset (mset M 0 0 2) 2 1 (M 2 1 + 1)) o ∧ 0 ≤ 0 ∧ 0 ≤ 0)
    rw [ifp_f (h3)] at hΦ
    first | exact br1a (eR (hΦ _ _ (rO_t hM (by decide) (by decide)))) | exact br1b (eR (hΦ _ _ (rO_t hM (by decide) (by decide))))
  replace h3 := pI_1.mp h3
  refine ⟨trivial, fCi htr (r_bad0 hth _ _) (by omega) ?_⟩
  show ((0 : Int32) = 0 → True ∧ mCal l g d k_X12_past Φ 0 0 _ 61 k_X12_all false [.ref 0] [.int a, .ref 0] [.ref 0, .int a, .int b, .int h] M o 0 0 1) ∧ (¬ (0 : Int32) = 0 → Φ (.inl (some (.int (0 : Int32)))) M o ∧ 0 ≤ 0 ∧ 0 ≤ 0)
  rw [ifp_t (h3)] at hΦ
  first | refine br0a ?_ | refine br0b ?_
  obtain ⟨a, ha, rfl⟩ := h1
  obtain ⟨b, hb, rfl⟩ := h2
  rw [nI_cl (by omega), nI_cl (by omega)] at hΦ
  refine ⟨trivial, fCi htr (r_all hA hM) (by omega) ?_⟩
  refine ⟨trivial, fCi htr (r_soundsOf hA hM _) (by omega) ?_⟩
  refine ⟨trivial, nCv htr (r_laysFar hA hM (by omega) (by omega) _) (by omega) ?_⟩
  intro m2 hx
  show mReq (mInB (nI b) 9) (Φ (.inl (some (.int (m2 517 ((nI b).toNatClampNeg))))) m2 o ∧ 0 ≤ 0 ∧ 0 ≤ 0)
  simp (disch := omega) only [mReq_tt, nI_0a, nI_a0, nI_cl, mIn_ok, lit_add, lit_sub, add_lit, lit_le, le_lit, lit_lt, lt_lit, eq_lit, nI_add, nI_1, nI_leI, nI_ltI, nI_eq, mIn_lit, mIn_0, mIn_1, mIn_2, mIn_3, nI_l0, nI_p0, rf_22, rf_44, rf_60, rf_69, rf_391, rf_7, rf_37, rf_51, rf_230, rf_401, rf_413, rf_496, rf_513, rf_518, sB_2, sB_3, sB_4, sB_5, sB_6, sB_7, sL_2, sL_3, sL_4, sL_5, sL_6, sL_7, not_true_eq_false, not_false_eq_true, false_implies, true_implies, true_and, and_true, eq_self, true_or, or_true, Nat.le_refl, Nat.zero_add, Nat.add_zero]
  exact hΦ _ _ (rO_k (eqF_Cn hx.1 hC) (hx.2 b hb))
theorem r_sounds (hA : CtB A) {m : Mm} (hm : cl m = A) (hd : 3 ≤ d) (h : Int32) : mHi l g d k_X12_sounds [.ref 0, .int h] m (rO A (qSnd A h)) := by
  refine nBi 0 rfl rfl rfl (by decide) rfl (fun htr o Φ hΦ => mGoOn (mOk (by decide)) rfl [] 400 ?_)
  show mCal l g d k_X12_sounds Φ 0 0 _ 7 k_X12_isHour false [.int h] [.ref 0] [.ref 0, .int h] (mset m 0 0 (0 : Int32)) o 0 0 1
  have hC := Cn_0 hm
  generalize mset m 0 0 (0 : Int32) = M at hC ⊢
  clear hm
  obtain ⟨hM, hth⟩ := hC
  have hC : Cn A M := ⟨hM, hth⟩
  unfold qSnd at hΦ
  refine fCi htr (r_isHour (by omega) _) (by omega) ?_
  show (¬ (pI (In h 24)) = 0 → True ∧ mCal l g d k_X12_sounds Φ 0 0 _ 20 k_X12_bad false [.ref 0, .int (0 : Int32), .int (1 : Int32), .int (1 : Int32)] [] [.ref 0, .int h] M o 0 0 1) ∧ ((pI (In h 24)) = 0 → True ∧ mCal l g d k_X12_sounds Φ 0 0 _ 20 k_X12_bad false [.ref 0, .int (1 : Int32), .int (1 : Int32), .int (1 : Int32)] [] [.ref 0, .int h] M o 0 0 1)
  refine and_sw (fun h1 => ?_) (fun h1 => ?_)
  · replace h1 := pI_0.mp h1
    refine ⟨trivial, fCi htr (r_bad1 hth (t := 1) (j := 1) (by decide) (by decide)) (by omega) ?_⟩
    show ((1 : Int32) = 0 → True ∧ mCal l g d k_X12_sounds Φ 0 0 _ 30 k_X12_soundsOf false [.ref 0, .int h] [] [.ref 0, .int h] (mset (mset M 0 0 1) 2 1 (M 2 1 + 1)) o 0 0 1) ∧ (¬ (1 : Int32) = 0 → Φ (.inl (some (.int (0 : Int32)))) (mset (mset M 0 0 1) 2 1 (M 2 1 + 1)) o ∧ 0 ≤ 0 ∧ 0 ≤ 0)
    rw [ifp_f (h1)] at hΦ
    first | exact br1a (eR (hΦ _ _ (rO_t hM (by decide) (by decide)))) | exact br1b (eR (hΦ _ _ (rO_t hM (by decide) (by decide))))
  replace h1 := pI_1.mp h1
  refine ⟨trivial, fCi htr (r_bad0 hth _ _) (by omega) ?_⟩
  show ((0 : Int32) = 0 → True ∧ mCal l g d k_X12_sounds Φ 0 0 _ 30 k_X12_soundsOf false [.ref 0, .int h] [] [.ref 0, .int h] M o 0 0 1) ∧ (¬ (0 : Int32) = 0 → Φ (.inl (some (.int (0 : Int32)))) M o ∧ 0 ≤ 0 ∧ 0 ≤ 0)
  rw [ifp_t (h1)] at hΦ
  first | refine br0a ?_ | refine br0b ?_
  exact ⟨trivial, fCi htr (r_soundsOf hA hM _) (by omega) (eR (hΦ _ _ (rO_k hC rfl)))⟩
theorem r_silent (hA : CtB A) {m : Mm} (hm : cl m = A) (hd : 3 ≤ d) : mHi l g d k_X12_silent [.ref 0] m (rO A (0, 0, snd A 24)) := by
  refine nBi 0 rfl rfl rfl (by decide) rfl (fun htr o Φ hΦ => mGoOn (mOk (by decide)) rfl [] 400 ?_)
  show True ∧ mCal l g d k_X12_silent Φ 0 0 _ 8 k_X12_soundsOf false [.ref 0, .int (24 : Int32)] [] [.ref 0] (mset m 0 0 (0 : Int32)) o 0 0 1
  have hC := Cn_0 hm
  generalize mset m 0 0 (0 : Int32) = M at hC ⊢
  clear hm
  obtain ⟨hM, hth⟩ := hC
  have hC : Cn A M := ⟨hM, hth⟩
  exact ⟨trivial, fCi htr (r_soundsOf hA hM _) (by omega) (eR (hΦ _ _ (rO_k hC rfl)))⟩
theorem r_fault {m : Mm} (hm : cl m = A) : mHi l g d k_X12_fault [.ref 0] m (rO A (0, 0, A 0 3)) := by
  refine nBi 0 rfl rfl rfl (by decide) rfl (fun htr o Φ hΦ => mGoOn (mOk (by decide)) rfl [] 400 ?_)
  show Φ (.inl (some (.int ((mset m 0 0 (0 : Int32)) 0 3)))) (mset m 0 0 (0 : Int32)) o ∧ 0 ≤ 0 ∧ 0 ≤ 0
  have hC := Cn_0 hm
  generalize mset m 0 0 (0 : Int32) = M at hC ⊢
  clear hm
  obtain ⟨hM, hth⟩ := hC
  have hC : Cn A M := ⟨hM, hth⟩
  exact eR (hΦ _ _ (rO_k hC (clO hM (by omega))))
theorem r_count {m : Mm} (hm : cl m = A) (w : Int32) : mHi l g d k_X12_count [.ref 0, .int w] m (rO A (0, 0, if w = 0 then A 0 38 else if w = 1 then A 0 1 else if w = 2 then A 0 36 else -1)) := by
  refine nBi 0 rfl rfl rfl (by decide) rfl (fun htr o Φ hΦ => mGoOn (mOk (by decide)) rfl [] 400 ?_)
  show (¬ w = 0 → (¬ w = (1 : Int32) → (¬ w = (2 : Int32) → Φ (.inl (some (.int (-1 : Int32)))) (mset m 0 0 (0 : Int32)) o ∧ 0 ≤ 0 ∧ 0 ≤ 0) ∧ (w = (2 : Int32) → Φ (.inl (some (.int ((mset m 0 0 (0 : Int32)) 0 36)))) (mset m 0 0 (0 : Int32)) o ∧ 0 ≤ 0 ∧ 0 ≤ 0)) ∧ (w = (1 : Int32) → Φ (.inl (some (.int ((mset m 0 0 (0 : Int32)) 0 1)))) (mset m 0 0 (0 : Int32)) o ∧ 0 ≤ 0 ∧ 0 ≤ 0)) ∧ (w = 0 → Φ (.inl (some (.int ((mset m 0 0 (0 : Int32)) 0 38)))) (mset m 0 0 (0 : Int32)) o ∧ 0 ≤ 0 ∧ 0 ≤ 0)
  have hC := Cn_0 hm
  generalize mset m 0 0 (0 : Int32) = M at hC ⊢
  clear hm
  obtain ⟨hM, hth⟩ := hC
  have hC : Cn A M := ⟨hM, hth⟩
  rw [clO hM (by omega), clO hM (by omega), clO hM (by omega)]
  refine ⟨fun h1 => ⟨fun h2 => ⟨fun h3 => ?_, fun h3 => ?_⟩, fun h2 => ?_⟩, fun h1 => ?_⟩
  · exact eR (hΦ _ _ (rO_k hC (by rw [if_neg h1, if_neg h2, if_neg h3])))
  · exact eR (hΦ _ _ (rO_k hC (by rw [if_neg h1, if_neg h2, if_pos h3])))
  · exact eR (hΦ _ _ (rO_k hC (by rw [if_neg h1, if_pos h2])))
  · exact eR (hΦ _ _ (rO_k hC (by rw [if_pos h1])))
noncomputable def vSta (A : Mm) (w : Int32) : Int32 := ifp (In w 2) (A 2 w.toNatClampNeg) (-1)
theorem r_status {m : Mm} (hm : cl m = A) (hd : 1 ≤ d) (w : Int32) : mHi l g d k_X12_status [.ref 0, .int w] m (rO A (0, 0, vSta A w)) := by
  refine nBi 0 rfl rfl rfl (by decide) rfl (fun htr o Φ hΦ => mGoOn (mOk (by decide)) rfl [] 400 ?_)
  show mCal l g d k_X12_status Φ 0 0 _ 8 k_X12_in false [.int w, .int (0 : Int32), .int (1 : Int32)] [] [.ref 0, .int w] (mset m 0 0 (0 : Int32)) o 0 0 1
  have hC := Cn_0 hm
  generalize mset m 0 0 (0 : Int32) = M at hC ⊢
  clear hm
  obtain ⟨hM, hth⟩ := hC
  have hC : Cn A M := ⟨hM, hth⟩
  refine fCi htr (r_inB (n := 2) (by omega) rfl) (by omega) ?_
  show ((pI (In w 2)) = 0 → Φ (.inl (some (.int (-1 : Int32)))) M o ∧ 0 ≤ 0 ∧ 0 ≤ 0) ∧ (¬ (pI (In w 2)) = 0 → mReq (mInB w 2) (Φ (.inl (some (.int (M 2 w.toNatClampNeg)))) M o ∧ 0 ≤ 0 ∧ 0 ≤ 0))
  unfold vSta at hΦ
  refine ⟨fun h => ?_, fun h => ?_⟩
  · rw [ifp_f (pI_0.mp h)] at hΦ
    exact eR (hΦ _ _ (rO_k hC rfl))
  · rw [ifp_t (pI_1.mp h)] at hΦ
    obtain ⟨k, hk, rfl⟩ := pI_1.mp h
    rw [nI_cl (by omega)] at hΦ
    simp (disch := omega) only [mReq_tt, nI_0a, nI_a0, nI_cl, mIn_ok, lit_add, lit_sub, add_lit, lit_le, le_lit, lit_lt, lt_lit, eq_lit, nI_add, nI_1, nI_leI, nI_ltI, nI_eq, mIn_lit, mIn_0, mIn_1, mIn_2, mIn_3, nI_l0, nI_p0, rf_22, rf_44, rf_60, rf_69, rf_391, rf_7, rf_37, rf_51, rf_230, rf_401, rf_413, rf_496, rf_513, rf_518, sB_2, sB_3, sB_4, sB_5, sB_6, sB_7, sL_2, sL_3, sL_4, sL_5, sL_6, sL_7, not_true_eq_false, not_false_eq_true, false_implies, true_implies, true_and, and_true, eq_self, true_or, or_true, Nat.le_refl, Nat.zero_add, Nat.add_zero, clA hM]
    exact hΦ _ _ (rO_k hC rfl)
theorem r_thrown {m : Mm} : mFi l g d k_X12_thrown [.ref 0] m (m 0 0) m := by
  refine nFi 0 rfl rfl rfl (by decide) rfl (fun htr o Φ hΦ => mGoOn (mOk (by decide)) rfl [] 400 ?_)
  show Φ (.inl (some (.int (m 0 0)))) m o ∧ 0 ≤ 0 ∧ 0 ≤ 0
  exact eR hΦ
end R12
