set_option maxRecDepth 100000
/-! THE REFERENCE'S QUERIES: downward searches -/
/-- downward from N: the last of those for which f is least -/
noncomputable def amd (P : Nat → Prop) (f : Nat → Int32) (N : Nat) : Nat → Int32
  | 0 => -1
  | c + 1 => ifp (P (N - (c + 1)) ∧ (amd P f N c = -1 ∨ f (N - (c + 1)) ≤ f (amd P f N c).toNatClampNeg)) (nI (N - (c + 1))) (amd P f N c)
theorem amd_t {P : Nat → Prop} {f : Nat → Int32} {N c : Nat} (h : P (N - (c + 1))) (h2 : amd P f N c = -1 ∨ f (N - (c + 1)) ≤ f (amd P f N c).toNatClampNeg) : amd P f N (c + 1) = nI (N - (c + 1)) := ifp_t ⟨h, h2⟩
theorem amd_f {P : Nat → Prop} {f : Nat → Int32} {N c : Nat} (h : ¬ (P (N - (c + 1)) ∧ (amd P f N c = -1 ∨ f (N - (c + 1)) ≤ f (amd P f N c).toNatClampNeg))) : amd P f N (c + 1) = amd P f N c := ifp_f h
theorem amd_In (P : Nat → Prop) (f : Nat → Int32) {N : Nat} : ∀ c, c ≤ N → amd P f N c = -1 ∨ ∃ k, k < N ∧ amd P f N c = nI k ∧ P k
  | 0, _ => Or.inl rfl
  | c + 1, hc => by
    by_cases h : P (N - (c + 1)) ∧ (amd P f N c = -1 ∨ f (N - (c + 1)) ≤ f (amd P f N c).toNatClampNeg)
    · exact Or.inr ⟨N - (c + 1), by omega, amd_t h.1 h.2, h.1⟩
    · rw [amd_f h]
      exact amd_In P f c (by omega)
theorem sh_pow : ∀ n, n < 31 → jshl 1 (nI n) = nI (2 ^ n) := by unfold jshl; decide +kernel
theorem nI_m_lt {c : Nat} (hc : 0 < c) (h : c < 2 ^ 31) : ¬ (nI c - 1 < 0) := by
  rw [nI_dec1 (by omega)]; exact nI_pos (by omega)
theorem nI_0m : (nI 0 - 1 : Int32) < 0 := by decide
theorem dn_lit (x : Int32) : x + (-1 : Int32) = x - 1 := (Int32.sub_eq_add_neg x 1).symm
noncomputable def f1s : Nat → Int32 := fun j => nI (one24 (nI j))
def PSh (A : Mm) (a b : Nat) : Nat → Prop := fun q => ¬ hB (nI q) a ∧ ¬ hB (nI q) b ∧ fl A (aS A &&& (nI q ^^^ -1)) a (nS A) b = -1
noncomputable def qSht (A : Mm) (a b : Int32) : Oc := ifp (In a (nS A) ∧ In b (nS A)) (ifp (¬ a = b) (0, 0, amd (PSh A a.toNatClampNeg b.toNatClampNeg) f1s (2 ^ nS A) (2 ^ nS A)) (2, 1, 0)) (1, 0, 0)
noncomputable def fSl (A : Mm) (p : Nat) : Nat → Int32 := fl A (aS A) (A (61 + p) 0).toNatClampNeg (nS A)
noncomputable def fWk (A : Mm) (p : Nat) : Nat → Int32 := fun k => fSl A p (A 494 k).toNatClampNeg
def PWk (A : Mm) (p : Nat) : Nat → Prop := fun k => fWk A p k ≠ -1 ∧ sayN A k (A (61 + p) 0).toNatClampNeg (A 494 35) = A (61 + p) 1
noncomputable def lst1 (f : Nat → Int32) (b : Int32) : Int32 := if b = -1 then -1 else f b.toNatClampNeg
noncomputable def qWkr (A : Mm) (p w : Int32) : Oc := ifp (In p (nP A)) (ifp (In w 2) (0, 0,
  let b := amn (PWk A p.toNatClampNeg) (fWk A p.toNatClampNeg) (nM A)
  if w = 0 then b else lst1 (fWk A p.toNatClampNeg) b) (2, 1, 0)) (1, 0, 0)
noncomputable def faD (A : Mm) (k : Nat) : Nat → Int32
  | 0 => A 494 k
  | c + 1 => ifp (¬ fM A k (nS A - (c + 1)) = -1 ∧ ¬ fM A k (nS A - (c + 1)) < fM A k (faD A k c).toNatClampNeg) (nI (nS A - (c + 1))) (faD A k c)
noncomputable def qFar (A : Mm) (k w : Int32) : Oc := ifp (In k (nM A)) (ifp (In w 2) (0, 0,
  let b := faD A k.toNatClampNeg (nS A)
  if w = 0 then fM A k.toNatClampNeg b.toNatClampNeg else b) (2, 1, 0)) (1, 0, 0)
section R14
variable {l : Launch} {g : mG} {d : Nat} {A : Mm}
theorem r_shut (hA : CtB A) {m : Mm} (hm : cl m = A) (hd : 3 ≤ d) (a b : Int32) : mHi l g d k_X12_shut [.ref 0, .int a, .int b] m (rO A (qSht A a b)) := by
  have hN := hA.1
  refine nBi 2 rfl rfl rfl (by decide) rfl (fun htr o Φ hΦ => mGoOn (mOk (by decide)) rfl [64,107] 400 ?_)
  show True ∧ mCal l g d k_X12_shut Φ 0 0 _ 8 k_X12_isStreet false [.ref 0, .int a] [.ref 0] [.ref 0, .int a, .int b, mJ, mJ] (mset m 0 0 (0 : Int32)) o 0 0 1
  have hC := Cn_0 hm
  generalize mset m 0 0 (0 : Int32) = M at hC ⊢
  clear hm
  obtain ⟨hM, hth⟩ := hC
  have hC : Cn A M := ⟨hM, hth⟩
  unfold qSht at hΦ
  refine ⟨trivial, fCi htr (r_isStreet hA hM (by omega) _) (by omega) ?_⟩
  show ((pI (In a (nS A))) = 0 → True ∧ mCal l g d k_X12_shut Φ 0 0 _ 29 k_X12_bad false [.ref 0, .int (1 : Int32), .int (1 : Int32), .int (0 : Int32)] [] [.ref 0, .int a, .int b, mJ, mJ] M o 0 0 1) ∧ (¬ (pI (In a (nS A))) = 0 → True ∧ mCal l g d k_X12_shut Φ 0 0 _ 16 k_X12_isStreet false [.ref 0, .int b] [.ref 0] [.ref 0, .int a, .int b, mJ, mJ] M o 0 0 1)
  refine ⟨fun h1 => ?_, fun h1 => ?_⟩
  · replace h1 := pI_0.mp h1
    refine ⟨trivial, fCi htr (r_bad1 hth (t := 1) (j := 0) (by decide) (by decide)) (by omega) ?_⟩
    show (¬ (1 : Int32) = 0 → Φ (.inl (some (.int (0 : Int32)))) (mset (mset M 0 0 1) 2 0 (M 2 0 + 1)) o ∧ 0 ≤ 0 ∧ 0 ≤ 0) ∧ ((1 : Int32) = 0 → (¬ a = b → True ∧ mCal l g d k_X12_shut Φ 0 0 _ 48 k_X12_bad false [.ref 0, .int (0 : Int32), .int (2 : Int32), .int (1 : Int32)] [] [.ref 0, .int a, .int b, mJ, mJ] (mset (mset M 0 0 1) 2 0 (M 2 0 + 1)) o 0 0 1) ∧ (a = b → True ∧ mCal l g d k_X12_shut Φ 0 0 _ 48 k_X12_bad false [.ref 0, .int (1 : Int32), .int (2 : Int32), .int (1 : Int32)] [] [.ref 0, .int a, .int b, mJ, mJ] (mset (mset M 0 0 1) 2 0 (M 2 0 + 1)) o 0 0 1))
    rw [ifp_f (fun z => h1 z.1)] at hΦ
    first | exact br1a (eR (hΦ _ _ (rO_t hM (by decide) (by decide)))) | exact br1b (eR (hΦ _ _ (rO_t hM (by decide) (by decide))))
  replace h1 := pI_1.mp h1
  refine ⟨trivial, fCi htr (r_isStreet hA hM (by omega) _) (by omega) ?_⟩
  show (¬ (pI (In b (nS A))) = 0 → True ∧ mCal l g d k_X12_shut Φ 0 0 _ 29 k_X12_bad false [.ref 0, .int (0 : Int32), .int (1 : Int32), .int (0 : Int32)] [] [.ref 0, .int a, .int b, mJ, mJ] M o 0 0 1) ∧ ((pI (In b (nS A))) = 0 → True ∧ mCal l g d k_X12_shut Φ 0 0 _ 29 k_X12_bad false [.ref 0, .int (1 : Int32), .int (1 : Int32), .int (0 : Int32)] [] [.ref 0, .int a, .int b, mJ, mJ] M o 0 0 1)
  refine and_sw (fun h2 => ?_) (fun h2 => ?_)
  · replace h2 := pI_0.mp h2
    refine ⟨trivial, fCi htr (r_bad1 hth (t := 1) (j := 0) (by decide) (by decide)) (by omega) ?_⟩
    show (¬ (1 : Int32) = 0 → Φ (.inl (some (.int (0 : Int32)))) (mset (mset M 0 0 1) 2 0 (M 2 0 + 1)) o ∧ 0 ≤ 0 ∧ 0 ≤ 0) ∧ ((1 : Int32) = 0 → (¬ a = b → True ∧ mCal l g d k_X12_shut Φ 0 0 _ 48 k_X12_bad false [.ref 0, .int (0 : Int32), .int (2 : Int32), .int (1 : Int32)] [] [.ref 0, .int a, .int b, mJ, mJ] (mset (mset M 0 0 1) 2 0 (M 2 0 + 1)) o 0 0 1) ∧ (a = b → True ∧ mCal l g d k_X12_shut Φ 0 0 _ 48 k_X12_bad false [.ref 0, .int (1 : Int32), .int (2 : Int32), .int (1 : Int32)] [] [.ref 0, .int a, .int b, mJ, mJ] (mset (mset M 0 0 1) 2 0 (M 2 0 + 1)) o 0 0 1))
    rw [ifp_f (fun z => h2 z.2)] at hΦ
    first | exact br1a (eR (hΦ _ _ (rO_t hM (by decide) (by decide)))) | exact br1b (eR (hΦ _ _ (rO_t hM (by decide) (by decide))))
  replace h2 := pI_1.mp h2
  refine ⟨trivial, fCi htr (r_bad0 hth _ _) (by omega) ?_⟩
  show (¬ (0 : Int32) = 0 → Φ (.inl (some (.int (0 : Int32)))) M o ∧ 0 ≤ 0 ∧ 0 ≤ 0) ∧ ((0 : Int32) = 0 → (¬ a = b → True ∧ mCal l g d k_X12_shut Φ 0 0 _ 48 k_X12_bad false [.ref 0, .int (0 : Int32), .int (2 : Int32), .int (1 : Int32)] [] [.ref 0, .int a, .int b, mJ, mJ] M o 0 0 1) ∧ (a = b → True ∧ mCal l g d k_X12_shut Φ 0 0 _ 48 k_X12_bad false [.ref 0, .int (1 : Int32), .int (2 : Int32), .int (1 : Int32)] [] [.ref 0, .int a, .int b, mJ, mJ] M o 0 0 1))
  rw [ifp_t (⟨h1, h2⟩)] at hΦ
  first | refine br0a ?_ | refine br0b ?_
  obtain ⟨a, ha, rfl⟩ := h1
  obtain ⟨b, hb, rfl⟩ := h2
  rw [nI_cl (by omega), nI_cl (by omega)] at hΦ
  refine and_sw (fun hc => ?_) (fun hc => ?_)
  · refine ⟨trivial, fCi htr (r_bad1 hth (t := 2) (j := 1) (by decide) (by decide)) (by omega) ?_⟩
    show ((1 : Int32) = 0 → True ∧ mCal l g d k_X12_shut Φ 0 0 _ 59 k_X12_all false [.ref 0] [] [.ref 0, .int (nI a), .int (nI b), .int (-1 : Int32), mJ] (mset (mset M 0 0 2) 2 1 (M 2 1 + 1)) o 0 0 1) ∧ (¬ (1 : Int32) = 0 → Φ (.inl (some (.int (0 : Int32)))) (mset (mset M 0 0 2) 2 1 (M 2 1 + 1)) o ∧ 0 ≤ 0 ∧ 0 ≤ 0)
    rw [ifp_f (fun q => q hc)] at hΦ
    exact br1b (eR (hΦ _ _ (rO_t hM (by decide) (by decide))))
  refine ⟨trivial, fCi htr (r_bad0 hth _ _) (by omega) ?_⟩
  show ((0 : Int32) = 0 → True ∧ mCal l g d k_X12_shut Φ 0 0 _ 59 k_X12_all false [.ref 0] [] [.ref 0, .int (nI a), .int (nI b), .int (-1 : Int32), mJ] M o 0 0 1) ∧ (¬ (0 : Int32) = 0 → Φ (.inl (some (.int (0 : Int32)))) M o ∧ 0 ≤ 0 ∧ 0 ≤ 0)
  rw [ifp_t hc] at hΦ
  refine br0b ⟨trivial, fCi htr (r_all hA hM) (by omega) ?_⟩
  show mWB l g d k_X12_shut Φ 0 0 64 [.ref 0, .int (nI a), .int (nI b), .int (-1 : Int32), .int (jshl 1 (nI (nS A)) - 1)] [] M o 0 0
  rw [sh_pow _ (by omega)]
  have hpw : 2 ^ nS A ≤ 2 ^ 9 := Nat.pow_le_pow_right (by decide) hN.2
  have key : ∀ c, c ≤ 2 ^ nS A → ∀ m, Cn A m → mWB l g d k_X12_shut Φ 0 0 64 [.ref 0, .int (nI a), .int (nI b), .int (amd (PSh A a b) f1s (2 ^ nS A) c), .int (nI (2 ^ nS A - c) - 1)] [] m o 0 0 := by
    refine mLoop ?_ ?_
    · intro c hc2 ih m hm
      have hin := amd_In (PSh A a b) f1s (N := 2 ^ nS A) c (by omega)
      have e1 : nI (2 ^ nS A - c) - 1 = nI (2 ^ nS A - (c + 1)) := nI_dec1 (by omega)
      have hq : 2 ^ nS A - (c + 1) < 512 := by omega
      have sk : ¬ (PSh A a b (2 ^ nS A - (c + 1)) ∧ (amd (PSh A a b) f1s (2 ^ nS A) c = -1 ∨ f1s (2 ^ nS A - (c + 1)) ≤ f1s (amd (PSh A a b) f1s (2 ^ nS A) c).toNatClampNeg)) → ∀ m, Cn A m → mWB l g d k_X12_shut Φ 0 0 64 [.ref 0, .int (nI a), .int (nI b), .int (amd (PSh A a b) f1s (2 ^ nS A) c), .int (nI (2 ^ nS A - (c + 1)) - 1)] [] m o 0 0 := fun z m hm => by
        have := ih m hm
        rw [amd_f z] at this
        exact this
      have tk : PSh A a b (2 ^ nS A - (c + 1)) → (amd (PSh A a b) f1s (2 ^ nS A) c = -1 ∨ f1s (2 ^ nS A - (c + 1)) ≤ f1s (amd (PSh A a b) f1s (2 ^ nS A) c).toNatClampNeg) → ∀ m, Cn A m → mWB l g d k_X12_shut Φ 0 0 64 [.ref 0, .int (nI a), .int (nI b), .int (nI (2 ^ nS A - (c + 1))), .int (nI (2 ^ nS A - (c + 1)) - 1)] [] m o 0 0 := fun z z2 m hm => by
        have := ih m hm
        rw [amd_t z z2] at this
        exact this
      rw [e1]
      generalize hBq : amd (PSh A a b) f1s (2 ^ nS A) c = B at sk tk hin ⊢
      generalize 2 ^ nS A - (c + 1) = q at sk tk hq ⊢
      refine mGoOn (mOk (by decide)) rfl [64,107] 400 ?_
      show ((nI q) < 0 → Φ (.inl (some (.int B))) m o ∧ 0 ≤ 0 ∧ 0 ≤ 0) ∧ (¬ (nI q) < 0 → mCal l g d k_X12_shut Φ 0 0 _ 72 k_X12_has false [.int (nI q), .int (nI a)] [] [.ref 0, .int (nI a), .int (nI b), .int B, .int (nI q)] m o 0 0 1)
      refine ⟨fun z => absurd z (nI_pos (by omega)), fun _ => ?_⟩
      refine fCi htr (q_has (nI q) (by omega) m) (by omega) ?_
      show (¬ (pI (hB (nI q) a)) = 0 → mWB l g d k_X12_shut Φ 0 0 64 [.ref 0, .int (nI a), .int (nI b), .int B, .int ((nI q) + (-1 : Int32))] [] m o 0 0) ∧ ((pI (hB (nI q) a)) = 0 → mCal l g d k_X12_shut Φ 0 0 _ 81 k_X12_has false [.int (nI q), .int (nI b)] [] [.ref 0, .int (nI a), .int (nI b), .int B, .int (nI q)] m o 0 0 1)
      rw [dn_lit]
      refine ⟨fun z => sk (fun y => y.1.1 (pI_1.mp z)) m hm, fun z => ?_⟩
      have z1 := pI_0.mp z
      refine fCi htr (q_has (nI q) (by omega) m) (by omega) ?_
      show (¬ (pI (hB (nI q) b)) = 0 → mWB l g d k_X12_shut Φ 0 0 64 [.ref 0, .int (nI a), .int (nI b), .int B, .int ((nI q) + (-1 : Int32))] [] m o 0 0) ∧ ((pI (hB (nI q) b)) = 0 → (B = (-1 : Int32) → mWB l g d k_X12_shut Φ 0 0 107 [.ref 0, .int (nI a), .int (nI b), .int B, .int (nI q)] [] m o 0 0) ∧ (¬ B = (-1 : Int32) → mCal l g d k_X12_shut Φ 0 0 _ 94 k_X12_ones false [.int (nI q)] [] [.ref 0, .int (nI a), .int (nI b), .int B, .int (nI q)] m o 0 0 1))
      rw [dn_lit]
      refine ⟨fun z => sk (fun y => y.1.2.1 (pI_1.mp z)) m hm, fun z => ?_⟩
      have z2 := pI_0.mp z
      have far : (B = -1 ∨ f1s q ≤ f1s B.toNatClampNeg) → mWB l g d k_X12_shut Φ 0 0 107 [.ref 0, .int (nI a), .int (nI b), .int B, .int (nI q)] [] m o 0 0 := fun hB2 => by
        refine mGoOn (mOk (by decide)) rfl [64] 400 ?_
        show True ∧ mCal l g d k_X12_shut Φ 0 0 _ 110 k_X12_all false [.ref 0] [.int (nI a), .ref 0] [.ref 0, .int (nI a), .int (nI b), .int B, .int (nI q)] m o 0 0 1
        refine ⟨trivial, fCi htr (r_all hA hm.1) (by omega) ?_⟩
        refine ⟨trivial, nCv htr (r_laysFar hA hm.1 (by omega) (by omega) _) (by omega) ?_⟩
        intro m2 hx
        show mReq (mInB (nI b) 9) ((¬ (m2 517 ((nI b).toNatClampNeg)) = (-1 : Int32) → mWB l g d k_X12_shut Φ 0 0 64 [.ref 0, .int (nI a), .int (nI b), .int B, .int ((nI q) + (-1 : Int32))] [] m2 o 0 0) ∧ ((m2 517 ((nI b).toNatClampNeg)) = (-1 : Int32) → mWB l g d k_X12_shut Φ 0 0 64 [.ref 0, .int (nI a), .int (nI b), .int (nI q), .int ((nI q) + (-1 : Int32))] [] m2 o 0 0))
        simp (disch := omega) only [mReq_tt, nI_0a, nI_a0, nI_cl, mIn_ok, lit_add, lit_sub, add_lit, lit_le, le_lit, lit_lt, lt_lit, eq_lit, nI_add, nI_1, nI_leI, nI_ltI, nI_eq, mIn_lit, mIn_0, mIn_1, mIn_2, mIn_3, nI_l0, nI_p0, rf_22, rf_44, rf_60, rf_69, rf_391, rf_7, rf_37, rf_51, rf_230, rf_401, rf_413, rf_496, rf_513, rf_518, sB_2, sB_3, sB_4, sB_5, sB_6, sB_7, sL_2, sL_3, sL_4, sL_5, sL_6, sL_7, not_true_eq_false, not_false_eq_true, false_implies, true_implies, true_and, and_true, eq_self, true_or, or_true, Nat.le_refl, Nat.zero_add, Nat.add_zero]
        rw [hx.2 b hb, dn_lit]
        exact ⟨fun y => sk (fun x => y x.1.2.2) m2 (eqF_Cn hx.1 hm), fun y => tk ⟨z1, z2, y⟩ hB2 m2 (eqF_Cn hx.1 hm)⟩
      refine ⟨fun y => far (Or.inl y), fun y => ?_⟩
      obtain ⟨k, hk, rfl, _⟩ := hin.resolve_left y
      rw [nI_cl (by omega)] at far sk
      refine fCi htr (r_ones m _) (by omega) ?_
      refine fCi htr (r_ones m _) (by omega) ?_
      show ((nI (one24 (nI q))) ≤ (nI (one24 (nI k))) → mWB l g d k_X12_shut Φ 0 0 107 [.ref 0, .int (nI a), .int (nI b), .int (nI k), .int (nI q)] [] m o 0 0) ∧ (¬ (nI (one24 (nI q))) ≤ (nI (one24 (nI k))) → mWB l g d k_X12_shut Φ 0 0 64 [.ref 0, .int (nI a), .int (nI b), .int (nI k), .int ((nI q) + (-1 : Int32))] [] m o 0 0)
      rw [dn_lit]
      exact ⟨fun x => far (Or.inr x), fun x => sk (fun v => v.2.elim (fun e => y e) (fun e => x e)) m hm⟩
    · intro m hm
      rw [Nat.sub_self]
      refine mGoOn (mOk (by decide)) rfl [64,107] 400 ?_
      show ((nI 0 - 1) < 0 → Φ (.inl (some (.int (amd (PSh A a b) f1s (2 ^ nS A) (2 ^ nS A))))) m o ∧ 0 ≤ 0 ∧ 0 ≤ 0) ∧ (¬ (nI 0 - 1) < 0 → mCal l g d k_X12_shut Φ 0 0 _ 72 k_X12_has false [.int (nI 0 - 1), .int (nI a)] [] [.ref 0, .int (nI a), .int (nI b), .int (amd (PSh A a b) f1s (2 ^ nS A) (2 ^ nS A)), .int (nI 0 - 1)] m o 0 0 1)
      exact ⟨fun _ => eR (hΦ _ _ (rO_k hm rfl)), fun z => absurd nI_0m z⟩
  exact key 0 (Nat.zero_le _) M hC
theorem r_waker (hA : Sv A) (hT : Cty A) (hR : Nt A (A 494)) {m : Mm} (hm : cl m = A) (hd : 7 ≤ d) (p w : Int32) : mHi l g d k_X12_waker [.ref 0, .int p, .int w] m (rO A (qWkr A p w)) := by
  have hN := hA.1.1
  have hN2 := hA.1.2.2.1
  have hN3 := hA.1.2.2.2
  refine nBi 5 rfl rfl rfl (by decide) rfl (fun htr o Φ hΦ => mGoOn (mOk (by decide)) rfl [88] 400 ?_)
  show mCal l g d k_X12_waker Φ 0 0 _ 16 k_X12_in false [.int p, .int (0 : Int32), .int (((mset m 0 0 (0 : Int32)) 4 3) - (1 : Int32))] [.ref 0] [.ref 0, .int p, .int w, mJ, mJ, mJ, mJ, mJ] (mset m 0 0 (0 : Int32)) o 0 0 1
  have hC := Cn_0 hm
  generalize mset m 0 0 (0 : Int32) = M at hC ⊢
  clear hm
  obtain ⟨hM, hth⟩ := hC
  have hC : Cn A M := ⟨hM, hth⟩
  unfold qWkr at hΦ
  refine fCi htr (r_inB (n := nP A) (by omega) (by rw [clA hM 3 (by omega), hN3.1])) (by omega) ?_
  show (¬ (pI (In p (nP A))) = 0 → True ∧ mCal l g d k_X12_waker Φ 0 0 _ 29 k_X12_bad false [.ref 0, .int (0 : Int32), .int (1 : Int32), .int (0 : Int32)] [] [.ref 0, .int p, .int w, mJ, mJ, mJ, mJ, mJ] M o 0 0 1) ∧ ((pI (In p (nP A))) = 0 → True ∧ mCal l g d k_X12_waker Φ 0 0 _ 29 k_X12_bad false [.ref 0, .int (1 : Int32), .int (1 : Int32), .int (0 : Int32)] [] [.ref 0, .int p, .int w, mJ, mJ, mJ, mJ, mJ] M o 0 0 1)
  refine and_sw (fun h1 => ?_) (fun h1 => ?_)
  · replace h1 := pI_0.mp h1
    refine ⟨trivial, fCi htr (r_bad1 hth (t := 1) (j := 0) (by decide) (by decide)) (by omega) ?_⟩
    show (¬ (1 : Int32) = 0 → Φ (.inl (some (.int (0 : Int32)))) (mset (mset M 0 0 1) 2 0 (M 2 0 + 1)) o ∧ 0 ≤ 0 ∧ 0 ≤ 0) ∧ ((1 : Int32) = 0 → mCal l g d k_X12_waker Φ 0 0 _ 39 k_X12_in false [.int w, .int (0 : Int32), .int (1 : Int32)] [.ref 0] [.ref 0, .int p, .int w, mJ, mJ, mJ, mJ, mJ] (mset (mset M 0 0 1) 2 0 (M 2 0 + 1)) o 0 0 1)
    rw [ifp_f (h1)] at hΦ
    first | exact br1a (eR (hΦ _ _ (rO_t hM (by decide) (by decide)))) | exact br1b (eR (hΦ _ _ (rO_t hM (by decide) (by decide))))
  replace h1 := pI_1.mp h1
  refine ⟨trivial, fCi htr (r_bad0 hth _ _) (by omega) ?_⟩
  show (¬ (0 : Int32) = 0 → Φ (.inl (some (.int (0 : Int32)))) M o ∧ 0 ≤ 0 ∧ 0 ≤ 0) ∧ ((0 : Int32) = 0 → mCal l g d k_X12_waker Φ 0 0 _ 39 k_X12_in false [.int w, .int (0 : Int32), .int (1 : Int32)] [.ref 0] [.ref 0, .int p, .int w, mJ, mJ, mJ, mJ, mJ] M o 0 0 1)
  rw [ifp_t (h1)] at hΦ
  first | refine br0a ?_ | refine br0b ?_
  refine fCi htr (r_inB (n := 2) (by omega) rfl) (by omega) ?_
  show (¬ (pI (In w 2)) = 0 → True ∧ mCal l g d k_X12_waker Φ 0 0 _ 52 k_X12_bad false [.ref 0, .int (0 : Int32), .int (2 : Int32), .int (1 : Int32)] [] [.ref 0, .int p, .int w, mJ, mJ, mJ, mJ, mJ] M o 0 0 1) ∧ ((pI (In w 2)) = 0 → True ∧ mCal l g d k_X12_waker Φ 0 0 _ 52 k_X12_bad false [.ref 0, .int (1 : Int32), .int (2 : Int32), .int (1 : Int32)] [] [.ref 0, .int p, .int w, mJ, mJ, mJ, mJ, mJ] M o 0 0 1)
  refine and_sw (fun h2 => ?_) (fun h2 => ?_)
  · replace h2 := pI_0.mp h2
    refine ⟨trivial, fCi htr (r_bad1 hth (t := 2) (j := 1) (by decide) (by decide)) (by omega) ?_⟩
    show ((1 : Int32) = 0 → mReq (mInB p 8) (mReq (mIsB (mRF 60 p.toNatClampNeg) 1) (mReq (mInB (0 : Int32) (mLn (mRF 60 p.toNatClampNeg))) (True ∧ mCal l g d k_X12_waker Φ 0 0 _ 79 k_X12_all false [.ref 0] [.int ((mset (mset M 0 0 2) 2 1 (M 2 1 + 1)) (mRF 60 p.toNatClampNeg) 0), .ref 0] [.ref 0, .int p, .int w, .int (-1 : Int32), .int (-1 : Int32), .int ((mset (mset M 0 0 2) 2 1 (M 2 1 + 1)) (mRF 60 p.toNatClampNeg) 0), mJ, mJ] (mset (mset M 0 0 2) 2 1 (M 2 1 + 1)) o 0 0 1)))) ∧ (¬ (1 : Int32) = 0 → Φ (.inl (some (.int (0 : Int32)))) (mset (mset M 0 0 2) 2 1 (M 2 1 + 1)) o ∧ 0 ≤ 0 ∧ 0 ≤ 0)
    rw [ifp_f (h2)] at hΦ
    first | exact br1a (eR (hΦ _ _ (rO_t hM (by decide) (by decide)))) | exact br1b (eR (hΦ _ _ (rO_t hM (by decide) (by decide))))
  replace h2 := pI_1.mp h2
  refine ⟨trivial, fCi htr (r_bad0 hth _ _) (by omega) ?_⟩
  show ((0 : Int32) = 0 → mReq (mInB p 8) (mReq (mIsB (mRF 60 p.toNatClampNeg) 1) (mReq (mInB (0 : Int32) (mLn (mRF 60 p.toNatClampNeg))) (True ∧ mCal l g d k_X12_waker Φ 0 0 _ 79 k_X12_all false [.ref 0] [.int (M (mRF 60 p.toNatClampNeg) 0), .ref 0] [.ref 0, .int p, .int w, .int (-1 : Int32), .int (-1 : Int32), .int (M (mRF 60 p.toNatClampNeg) 0), mJ, mJ] M o 0 0 1)))) ∧ (¬ (0 : Int32) = 0 → Φ (.inl (some (.int (0 : Int32)))) M o ∧ 0 ≤ 0 ∧ 0 ≤ 0)
  rw [ifp_t (h2)] at hΦ
  first | refine br0a ?_ | refine br0b ?_
  obtain ⟨p, hp, rfl⟩ := h1
  rw [nI_cl (by omega)] at hΦ
  have hs := In_cl (hT.2.2.2.2 p hp).1 (by omega)
  simp (disch := omega) only [mReq_tt, nI_0a, nI_a0, nI_cl, mIn_ok, lit_add, lit_sub, add_lit, lit_le, le_lit, lit_lt, lt_lit, eq_lit, nI_add, nI_1, nI_leI, nI_ltI, nI_eq, mIn_lit, mIn_0, mIn_1, mIn_2, mIn_3, nI_l0, nI_p0, rf_22, rf_44, rf_60, rf_69, rf_391, rf_7, rf_37, rf_51, rf_230, rf_401, rf_413, rf_496, rf_513, rf_518, sB_2, sB_3, sB_4, sB_5, sB_6, sB_7, sL_2, sL_3, sL_4, sL_5, sL_6, sL_7, not_true_eq_false, not_false_eq_true, false_implies, true_implies, true_and, and_true, eq_self, true_or, or_true, Nat.le_refl, Nat.zero_add, Nat.add_zero, clA hM]
  refine fCi htr (r_all hA.1 hM) (by omega) ?_
  rw [hs.1]
  refine ⟨trivial, nCv htr (r_laysFar hA.1 hM (by omega) (by omega) _) (by omega) ?_⟩
  intro m2 ⟨hf1, hf2⟩
  replace hf2 : ∀ s, s < nS A → m2 517 s = fSl A p s := hf2
  replace hC := eqF_Cn hf1 hC
  show mWB l g d k_X12_waker Φ 0 0 88 [.ref 0, .int (nI p), .int w, .int (-1 : Int32), .int (-1 : Int32), .int (nI (A (61 + p) 0).toNatClampNeg), .int (0 : Int32), mJ] [] m2 o 0 0
  refine mLoopZ (P := fun k => ∀ m', eqL lK m2 m' → mWB l g d k_X12_waker Φ 0 0 88 [.ref 0, .int (nI p), .int w, .int (amn (PWk A p) (fWk A p) k), .int (lst1 (fWk A p) (amn (PWk A p) (fWk A p) k)), .int (nI (A (61 + p) 0).toNatClampNeg), .int (nI k), mJ] [] m' o 0 0) (N := nM A) (fun m' he => mGoOn (mOk (by decide)) rfl [88] 400 ?_) (fun k hi ih m' he => mGoOn (mOk (by decide)) rfl [88] 400 ?_) m2 (eqL_refl _ _)
  · show ((m' 4 2) ≤ (nI (nM A)) → (¬ w = 0 → Φ (.inl (some (.int (lst1 (fWk A p) (amn (PWk A p) (fWk A p) (nM A)))))) m' o ∧ 0 ≤ 0 ∧ 0 ≤ 0) ∧ (w = 0 → Φ (.inl (some (.int (amn (PWk A p) (fWk A p) (nM A))))) m' o ∧ 0 ≤ 0 ∧ 0 ≤ 0)) ∧ (¬ (m' 4 2) ≤ (nI (nM A)) → mReq (mInB ((0 : Int32) + (nI (nM A))) 37) (mReq (mInB (m' 494 (((0 : Int32) + (nI (nM A))).toNatClampNeg)) 9) (((m' 517 ((m' 494 (((0 : Int32) + (nI (nM A))).toNatClampNeg)).toNatClampNeg)) = (-1 : Int32) → mWB l g d k_X12_waker Φ 0 0 88 [.ref 0, .int (nI p), .int w, .int (amn (PWk A p) (fWk A p) (nM A)), .int (lst1 (fWk A p) (amn (PWk A p) (fWk A p) (nM A))), .int (nI (A (61 + p) 0).toNatClampNeg), .int ((nI (nM A)) + (1 : Int32)), .int (m' 517 ((m' 494 (((0 : Int32) + (nI (nM A))).toNatClampNeg)).toNatClampNeg))] [] m' o 0 0) ∧ (¬ (m' 517 ((m' 494 (((0 : Int32) + (nI (nM A))).toNatClampNeg)).toNatClampNeg)) = (-1 : Int32) → True ∧ mCal l g d k_X12_waker Φ 0 0 _ 130 k_X12_saysIn false [.ref 0, .ref 494, .int (nI (nM A)), .int (nI (A (61 + p) 0).toNatClampNeg)] [] [.ref 0, .int (nI p), .int w, .int (amn (PWk A p) (fWk A p) (nM A)), .int (lst1 (fWk A p) (amn (PWk A p) (fWk A p) (nM A))), .int (nI (A (61 + p) 0).toNatClampNeg), .int (nI (nM A)), .int (m' 517 ((m' 494 (((0 : Int32) + (nI (nM A))).toNatClampNeg)).toNatClampNeg))] m' o 0 0 1))))
    have hm' := eqK_Cn he hC
    simp (disch := omega) only [mReq_tt, nI_0a, nI_a0, nI_cl, mIn_ok, lit_add, lit_sub, add_lit, lit_le, le_lit, lit_lt, lt_lit, eq_lit, nI_add, nI_1, nI_leI, nI_ltI, nI_eq, mIn_lit, mIn_0, mIn_1, mIn_2, mIn_3, nI_l0, nI_p0, rf_22, rf_44, rf_60, rf_69, rf_391, rf_7, rf_37, rf_51, rf_230, rf_401, rf_413, rf_496, rf_513, rf_518, sB_2, sB_3, sB_4, sB_5, sB_6, sB_7, sL_2, sL_3, sL_4, sL_5, sL_6, sL_7, not_true_eq_false, not_false_eq_true, false_implies, true_implies, true_and, and_true, eq_self, true_or, or_true, Nat.le_refl, Nat.zero_add, Nat.add_zero, clA hm'.1, hN2.1]
    exact ⟨fun q => hΦ _ _ (rO_k hm' (by show _ = ite _ _ _; rw [if_neg q])), fun q => hΦ _ _ (rO_k hm' (by show _ = ite _ _ _; rw [if_pos q]))⟩
  show ((m' 4 2) ≤ (nI k) → (¬ w = 0 → Φ (.inl (some (.int (lst1 (fWk A p) (amn (PWk A p) (fWk A p) k))))) m' o ∧ 0 ≤ 0 ∧ 0 ≤ 0) ∧ (w = 0 → Φ (.inl (some (.int (amn (PWk A p) (fWk A p) k)))) m' o ∧ 0 ≤ 0 ∧ 0 ≤ 0)) ∧ (¬ (m' 4 2) ≤ (nI k) → mReq (mInB ((0 : Int32) + (nI k)) 37) (mReq (mInB (m' 494 (((0 : Int32) + (nI k)).toNatClampNeg)) 9) (((m' 517 ((m' 494 (((0 : Int32) + (nI k)).toNatClampNeg)).toNatClampNeg)) = (-1 : Int32) → mWB l g d k_X12_waker Φ 0 0 88 [.ref 0, .int (nI p), .int w, .int (amn (PWk A p) (fWk A p) k), .int (lst1 (fWk A p) (amn (PWk A p) (fWk A p) k)), .int (nI (A (61 + p) 0).toNatClampNeg), .int ((nI k) + (1 : Int32)), .int (m' 517 ((m' 494 (((0 : Int32) + (nI k)).toNatClampNeg)).toNatClampNeg))] [] m' o 0 0) ∧ (¬ (m' 517 ((m' 494 (((0 : Int32) + (nI k)).toNatClampNeg)).toNatClampNeg)) = (-1 : Int32) → True ∧ mCal l g d k_X12_waker Φ 0 0 _ 130 k_X12_saysIn false [.ref 0, .ref 494, .int (nI k), .int (nI (A (61 + p) 0).toNatClampNeg)] [] [.ref 0, .int (nI p), .int w, .int (amn (PWk A p) (fWk A p) k), .int (lst1 (fWk A p) (amn (PWk A p) (fWk A p) k)), .int (nI (A (61 + p) 0).toNatClampNeg), .int (nI k), .int (m' 517 ((m' 494 (((0 : Int32) + (nI k)).toNatClampNeg)).toNatClampNeg))] m' o 0 0 1))))
  have hm' := eqK_Cn he hC
  have hf : ¬ nM A ≤ k := by omega
  simp (disch := omega) only [mReq_tt, nI_0a, nI_a0, nI_cl, mIn_ok, lit_add, lit_sub, add_lit, lit_le, le_lit, lit_lt, lt_lit, eq_lit, nI_add, nI_1, nI_leI, nI_ltI, nI_eq, mIn_lit, mIn_0, mIn_1, mIn_2, mIn_3, nI_l0, nI_p0, rf_22, rf_44, rf_60, rf_69, rf_391, rf_7, rf_37, rf_51, rf_230, rf_401, rf_413, rf_496, rf_513, rf_518, sB_2, sB_3, sB_4, sB_5, sB_6, sB_7, sL_2, sL_3, sL_4, sL_5, sL_6, sL_7, not_true_eq_false, not_false_eq_true, false_implies, true_implies, true_and, and_true, eq_self, true_or, or_true, Nat.le_refl, Nat.zero_add, Nat.add_zero, clA hm'.1, hN2.1, hf]
  have h517 : m' 517 = m2 517 := he 517 (by decide)
  have hat := In_cl (hR.1 k hi) (by omega)
  rw [hat.1]
  simp (disch := omega) only [mReq_tt, nI_0a, nI_a0, nI_cl, mIn_ok, lit_add, lit_sub, add_lit, lit_le, le_lit, lit_lt, lt_lit, eq_lit, nI_add, nI_1, nI_leI, nI_ltI, nI_eq, mIn_lit, mIn_0, mIn_1, mIn_2, mIn_3, nI_l0, nI_p0, rf_22, rf_44, rf_60, rf_69, rf_391, rf_7, rf_37, rf_51, rf_230, rf_401, rf_413, rf_496, rf_513, rf_518, sB_2, sB_3, sB_4, sB_5, sB_6, sB_7, sL_2, sL_3, sL_4, sL_5, sL_6, sL_7, not_true_eq_false, not_false_eq_true, false_implies, true_implies, true_and, and_true, eq_self, true_or, or_true, Nat.le_refl, Nat.zero_add, Nat.add_zero]
  rw [h517, hf2 _ hat.2]
  have hsk : ¬ (PWk A p k ∧ (amn (PWk A p) (fWk A p) k = -1 ∨ ¬ fWk A p (amn (PWk A p) (fWk A p) k).toNatClampNeg ≤ fWk A p k)) → ∀ n m', eqL lK m2 m' → mWB l g d k_X12_waker Φ 0 0 88 [.ref 0, .int (nI p), .int w, .int (amn (PWk A p) (fWk A p) k), .int (lst1 (fWk A p) (amn (PWk A p) (fWk A p) k)), .int (nI (A (61 + p) 0).toNatClampNeg), .int (nI (k + 1)), .int n] [] m' o 0 0 := fun q n m' he => by
    have := ih m' he
    rw [amn_f q] at this
    exact mWB_wk this ⟨Or.inr rfl, Or.inr rfl, Or.inr rfl, Or.inr rfl, Or.inr rfl, Or.inr rfl, Or.inr rfl, Or.inl rfl, trivial⟩
  have htk : PWk A p k → (amn (PWk A p) (fWk A p) k = -1 ∨ ¬ fWk A p (amn (PWk A p) (fWk A p) k).toNatClampNeg ≤ fWk A p k) → ∀ n m', eqL lK m2 m' → mWB l g d k_X12_waker Φ 0 0 88 [.ref 0, .int (nI p), .int w, .int (nI k), .int (fWk A p k), .int (nI (A (61 + p) 0).toNatClampNeg), .int (nI (k + 1)), .int n] [] m' o 0 0 := fun q q2 n m' he => by
    have := ih m' he
    rw [amn_t q q2] at this
    unfold lst1 at this
    rw [if_neg (nI_m1 (by omega)), nI_cl (by omega)] at this
    exact mWB_wk this ⟨Or.inr rfl, Or.inr rfl, Or.inr rfl, Or.inr rfl, Or.inr rfl, Or.inr rfl, Or.inr rfl, Or.inl rfl, trivial⟩
  have hin := amn_In (PWk A p) (fWk A p) k
  generalize hBq : amn (PWk A p) (fWk A p) k = B at hsk htk hin ⊢
  refine ⟨fun q => hsk (fun z => z.1.1 q) _ m' he, fun q => ?_⟩
  refine nCi htr (r_sayNe hA hm' (by omega) hi (by omega)) (by omega) ?_
  intro x m3 hx
  have he3 := eqL_trans he hx.2
  have hm3 := eqK_Cn hx.2 hm'
  show mReq (mInB (nI p) 8) (mReq (mIsB (mRF 60 ((nI p).toNatClampNeg)) 1) (mReq (mInB (1 : Int32) (mLn (mRF 60 ((nI p).toNatClampNeg)))) ((¬ x = (m3 (mRF 60 ((nI p).toNatClampNeg)) 1) → mWB l g d k_X12_waker Φ 0 0 88 [.ref 0, .int (nI p), .int w, .int B, .int (lst1 (fWk A p) B), .int (nI (A (61 + p) 0).toNatClampNeg), .int ((nI k) + (1 : Int32)), .int (fSl A p (A 494 k).toNatClampNeg)] [] m3 o 0 0) ∧ (x = (m3 (mRF 60 ((nI p).toNatClampNeg)) 1) → (B = (-1 : Int32) → mWB l g d k_X12_waker Φ 0 0 88 [.ref 0, .int (nI p), .int w, .int (nI k), .int (fSl A p (A 494 k).toNatClampNeg), .int (nI (A (61 + p) 0).toNatClampNeg), .int ((nI k) + (1 : Int32)), .int (fSl A p (A 494 k).toNatClampNeg)] [] m3 o 0 0) ∧ (¬ B = (-1 : Int32) → ((fSl A p (A 494 k).toNatClampNeg) < (lst1 (fWk A p) B) → mWB l g d k_X12_waker Φ 0 0 88 [.ref 0, .int (nI p), .int w, .int (nI k), .int (fSl A p (A 494 k).toNatClampNeg), .int (nI (A (61 + p) 0).toNatClampNeg), .int ((nI k) + (1 : Int32)), .int (fSl A p (A 494 k).toNatClampNeg)] [] m3 o 0 0) ∧ (¬ (fSl A p (A 494 k).toNatClampNeg) < (lst1 (fWk A p) B) → mWB l g d k_X12_waker Φ 0 0 88 [.ref 0, .int (nI p), .int w, .int B, .int (lst1 (fWk A p) B), .int (nI (A (61 + p) 0).toNatClampNeg), .int ((nI k) + (1 : Int32)), .int (fSl A p (A 494 k).toNatClampNeg)] [] m3 o 0 0))))))
  simp (disch := omega) only [mReq_tt, nI_0a, nI_a0, nI_cl, mIn_ok, lit_add, lit_sub, add_lit, lit_le, le_lit, lit_lt, lt_lit, eq_lit, nI_add, nI_1, nI_leI, nI_ltI, nI_eq, mIn_lit, mIn_0, mIn_1, mIn_2, mIn_3, nI_l0, nI_p0, rf_22, rf_44, rf_60, rf_69, rf_391, rf_7, rf_37, rf_51, rf_230, rf_401, rf_413, rf_496, rf_513, rf_518, sB_2, sB_3, sB_4, sB_5, sB_6, sB_7, sL_2, sL_3, sL_4, sL_5, sL_6, sL_7, not_true_eq_false, not_false_eq_true, false_implies, true_implies, true_and, and_true, eq_self, true_or, or_true, Nat.le_refl, Nat.zero_add, Nat.add_zero, clA hm3.1]
  rw [hx.1]
  refine ⟨fun z => hsk (fun y => z y.1.2) _ m3 he3, fun z => ⟨fun y => htk ⟨q, z⟩ (Or.inl y) _ m3 he3, fun y => ?_⟩⟩
  unfold lst1 at hsk ⊢
  rw [if_neg y] at hsk ⊢
  rw [← Int32.not_le]
  exact ⟨fun v => htk ⟨q, z⟩ (Or.inr v) _ m3 he3, fun v => hsk (fun e => e.2.elim y (fun e => v e)) _ m3 he3⟩
theorem faD_In {A : Mm} (hA : CtB A) (hR : Nt A (A 494)) {k : Nat} (hk : k < nM A) : ∀ c, c ≤ nS A → In (faD A k c) (nS A)
  | 0, _ => hR.1 k hk
  | c + 1, hc => by
    show In (ifp _ _ _) _
    by_cases q : ¬ fM A k (nS A - (c + 1)) = -1 ∧ ¬ fM A k (nS A - (c + 1)) < fM A k (faD A k c).toNatClampNeg
    · rw [ifp_t q]; exact ⟨_, by omega, rfl⟩
    · rw [ifp_f q]; exact faD_In hA hR hk c (by omega)
theorem r_farthest (hA : CtB A) (hR : Nt A (A 494)) {m : Mm} (hm : cl m = A) (hd : 3 ≤ d) (k w : Int32) : mHi l g d k_X12_farthest [.ref 0, .int k, .int w] m (rO A (qFar A k w)) := by
  have hN := hA.1
  have hN2 := hA.2.2.1
  refine nBi 2 rfl rfl rfl (by decide) rfl (fun htr o Φ hΦ => mGoOn (mOk (by decide)) rfl [87] 400 ?_)
  show True ∧ mCal l g d k_X12_farthest Φ 0 0 _ 8 k_X12_isMan false [.ref 0, .int k] [.ref 0] [.ref 0, .int k, .int w, mJ, mJ] (mset m 0 0 (0 : Int32)) o 0 0 1
  have hC := Cn_0 hm
  generalize mset m 0 0 (0 : Int32) = M at hC ⊢
  clear hm
  obtain ⟨hM, hth⟩ := hC
  have hC : Cn A M := ⟨hM, hth⟩
  unfold qFar at hΦ
  refine ⟨trivial, fCi htr (r_isMan hA hM (by omega) _) (by omega) ?_⟩
  show (¬ (pI (In k (nM A))) = 0 → True ∧ mCal l g d k_X12_farthest Φ 0 0 _ 21 k_X12_bad false [.ref 0, .int (0 : Int32), .int (1 : Int32), .int (0 : Int32)] [] [.ref 0, .int k, .int w, mJ, mJ] M o 0 0 1) ∧ ((pI (In k (nM A))) = 0 → True ∧ mCal l g d k_X12_farthest Φ 0 0 _ 21 k_X12_bad false [.ref 0, .int (1 : Int32), .int (1 : Int32), .int (0 : Int32)] [] [.ref 0, .int k, .int w, mJ, mJ] M o 0 0 1)
  refine and_sw (fun h1 => ?_) (fun h1 => ?_)
  · replace h1 := pI_0.mp h1
    refine ⟨trivial, fCi htr (r_bad1 hth (t := 1) (j := 0) (by decide) (by decide)) (by omega) ?_⟩
    show (¬ (1 : Int32) = 0 → Φ (.inl (some (.int (0 : Int32)))) (mset (mset M 0 0 1) 2 0 (M 2 0 + 1)) o ∧ 0 ≤ 0 ∧ 0 ≤ 0) ∧ ((1 : Int32) = 0 → mCal l g d k_X12_farthest Φ 0 0 _ 31 k_X12_in false [.int w, .int (0 : Int32), .int (1 : Int32)] [.ref 0] [.ref 0, .int k, .int w, mJ, mJ] (mset (mset M 0 0 1) 2 0 (M 2 0 + 1)) o 0 0 1)
    rw [ifp_f (h1)] at hΦ
    first | exact br1a (eR (hΦ _ _ (rO_t hM (by decide) (by decide)))) | exact br1b (eR (hΦ _ _ (rO_t hM (by decide) (by decide))))
  replace h1 := pI_1.mp h1
  refine ⟨trivial, fCi htr (r_bad0 hth _ _) (by omega) ?_⟩
  show (¬ (0 : Int32) = 0 → Φ (.inl (some (.int (0 : Int32)))) M o ∧ 0 ≤ 0 ∧ 0 ≤ 0) ∧ ((0 : Int32) = 0 → mCal l g d k_X12_farthest Φ 0 0 _ 31 k_X12_in false [.int w, .int (0 : Int32), .int (1 : Int32)] [.ref 0] [.ref 0, .int k, .int w, mJ, mJ] M o 0 0 1)
  rw [ifp_t (h1)] at hΦ
  first | refine br0a ?_ | refine br0b ?_
  refine fCi htr (r_inB (n := 2) (by omega) rfl) (by omega) ?_
  show (¬ (pI (In w 2)) = 0 → True ∧ mCal l g d k_X12_farthest Φ 0 0 _ 44 k_X12_bad false [.ref 0, .int (0 : Int32), .int (2 : Int32), .int (1 : Int32)] [] [.ref 0, .int k, .int w, mJ, mJ] M o 0 0 1) ∧ ((pI (In w 2)) = 0 → True ∧ mCal l g d k_X12_farthest Φ 0 0 _ 44 k_X12_bad false [.ref 0, .int (1 : Int32), .int (2 : Int32), .int (1 : Int32)] [] [.ref 0, .int k, .int w, mJ, mJ] M o 0 0 1)
  refine and_sw (fun h2 => ?_) (fun h2 => ?_)
  · replace h2 := pI_0.mp h2
    refine ⟨trivial, fCi htr (r_bad1 hth (t := 2) (j := 1) (by decide) (by decide)) (by omega) ?_⟩
    show ((1 : Int32) = 0 → mReq (mInB ((0 : Int32) + k) 37) (mReq (mInB ((0 : Int32) + k) 37) (True ∧ mCal l g d k_X12_farthest Φ 0 0 _ 71 k_X12_all false [.ref 0] [.int ((mset (mset M 0 0 2) 2 1 (M 2 1 + 1)) 494 (((0 : Int32) + k).toNatClampNeg)), .ref 0] [.ref 0, .int k, .int w, .int ((mset (mset M 0 0 2) 2 1 (M 2 1 + 1)) 494 (((0 : Int32) + k).toNatClampNeg)), mJ] (mset (mset M 0 0 2) 2 1 (M 2 1 + 1)) o 0 0 1))) ∧ (¬ (1 : Int32) = 0 → Φ (.inl (some (.int (0 : Int32)))) (mset (mset M 0 0 2) 2 1 (M 2 1 + 1)) o ∧ 0 ≤ 0 ∧ 0 ≤ 0)
    rw [ifp_f (h2)] at hΦ
    first | exact br1a (eR (hΦ _ _ (rO_t hM (by decide) (by decide)))) | exact br1b (eR (hΦ _ _ (rO_t hM (by decide) (by decide))))
  replace h2 := pI_1.mp h2
  refine ⟨trivial, fCi htr (r_bad0 hth _ _) (by omega) ?_⟩
  show ((0 : Int32) = 0 → mReq (mInB ((0 : Int32) + k) 37) (mReq (mInB ((0 : Int32) + k) 37) (True ∧ mCal l g d k_X12_farthest Φ 0 0 _ 71 k_X12_all false [.ref 0] [.int (M 494 (((0 : Int32) + k).toNatClampNeg)), .ref 0] [.ref 0, .int k, .int w, .int (M 494 (((0 : Int32) + k).toNatClampNeg)), mJ] M o 0 0 1))) ∧ (¬ (0 : Int32) = 0 → Φ (.inl (some (.int (0 : Int32)))) M o ∧ 0 ≤ 0 ∧ 0 ≤ 0)
  rw [ifp_t (h2)] at hΦ
  first | refine br0a ?_ | refine br0b ?_
  obtain ⟨k, ha, rfl⟩ := h1
  rw [nI_cl (by omega)] at hΦ
  have hs := In_cl (hR.1 k ha) (by omega)
  simp (disch := omega) only [mReq_tt, nI_0a, nI_a0, nI_cl, mIn_ok, lit_add, lit_sub, add_lit, lit_le, le_lit, lit_lt, lt_lit, eq_lit, nI_add, nI_1, nI_leI, nI_ltI, nI_eq, mIn_lit, mIn_0, mIn_1, mIn_2, mIn_3, nI_l0, nI_p0, rf_22, rf_44, rf_60, rf_69, rf_391, rf_7, rf_37, rf_51, rf_230, rf_401, rf_413, rf_496, rf_513, rf_518, sB_2, sB_3, sB_4, sB_5, sB_6, sB_7, sL_2, sL_3, sL_4, sL_5, sL_6, sL_7, not_true_eq_false, not_false_eq_true, false_implies, true_implies, true_and, and_true, eq_self, true_or, or_true, Nat.le_refl, Nat.zero_add, Nat.add_zero, clA hM]
  refine fCi htr (r_all hA hM) (by omega) ?_
  have hcp := hs.1
  generalize hat : A 494 k = at1 at hs hcp ⊢
  rw [hcp]
  refine ⟨trivial, nCv htr (r_laysFar hA hM (by omega) (by omega) _) (by omega) ?_⟩
  intro m2 ⟨hf1, hf2⟩
  rw [← hcp]
  replace hf2 : ∀ s, s < nS A → m2 517 s = fM A k s := by unfold fM; rw [hat]; exact hf2
  replace hC := eqF_Cn hf1 hC
  show mWB l g d k_X12_farthest Φ 0 0 87 [.ref 0, .int (nI k), .int w, .int at1, .int ((m2 4 0) - (1 : Int32))] [] m2 o 0 0
  rw [clA hC.1 0 (by omega), hN.1]
  have key : ∀ c, c ≤ nS A → mWB l g d k_X12_farthest Φ 0 0 87 [.ref 0, .int (nI k), .int w, .int (faD A k c), .int (nI (nS A - c) - 1)] [] m2 o 0 0 := by
    refine mLoop ?_ ?_
    · intro c hc ih
      have hin := faD_In hA hR ha c (by omega)
      rw [nI_dec1 (by omega), show nS A - c - 1 = nS A - (c + 1) by omega]
      have ih' : mWB l g d k_X12_farthest Φ 0 0 87 [.ref 0, .int (nI k), .int w, .int (ifp (¬ fM A k (nS A - (c + 1)) = -1 ∧ ¬ fM A k (nS A - (c + 1)) < fM A k (faD A k c).toNatClampNeg) (nI (nS A - (c + 1))) (faD A k c)), .int (nI (nS A - (c + 1)) - 1)] [] m2 o 0 0 := ih
      have hq : nS A - (c + 1) < nS A := by omega
      generalize faD A k c = B at hin ih' ⊢
      generalize nS A - (c + 1) = q at hq ih' ⊢
      obtain ⟨b, hb, rfl⟩ := hin
      rw [nI_cl (by omega)] at ih'
      refine mGoOn (mOk (by decide)) rfl [87] 400 ?_
      show ((nI q) < 0 → (¬ w = 0 → Φ (.inl (some (.int (nI b)))) m2 o ∧ 0 ≤ 0 ∧ 0 ≤ 0) ∧ (w = 0 → mReq (mInB (nI b) 9) (Φ (.inl (some (.int (m2 517 ((nI b).toNatClampNeg))))) m2 o ∧ 0 ≤ 0 ∧ 0 ≤ 0))) ∧ (¬ (nI q) < 0 → mReq (mInB (nI q) 9) (((m2 517 ((nI q).toNatClampNeg)) = (-1 : Int32) → mWB l g d k_X12_farthest Φ 0 0 87 [.ref 0, .int (nI k), .int w, .int (nI b), .int ((nI q) + (-1 : Int32))] [] m2 o 0 0) ∧ (¬ (m2 517 ((nI q).toNatClampNeg)) = (-1 : Int32) → mReq (mInB (nI q) 9) (mReq (mInB (nI b) 9) (((m2 517 ((nI q).toNatClampNeg)) < (m2 517 ((nI b).toNatClampNeg)) → mWB l g d k_X12_farthest Φ 0 0 87 [.ref 0, .int (nI k), .int w, .int (nI b), .int ((nI q) + (-1 : Int32))] [] m2 o 0 0) ∧ (¬ (m2 517 ((nI q).toNatClampNeg)) < (m2 517 ((nI b).toNatClampNeg)) → mWB l g d k_X12_farthest Φ 0 0 87 [.ref 0, .int (nI k), .int w, .int (nI q), .int ((nI q) + (-1 : Int32))] [] m2 o 0 0))))))
      refine ⟨fun z => absurd z (nI_pos (by omega)), fun _ => ?_⟩
      simp (disch := omega) only [mReq_tt, nI_0a, nI_a0, nI_cl, mIn_ok, lit_add, lit_sub, add_lit, lit_le, le_lit, lit_lt, lt_lit, eq_lit, nI_add, nI_1, nI_leI, nI_ltI, nI_eq, mIn_lit, mIn_0, mIn_1, mIn_2, mIn_3, nI_l0, nI_p0, rf_22, rf_44, rf_60, rf_69, rf_391, rf_7, rf_37, rf_51, rf_230, rf_401, rf_413, rf_496, rf_513, rf_518, sB_2, sB_3, sB_4, sB_5, sB_6, sB_7, sL_2, sL_3, sL_4, sL_5, sL_6, sL_7, not_true_eq_false, not_false_eq_true, false_implies, true_implies, true_and, and_true, eq_self, true_or, or_true, Nat.le_refl, Nat.zero_add, Nat.add_zero, dn_lit]
      rw [hf2 q hq, hf2 b hb]
      refine ⟨fun z => ?_, fun z => ⟨fun y => ?_, fun y => ?_⟩⟩
      · rw [ifp_f (fun v => v.1 z)] at ih'; exact ih'
      · rw [ifp_f (fun v => v.2 y)] at ih'; exact ih'
      · rw [ifp_t ⟨z, y⟩] at ih'; exact ih'
    · rw [Nat.sub_self]
      obtain ⟨b, hb, hb2⟩ := faD_In hA hR ha (nS A) (Nat.le_refl _)
      dsimp only at hΦ
      rw [hb2] at hΦ ⊢
      rw [nI_cl (by omega)] at hΦ
      refine mGoOn (mOk (by decide)) rfl [87] 400 ?_
      show ((nI 0 - 1) < 0 → (¬ w = 0 → Φ (.inl (some (.int (nI b)))) m2 o ∧ 0 ≤ 0 ∧ 0 ≤ 0) ∧ (w = 0 → mReq (mInB (nI b) 9) (Φ (.inl (some (.int (m2 517 ((nI b).toNatClampNeg))))) m2 o ∧ 0 ≤ 0 ∧ 0 ≤ 0))) ∧ (¬ (nI 0 - 1) < 0 → mReq (mInB (nI 0 - 1) 9) (((m2 517 ((nI 0 - 1).toNatClampNeg)) = (-1 : Int32) → mWB l g d k_X12_farthest Φ 0 0 87 [.ref 0, .int (nI k), .int w, .int (nI b), .int ((nI 0 - 1) + (-1 : Int32))] [] m2 o 0 0) ∧ (¬ (m2 517 ((nI 0 - 1).toNatClampNeg)) = (-1 : Int32) → mReq (mInB (nI 0 - 1) 9) (mReq (mInB (nI b) 9) (((m2 517 ((nI 0 - 1).toNatClampNeg)) < (m2 517 ((nI b).toNatClampNeg)) → mWB l g d k_X12_farthest Φ 0 0 87 [.ref 0, .int (nI k), .int w, .int (nI b), .int ((nI 0 - 1) + (-1 : Int32))] [] m2 o 0 0) ∧ (¬ (m2 517 ((nI 0 - 1).toNatClampNeg)) < (m2 517 ((nI b).toNatClampNeg)) → mWB l g d k_X12_farthest Φ 0 0 87 [.ref 0, .int (nI k), .int w, .int (nI 0 - 1), .int ((nI 0 - 1) + (-1 : Int32))] [] m2 o 0 0))))))
      refine ⟨fun _ => ⟨fun z => ?_, fun z => ?_⟩, fun z => absurd nI_0m z⟩
      · rw [if_neg z] at hΦ
        exact eR (hΦ _ _ (rO_k hC rfl))
      · rw [if_pos z] at hΦ
        simp (disch := omega) only [mReq_tt, nI_0a, nI_a0, nI_cl, mIn_ok, lit_add, lit_sub, add_lit, lit_le, le_lit, lit_lt, lt_lit, eq_lit, nI_add, nI_1, nI_leI, nI_ltI, nI_eq, mIn_lit, mIn_0, mIn_1, mIn_2, mIn_3, nI_l0, nI_p0, rf_22, rf_44, rf_60, rf_69, rf_391, rf_7, rf_37, rf_51, rf_230, rf_401, rf_413, rf_496, rf_513, rf_518, sB_2, sB_3, sB_4, sB_5, sB_6, sB_7, sL_2, sL_3, sL_4, sL_5, sL_6, sL_7, not_true_eq_false, not_false_eq_true, false_implies, true_implies, true_and, and_true, eq_self, true_or, or_true, Nat.le_refl, Nat.zero_add, Nat.add_zero]
        exact hΦ _ _ (rO_k hC (hf2 b hb))
  have := key 0 (Nat.zero_le _)
  rw [show faD A k 0 = at1 from hat] at this
  exact this
theorem r_reach (hA : CtB A) (hR : Nt A (A 494)) {m : Mm} (hm : cl m = A) (hd : 3 ≤ d) (k : Int32) : mHi l g d k_X12_reach [.ref 0, .int k] m (rO A (qRch A k)) := by
  have hN := hA.1
  have hN2 := hA.2.2.1
  refine nBi 2 rfl rfl rfl (by decide) rfl (fun htr o Φ hΦ => mGoOn (mOk (by decide)) rfl [49] 400 ?_)
  show True ∧ mCal l g d k_X12_reach Φ 0 0 _ 8 k_X12_isMan false [.ref 0, .int k] [.ref 0] [.ref 0, .int k, mJ, mJ] (mset m 0 0 (0 : Int32)) o 0 0 1
  have hC := Cn_0 hm
  generalize mset m 0 0 (0 : Int32) = M at hC ⊢
  clear hm
  obtain ⟨hM, hth⟩ := hC
  have hC : Cn A M := ⟨hM, hth⟩
  unfold qRch at hΦ
  refine ⟨trivial, fCi htr (r_isMan hA hM (by omega) _) (by omega) ?_⟩
  show (¬ (pI (In k (nM A))) = 0 → True ∧ mCal l g d k_X12_reach Φ 0 0 _ 21 k_X12_bad false [.ref 0, .int (0 : Int32), .int (1 : Int32), .int (0 : Int32)] [] [.ref 0, .int k, mJ, mJ] M o 0 0 1) ∧ ((pI (In k (nM A))) = 0 → True ∧ mCal l g d k_X12_reach Φ 0 0 _ 21 k_X12_bad false [.ref 0, .int (1 : Int32), .int (1 : Int32), .int (0 : Int32)] [] [.ref 0, .int k, mJ, mJ] M o 0 0 1)
  refine and_sw (fun h1 => ?_) (fun h1 => ?_)
  · replace h1 := pI_0.mp h1
    refine ⟨trivial, fCi htr (r_bad1 hth (t := 1) (j := 0) (by decide) (by decide)) (by omega) ?_⟩
    show ((1 : Int32) = 0 → mReq (mInB ((0 : Int32) + k) 37) (True ∧ mCal l g d k_X12_reach Φ 0 0 _ 41 k_X12_all false [.ref 0] [.int ((mset (mset M 0 0 1) 2 0 (M 2 0 + 1)) 494 (((0 : Int32) + k).toNatClampNeg)), .ref 0] [.ref 0, .int k, .int (0 : Int32), mJ] (mset (mset M 0 0 1) 2 0 (M 2 0 + 1)) o 0 0 1)) ∧ (¬ (1 : Int32) = 0 → Φ (.inl (some (.int (0 : Int32)))) (mset (mset M 0 0 1) 2 0 (M 2 0 + 1)) o ∧ 0 ≤ 0 ∧ 0 ≤ 0)
    rw [ifp_f (h1)] at hΦ
    first | exact br1a (eR (hΦ _ _ (rO_t hM (by decide) (by decide)))) | exact br1b (eR (hΦ _ _ (rO_t hM (by decide) (by decide))))
  replace h1 := pI_1.mp h1
  refine ⟨trivial, fCi htr (r_bad0 hth _ _) (by omega) ?_⟩
  show ((0 : Int32) = 0 → mReq (mInB ((0 : Int32) + k) 37) (True ∧ mCal l g d k_X12_reach Φ 0 0 _ 41 k_X12_all false [.ref 0] [.int (M 494 (((0 : Int32) + k).toNatClampNeg)), .ref 0] [.ref 0, .int k, .int (0 : Int32), mJ] M o 0 0 1)) ∧ (¬ (0 : Int32) = 0 → Φ (.inl (some (.int (0 : Int32)))) M o ∧ 0 ≤ 0 ∧ 0 ≤ 0)
  rw [ifp_t (h1)] at hΦ
  first | refine br0a ?_ | refine br0b ?_
  obtain ⟨k, ha, rfl⟩ := h1
  rw [nI_cl (by omega)] at hΦ
  have hs := In_cl (hR.1 k ha) (by omega)
  simp (disch := omega) only [mReq_tt, nI_0a, nI_a0, nI_cl, mIn_ok, lit_add, lit_sub, add_lit, lit_le, le_lit, lit_lt, lt_lit, eq_lit, nI_add, nI_1, nI_leI, nI_ltI, nI_eq, mIn_lit, mIn_0, mIn_1, mIn_2, mIn_3, nI_l0, nI_p0, rf_22, rf_44, rf_60, rf_69, rf_391, rf_7, rf_37, rf_51, rf_230, rf_401, rf_413, rf_496, rf_513, rf_518, sB_2, sB_3, sB_4, sB_5, sB_6, sB_7, sL_2, sL_3, sL_4, sL_5, sL_6, sL_7, not_true_eq_false, not_false_eq_true, false_implies, true_implies, true_and, and_true, eq_self, true_or, or_true, Nat.le_refl, Nat.zero_add, Nat.add_zero, clA hM]
  refine fCi htr (r_all hA hM) (by omega) ?_
  rw [hs.1]
  refine ⟨trivial, nCv htr (r_laysFar hA hM (by omega) (by omega) _) (by omega) ?_⟩
  intro m2 ⟨hf1, hf2⟩
  replace hf2 : ∀ s, s < nS A → m2 517 s = fM A k s := hf2
  replace hC := eqF_Cn hf1 hC
  show mWB l g d k_X12_reach Φ 0 0 49 [.ref 0, .int (nI k), .int (0 : Int32), .int (0 : Int32)] [] m2 o 0 0
  refine mLoopZ (P := fun s => mWB l g d k_X12_reach Φ 0 0 49 [.ref 0, .int (nI k), .int (msk (fun s => ¬ fM A k s = -1) s), .int (nI s)] [] m2 o 0 0) (N := nS A) (mGoOn (mOk (by decide)) rfl [49] 400 ?_) (fun s hi ih => mGoOn (mOk (by decide)) rfl [49] 400 ?_)
  · show ((m2 4 0) ≤ (nI (nS A)) → Φ (.inl (some (.int (msk (fun s => ¬ fM A k s = -1) (nS A))))) m2 o ∧ 0 ≤ 0 ∧ 0 ≤ 0) ∧ (¬ (m2 4 0) ≤ (nI (nS A)) → mReq (mInB (nI (nS A)) 9) ((¬ (m2 517 ((nI (nS A)).toNatClampNeg)) = (-1 : Int32) → mWB l g d k_X12_reach Φ 0 0 49 [.ref 0, .int (nI k), .int ((msk (fun s => ¬ fM A k s = -1) (nS A)) ||| (jshl (1 : Int32) (nI (nS A)))), .int ((nI (nS A)) + (1 : Int32))] [] m2 o 0 0) ∧ ((m2 517 ((nI (nS A)).toNatClampNeg)) = (-1 : Int32) → mWB l g d k_X12_reach Φ 0 0 49 [.ref 0, .int (nI k), .int ((msk (fun s => ¬ fM A k s = -1) (nS A)) ||| (0 : Int32)), .int ((nI (nS A)) + (1 : Int32))] [] m2 o 0 0)))
    simp (disch := omega) only [mReq_tt, nI_0a, nI_a0, nI_cl, mIn_ok, lit_add, lit_sub, add_lit, lit_le, le_lit, lit_lt, lt_lit, eq_lit, nI_add, nI_1, nI_leI, nI_ltI, nI_eq, mIn_lit, mIn_0, mIn_1, mIn_2, mIn_3, nI_l0, nI_p0, rf_22, rf_44, rf_60, rf_69, rf_391, rf_7, rf_37, rf_51, rf_230, rf_401, rf_413, rf_496, rf_513, rf_518, sB_2, sB_3, sB_4, sB_5, sB_6, sB_7, sL_2, sL_3, sL_4, sL_5, sL_6, sL_7, not_true_eq_false, not_false_eq_true, false_implies, true_implies, true_and, and_true, eq_self, true_or, or_true, Nat.le_refl, Nat.zero_add, Nat.add_zero, clA hC.1, hN.1]
    exact hΦ _ _ (rO_k hC rfl)
  show ((m2 4 0) ≤ (nI s) → Φ (.inl (some (.int (msk (fun s => ¬ fM A k s = -1) s)))) m2 o ∧ 0 ≤ 0 ∧ 0 ≤ 0) ∧ (¬ (m2 4 0) ≤ (nI s) → mReq (mInB (nI s) 9) ((¬ (m2 517 ((nI s).toNatClampNeg)) = (-1 : Int32) → mWB l g d k_X12_reach Φ 0 0 49 [.ref 0, .int (nI k), .int ((msk (fun s => ¬ fM A k s = -1) s) ||| (jshl (1 : Int32) (nI s))), .int ((nI s) + (1 : Int32))] [] m2 o 0 0) ∧ ((m2 517 ((nI s).toNatClampNeg)) = (-1 : Int32) → mWB l g d k_X12_reach Φ 0 0 49 [.ref 0, .int (nI k), .int ((msk (fun s => ¬ fM A k s = -1) s) ||| (0 : Int32)), .int ((nI s) + (1 : Int32))] [] m2 o 0 0)))
  have hf : ¬ nS A ≤ s := by omega
  simp (disch := omega) only [mReq_tt, nI_0a, nI_a0, nI_cl, mIn_ok, lit_add, lit_sub, add_lit, lit_le, le_lit, lit_lt, lt_lit, eq_lit, nI_add, nI_1, nI_leI, nI_ltI, nI_eq, mIn_lit, mIn_0, mIn_1, mIn_2, mIn_3, nI_l0, nI_p0, rf_22, rf_44, rf_60, rf_69, rf_391, rf_7, rf_37, rf_51, rf_230, rf_401, rf_413, rf_496, rf_513, rf_518, sB_2, sB_3, sB_4, sB_5, sB_6, sB_7, sL_2, sL_3, sL_4, sL_5, sL_6, sL_7, not_true_eq_false, not_false_eq_true, false_implies, true_implies, true_and, and_true, eq_self, true_or, or_true, Nat.le_refl, Nat.zero_add, Nat.add_zero, clA hC.1, hN.1, hf]
  rw [hf2 s hi]
  exact ⟨fun h => by rw [msk_t h] at ih; exact ih, fun h => by rw [or_zero]; rw [msk_f (fun z => z h)] at ih; exact ih⟩
theorem r_range (hA : Sv A) {m : Mm} (hm : cl m = A) (hd : 7 ≤ d) (k : Int32) : mHi l g d k_X12_range [.ref 0, .int k] m (rO A (qRng A k)) := by
  have hN := hA.1.1
  have hN2 := hA.1.2.2.1
  refine nBi 2 rfl rfl rfl (by decide) rfl (fun htr o Φ hΦ => mGoOn (mOk (by decide)) rfl [33] 400 ?_)
  show True ∧ mCal l g d k_X12_range Φ 0 0 _ 8 k_X12_isMan false [.ref 0, .int k] [.ref 0] [.ref 0, .int k, mJ, mJ] (mset m 0 0 (0 : Int32)) o 0 0 1
  have hC := Cn_0 hm
  generalize mset m 0 0 (0 : Int32) = M at hC ⊢
  clear hm
  obtain ⟨hM, hth⟩ := hC
  have hC : Cn A M := ⟨hM, hth⟩
  unfold qRng at hΦ
  refine ⟨trivial, fCi htr (r_isMan hA.1 hM (by omega) _) (by omega) ?_⟩
  show (¬ (pI (In k (nM A))) = 0 → True ∧ mCal l g d k_X12_range Φ 0 0 _ 21 k_X12_bad false [.ref 0, .int (0 : Int32), .int (1 : Int32), .int (0 : Int32)] [] [.ref 0, .int k, mJ, mJ] M o 0 0 1) ∧ ((pI (In k (nM A))) = 0 → True ∧ mCal l g d k_X12_range Φ 0 0 _ 21 k_X12_bad false [.ref 0, .int (1 : Int32), .int (1 : Int32), .int (0 : Int32)] [] [.ref 0, .int k, mJ, mJ] M o 0 0 1)
  refine and_sw (fun h1 => ?_) (fun h1 => ?_)
  · replace h1 := pI_0.mp h1
    refine ⟨trivial, fCi htr (r_bad1 hth (t := 1) (j := 0) (by decide) (by decide)) (by omega) ?_⟩
    show ((1 : Int32) = 0 → mWB l g d k_X12_range Φ 0 0 33 [.ref 0, .int k, .int (0 : Int32), .int (0 : Int32)] [] (mset (mset M 0 0 1) 2 0 (M 2 0 + 1)) o 0 0) ∧ (¬ (1 : Int32) = 0 → Φ (.inl (some (.int (0 : Int32)))) (mset (mset M 0 0 1) 2 0 (M 2 0 + 1)) o ∧ 0 ≤ 0 ∧ 0 ≤ 0)
    rw [ifp_f (h1)] at hΦ
    first | exact br1a (eR (hΦ _ _ (rO_t hM (by decide) (by decide)))) | exact br1b (eR (hΦ _ _ (rO_t hM (by decide) (by decide))))
  replace h1 := pI_1.mp h1
  refine ⟨trivial, fCi htr (r_bad0 hth _ _) (by omega) ?_⟩
  show ((0 : Int32) = 0 → mWB l g d k_X12_range Φ 0 0 33 [.ref 0, .int k, .int (0 : Int32), .int (0 : Int32)] [] M o 0 0) ∧ (¬ (0 : Int32) = 0 → Φ (.inl (some (.int (0 : Int32)))) M o ∧ 0 ≤ 0 ∧ 0 ≤ 0)
  rw [ifp_t (h1)] at hΦ
  first | refine br0a ?_ | refine br0b ?_
  obtain ⟨k, ha, rfl⟩ := h1
  rw [nI_cl (by omega)] at hΦ
  refine mLoopZ (P := fun s => ∀ m, Cn A m → mWB l g d k_X12_range Φ 0 0 33 [.ref 0, .int (nI k), .int (uni (fun s => jshl 1 (sayN A k s (A 494 35))) s), .int (nI s)] [] m o 0 0) (N := nS A) (fun m hm => mGoOn (mOk (by decide)) rfl [33] 400 ?_) (fun s hi ih m hm => mGoOn (mOk (by decide)) rfl [33] 400 ?_) M hC
  · show ((m 4 0) ≤ (nI (nS A)) → Φ (.inl (some (.int (uni (fun s => jshl 1 (sayN A k s (A 494 35))) (nS A))))) m o ∧ 0 ≤ 0 ∧ 0 ≤ 0) ∧ (¬ (m 4 0) ≤ (nI (nS A)) → True ∧ mCal l g d k_X12_range Φ 0 0 _ 52 k_X12_saysIn false [.ref 0, .ref 494, .int (nI k), .int (nI (nS A))] [.int (1 : Int32), .int (uni (fun s => jshl 1 (sayN A k s (A 494 35))) (nS A))] [.ref 0, .int (nI k), .int (uni (fun s => jshl 1 (sayN A k s (A 494 35))) (nS A)), .int (nI (nS A))] m o 0 0 1)
    simp (disch := omega) only [mReq_tt, nI_0a, nI_a0, nI_cl, mIn_ok, lit_add, lit_sub, add_lit, lit_le, le_lit, lit_lt, lt_lit, eq_lit, nI_add, nI_1, nI_leI, nI_ltI, nI_eq, mIn_lit, mIn_0, mIn_1, mIn_2, mIn_3, nI_l0, nI_p0, rf_22, rf_44, rf_60, rf_69, rf_391, rf_7, rf_37, rf_51, rf_230, rf_401, rf_413, rf_496, rf_513, rf_518, sB_2, sB_3, sB_4, sB_5, sB_6, sB_7, sL_2, sL_3, sL_4, sL_5, sL_6, sL_7, not_true_eq_false, not_false_eq_true, false_implies, true_implies, true_and, and_true, eq_self, true_or, or_true, Nat.le_refl, Nat.zero_add, Nat.add_zero, clA hm.1, hN.1]
    exact hΦ _ _ (rO_k hm rfl)
  show ((m 4 0) ≤ (nI s) → Φ (.inl (some (.int (uni (fun s => jshl 1 (sayN A k s (A 494 35))) s)))) m o ∧ 0 ≤ 0 ∧ 0 ≤ 0) ∧ (¬ (m 4 0) ≤ (nI s) → True ∧ mCal l g d k_X12_range Φ 0 0 _ 52 k_X12_saysIn false [.ref 0, .ref 494, .int (nI k), .int (nI s)] [.int (1 : Int32), .int (uni (fun s => jshl 1 (sayN A k s (A 494 35))) s)] [.ref 0, .int (nI k), .int (uni (fun s => jshl 1 (sayN A k s (A 494 35))) s), .int (nI s)] m o 0 0 1)
  have hf : ¬ nS A ≤ s := by omega
  simp (disch := omega) only [mReq_tt, nI_0a, nI_a0, nI_cl, mIn_ok, lit_add, lit_sub, add_lit, lit_le, le_lit, lit_lt, lt_lit, eq_lit, nI_add, nI_1, nI_leI, nI_ltI, nI_eq, mIn_lit, mIn_0, mIn_1, mIn_2, mIn_3, nI_l0, nI_p0, rf_22, rf_44, rf_60, rf_69, rf_391, rf_7, rf_37, rf_51, rf_230, rf_401, rf_413, rf_496, rf_513, rf_518, sB_2, sB_3, sB_4, sB_5, sB_6, sB_7, sL_2, sL_3, sL_4, sL_5, sL_6, sL_7, not_true_eq_false, not_false_eq_true, false_implies, true_implies, true_and, and_true, eq_self, true_or, or_true, Nat.le_refl, Nat.zero_add, Nat.add_zero, clA hm.1, hN.1, hf]
  refine nCi htr (r_sayN hA hm (by omega) ha (by omega)) (by omega) ?_
  intro x m2 hx
  show mWB l g d k_X12_range Φ 0 0 33 [.ref 0, .int (nI k), .int ((uni (fun s => jshl 1 (sayN A k s (A 494 35))) s) ||| (jshl (1 : Int32) x)), .int ((nI s) + (1 : Int32))] [] m2 o 0 0
  rw [nI_1, hx.1]
  exact ih m2 hx.2
end R14
