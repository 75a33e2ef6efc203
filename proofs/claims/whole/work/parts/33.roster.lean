set_option maxRecDepth 100000
/-! THE REFERENCE'S QUERIES: roster, thief, oil -/
def wkN (A : Mm) (k : Nat) : Nat := (A (45 + k) 2).toNatClampNeg
noncomputable def walkB (A : Mm) (k : Nat) : Int32 := uni (fun t => jshl 1 (jrem (A (45 + k) 1 + nI t) 24)) (wkN A k)
noncomputable def rosW (A : Mm) (q : Int32) : Int32 := uni (fun k => ifp (hB q k) (walkB A k) 0) (nM A)
def PRo (A : Mm) (h : Int32) (q : Nat) : Prop := h &&& (rosW A (nI q) ^^^ -1) = 0
noncomputable def qRos (A : Mm) (h : Int32) : Oc := ifp (In h (2 ^ 24)) (0, 0, amd (PRo A h) f1s (2 ^ nM A) (2 ^ nM A)) (1, 1, 0)
noncomputable def stl (A : Mm) (s t : Nat) (k : Int32) : Int32 := A 6 s - ifp (s = t ∨ Ln A (nI s) (nI t)) k 0
def nRst (A : Mm) (s t : Nat) (k : Int32) (e : Nat) : Prop := stl A s t k < stl A e t k ∨ stl A s e k < stl A s t k
def rst (A : Mm) (k : Int32) (s t : Nat) : Prop := ∀ e, e < nS A → ¬ nRst A s t k e
noncomputable def stT (A : Mm) (k : Int32) (s t : Nat) (x : Int32 × Int32 × Int32) : Int32 × Int32 × Int32 := ifp (rst A k s t) (x.1 + 1, if x.1 = 0 then c10 s t else x.2.1, if x.1 = 0 then stl A s t k else x.2.2) x
noncomputable def foT (A : Mm) (k : Int32) (K : Nat) : Int32 × Int32 × Int32 := fo (fun s x => fo (stT A k s) (nS A) x) K (0, -1, 0)
noncomputable def qThf (A : Mm) (k w : Int32) : Oc := ifp (In k 61 ∧ In w 3) (0, 0, if w = 0 then (foT A k (nS A)).1 else if w = 1 then (foT A k (nS A)).2.1 else (foT A k (nS A)).2.2) (1, 1, 0)
noncomputable def gvn (A : Mm) (me bo : Int32) : Int32 := sm (fun k => ifp (hB me k) (if bo < A (45 + k) 2 then bo else A (45 + k) 2) 0) (nM A)
/-- the first, or n -/
noncomputable def frs (Q : Nat → Prop) : Nat → Nat
  | 0 => 0
  | n + 1 => ifp (frs Q n = n ∧ ¬ Q n) (n + 1) (frs Q n)
theorem frs_no {Q : Nat → Prop} : ∀ {n : Nat}, (∀ j, j < n → ¬ Q j) → frs Q n = n
  | 0, _ => rfl
  | n + 1, h => ifp_t ⟨frs_no (fun j hj => h j (by omega)), h n (by omega)⟩
theorem frs_yes {Q : Nat → Prop} {b : Nat} (h : ∀ j, j < b → ¬ Q j) (hb : Q b) : ∀ {n : Nat}, b < n → frs Q n = b
  | 0, h2 => by omega
  | n + 1, h2 => by
    show ifp _ _ _ = _
    by_cases e : b = n
    · subst e
      rw [ifp_f (fun z => z.2 hb), frs_no h]
    · have ih := frs_yes h hb (n := n) (by omega)
      rw [ifp_f (fun z => by omega), ih]
def QOl (A : Mm) (me n : Int32) (b : Nat) : Prop := n < gvn A me (nI (b + 1))
noncomputable def qOil (A : Mm) (k me n : Int32) : Oc := ifp (In k (nM A)) (ifp (In me (2 ^ nM A) ∧ In n 1000) (0, 0,
  ifp (hB me k.toNatClampNeg) (if nI (frs (QOl A me n) 24) < A (45 + k.toNatClampNeg) 2 then nI (frs (QOl A me n) 24) else A (45 + k.toNatClampNeg) 2) 0) (2, 1, 0)) (1, 0, 0)
section R17
variable {l : Launch} {g : mG} {d : Nat} {A : Mm}
theorem r_walkedBy (hT : Cty A) {m : Mm} (hm : cl m = A) {k : Nat} (hk : k < nM A) : mFi l g d k_X12_walkedBy [.ref 0, .int (nI k)] m (walkB A k) m := by
  have hN2 := hT.1.2.2.1
  have hw := In_cl (hT.2.2.2.1 k hk).2.2.1 (by omega)
  replace hw : A (45 + k) 2 = nI (wkN A k) ∧ wkN A k < 25 := hw
  refine nFi 2 rfl rfl rfl (by decide) rfl (fun htr o Φ hΦ => mGoOn (mOk (by decide)) rfl [4] 400 ?_)
  show mWB l g d k_X12_walkedBy Φ 0 0 4 [.ref 0, .int (nI k), .int (0 : Int32), .int (0 : Int32)] [] m o 0 0
  refine mLoopZ (P := fun t => mWB l g d k_X12_walkedBy Φ 0 0 4 [.ref 0, .int (nI k), .int (uni (fun t => jshl 1 (jrem (A (45 + k) 1 + nI t) 24)) t), .int (nI t)] [] m o 0 0) (N := wkN A k) (mGoOn (mOk (by decide)) rfl [4] 400 ?_) (fun t hi ih => mGoOn (mOk (by decide)) rfl [4] 400 ?_)
  · show mReq (mInB (nI k) 6) (mReq (mIsB (mRF 44 ((nI k).toNatClampNeg)) 1) (mReq (mInB (2 : Int32) (mLn (mRF 44 ((nI k).toNatClampNeg)))) (((m (mRF 44 ((nI k).toNatClampNeg)) 2) ≤ (nI (wkN A k)) → Φ (.inl (some (.int (uni (fun t => jshl 1 (jrem (A (45 + k) 1 + nI t) 24)) (wkN A k))))) m o ∧ 0 ≤ 0 ∧ 0 ≤ 0) ∧ (¬ (m (mRF 44 ((nI k).toNatClampNeg)) 2) ≤ (nI (wkN A k)) → mReq (mInB (nI k) 6) (mReq (mIsB (mRF 44 ((nI k).toNatClampNeg)) 1) (mReq (mInB (1 : Int32) (mLn (mRF 44 ((nI k).toNatClampNeg)))) (¬ (24 : Int32) = 0 ∧ (mWB l g d k_X12_walkedBy Φ 0 0 4 [.ref 0, .int (nI k), .int ((uni (fun t => jshl 1 (jrem (A (45 + k) 1 + nI t) 24)) (wkN A k)) ||| (jshl (1 : Int32) (jrem ((m (mRF 44 ((nI k).toNatClampNeg)) 1) + (nI (wkN A k))) (24 : Int32)))), .int ((nI (wkN A k)) + (1 : Int32))] [] m o 0 0))))))))
    simp (disch := omega) only [mReq_tt, nI_0a, nI_a0, nI_cl, mIn_ok, lit_add, lit_sub, add_lit, lit_le, le_lit, lit_lt, lt_lit, eq_lit, nI_add, nI_1, nI_leI, nI_ltI, nI_eq, mIn_lit, mIn_0, mIn_1, mIn_2, mIn_3, nI_l0, nI_p0, rf_22, rf_44, rf_60, rf_69, rf_391, rf_7, rf_37, rf_51, rf_230, rf_401, rf_413, rf_496, rf_513, rf_518, sB_2, sB_3, sB_4, sB_5, sB_6, sB_7, sL_2, sL_3, sL_4, sL_5, sL_6, sL_7, not_true_eq_false, not_false_eq_true, false_implies, true_implies, true_and, and_true, eq_self, true_or, or_true, Nat.le_refl, Nat.zero_add, Nat.add_zero, clA hm, hw.1]
    exact hΦ
  show mReq (mInB (nI k) 6) (mReq (mIsB (mRF 44 ((nI k).toNatClampNeg)) 1) (mReq (mInB (2 : Int32) (mLn (mRF 44 ((nI k).toNatClampNeg)))) (((m (mRF 44 ((nI k).toNatClampNeg)) 2) ≤ (nI t) → Φ (.inl (some (.int (uni (fun t => jshl 1 (jrem (A (45 + k) 1 + nI t) 24)) t)))) m o ∧ 0 ≤ 0 ∧ 0 ≤ 0) ∧ (¬ (m (mRF 44 ((nI k).toNatClampNeg)) 2) ≤ (nI t) → mReq (mInB (nI k) 6) (mReq (mIsB (mRF 44 ((nI k).toNatClampNeg)) 1) (mReq (mInB (1 : Int32) (mLn (mRF 44 ((nI k).toNatClampNeg)))) (¬ (24 : Int32) = 0 ∧ (mWB l g d k_X12_walkedBy Φ 0 0 4 [.ref 0, .int (nI k), .int ((uni (fun t => jshl 1 (jrem (A (45 + k) 1 + nI t) 24)) t) ||| (jshl (1 : Int32) (jrem ((m (mRF 44 ((nI k).toNatClampNeg)) 1) + (nI t)) (24 : Int32)))), .int ((nI t) + (1 : Int32))] [] m o 0 0))))))))
  have hf : ¬ wkN A k ≤ t := by omega
  simp (disch := omega) only [mReq_tt, nI_0a, nI_a0, nI_cl, mIn_ok, lit_add, lit_sub, add_lit, lit_le, le_lit, lit_lt, lt_lit, eq_lit, nI_add, nI_1, nI_leI, nI_ltI, nI_eq, mIn_lit, mIn_0, mIn_1, mIn_2, mIn_3, nI_l0, nI_p0, rf_22, rf_44, rf_60, rf_69, rf_391, rf_7, rf_37, rf_51, rf_230, rf_401, rf_413, rf_496, rf_513, rf_518, sB_2, sB_3, sB_4, sB_5, sB_6, sB_7, sL_2, sL_3, sL_4, sL_5, sL_6, sL_7, not_true_eq_false, not_false_eq_true, false_implies, true_implies, true_and, and_true, eq_self, true_or, or_true, Nat.le_refl, Nat.zero_add, Nat.add_zero, clA hm, hw.1, hf]
  exact ⟨by decide, ih⟩
theorem r_roster (hT : Cty A) {m : Mm} (hm : cl m = A) (hd : 3 ≤ d) (h : Int32) : mHi l g d k_X12_roster [.ref 0, .int h] m (rO A (qRos A h)) := by
  have hN2 := hT.1.2.2.1
  refine nBi 4 rfl rfl rfl (by decide) rfl (fun htr o Φ hΦ => mGoOn (mOk (by decide)) rfl [45,55] 400 ?_)
  show mCal l g d k_X12_roster Φ 0 0 _ 11 k_X12_in false [.int h, .int (0 : Int32), .int (16777215 : Int32)] [.ref 0] [.ref 0, .int h, mJ, mJ, mJ, mJ] (mset m 0 0 (0 : Int32)) o 0 0 1
  have hC := Cn_0 hm
  generalize mset m 0 0 (0 : Int32) = M at hC ⊢
  clear hm
  obtain ⟨hM, hth⟩ := hC
  have hC : Cn A M := ⟨hM, hth⟩
  unfold qRos at hΦ
  refine fCi htr (r_inB (n := 2 ^ 24) (by omega) (by decide)) (by omega) ?_
  show (¬ (pI (In h (2 ^ 24))) = 0 → True ∧ mCal l g d k_X12_roster Φ 0 0 _ 24 k_X12_bad false [.ref 0, .int (0 : Int32), .int (1 : Int32), .int (1 : Int32)] [] [.ref 0, .int h, mJ, mJ, mJ, mJ] M o 0 0 1) ∧ ((pI (In h (2 ^ 24))) = 0 → True ∧ mCal l g d k_X12_roster Φ 0 0 _ 24 k_X12_bad false [.ref 0, .int (1 : Int32), .int (1 : Int32), .int (1 : Int32)] [] [.ref 0, .int h, mJ, mJ, mJ, mJ] M o 0 0 1)
  refine and_sw (fun h1 => ?_) (fun h1 => ?_)
  · replace h1 := pI_0.mp h1
    refine ⟨trivial, fCi htr (r_bad1 hth (t := 1) (j := 1) (by decide) (by decide)) (by omega) ?_⟩
    show ((1 : Int32) = 0 → mWB l g d k_X12_roster Φ 0 0 45 [.ref 0, .int h, .int (-1 : Int32), .int ((jshl (1 : Int32) ((mset (mset M 0 0 1) 2 1 (M 2 1 + 1)) 4 2)) - (1 : Int32)), mJ, mJ] [] (mset (mset M 0 0 1) 2 1 (M 2 1 + 1)) o 0 0) ∧ (¬ (1 : Int32) = 0 → Φ (.inl (some (.int (0 : Int32)))) (mset (mset M 0 0 1) 2 1 (M 2 1 + 1)) o ∧ 0 ≤ 0 ∧ 0 ≤ 0)
    rw [ifp_f (h1)] at hΦ
    first | exact br1a (eR (hΦ _ _ (rO_t hM (by decide) (by decide)))) | exact br1b (eR (hΦ _ _ (rO_t hM (by decide) (by decide))))
  replace h1 := pI_1.mp h1
  refine ⟨trivial, fCi htr (r_bad0 hth _ _) (by omega) ?_⟩
  show ((0 : Int32) = 0 → mWB l g d k_X12_roster Φ 0 0 45 [.ref 0, .int h, .int (-1 : Int32), .int ((jshl (1 : Int32) (M 4 2)) - (1 : Int32)), mJ, mJ] [] M o 0 0) ∧ (¬ (0 : Int32) = 0 → Φ (.inl (some (.int (0 : Int32)))) M o ∧ 0 ≤ 0 ∧ 0 ≤ 0)
  rw [ifp_t (h1)] at hΦ
  first | refine br0a ?_ | refine br0b ?_
  rw [clA hM 2 (by omega), hN2.1, sh_pow _ (by omega)]
  have hpw : 2 ^ nM A ≤ 2 ^ 6 := Nat.pow_le_pow_right (by decide) hN2.2
  have key : ∀ c, c ≤ 2 ^ nM A → mWB l g d k_X12_roster Φ 0 0 45 [.ref 0, .int h, .int (amd (PRo A h) f1s (2 ^ nM A) c), .int (nI (2 ^ nM A - c) - 1), mJ, mJ] [] M o 0 0 := by
    refine mLoop ?_ ?_
    · intro c hc2 ih
      have hin := amd_In (PRo A h) f1s (N := 2 ^ nM A) c (by omega)
      have e1 : nI (2 ^ nM A - c) - 1 = nI (2 ^ nM A - (c + 1)) := nI_dec1 (by omega)
      have hq : 2 ^ nM A - (c + 1) < 64 := by omega
      have sk : ¬ (PRo A h (2 ^ nM A - (c + 1)) ∧ (amd (PRo A h) f1s (2 ^ nM A) c = -1 ∨ f1s (2 ^ nM A - (c + 1)) ≤ f1s (amd (PRo A h) f1s (2 ^ nM A) c).toNatClampNeg)) → ∀ x y, mWB l g d k_X12_roster Φ 0 0 45 [.ref 0, .int h, .int (amd (PRo A h) f1s (2 ^ nM A) c), .int (nI (2 ^ nM A - (c + 1)) - 1), .int x, .int y] [] M o 0 0 := fun z x y => by
        rw [amd_f z] at ih
        exact mWB_wk ih ⟨Or.inr rfl, Or.inr rfl, Or.inr rfl, Or.inr rfl, Or.inl rfl, Or.inl rfl, trivial⟩
      have tk : PRo A h (2 ^ nM A - (c + 1)) → (amd (PRo A h) f1s (2 ^ nM A) c = -1 ∨ f1s (2 ^ nM A - (c + 1)) ≤ f1s (amd (PRo A h) f1s (2 ^ nM A) c).toNatClampNeg) → ∀ x y, mWB l g d k_X12_roster Φ 0 0 45 [.ref 0, .int h, .int (nI (2 ^ nM A - (c + 1))), .int (nI (2 ^ nM A - (c + 1)) - 1), .int x, .int y] [] M o 0 0 := fun z z2 x y => by
        rw [amd_t z z2] at ih
        exact mWB_wk ih ⟨Or.inr rfl, Or.inr rfl, Or.inr rfl, Or.inr rfl, Or.inl rfl, Or.inl rfl, trivial⟩
      rw [e1]
      clear ih
      generalize amd (PRo A h) f1s (2 ^ nM A) c = B at sk tk hin ⊢
      generalize 2 ^ nM A - (c + 1) = q at sk tk hq ⊢
      refine mGoOn (mOk (by decide)) rfl [45,55] 400 ?_
      show ((nI q) < 0 → Φ (.inl (some (.int B))) M o ∧ 0 ≤ 0 ∧ 0 ≤ 0) ∧ (¬ (nI q) < 0 → mWB l g d k_X12_roster Φ 0 0 55 [.ref 0, .int h, .int B, .int (nI q), .int (0 : Int32), .int (0 : Int32)] [] M o 0 0)
      refine ⟨fun z => absurd z (nI_pos (by omega)), fun _ => ?_⟩
      refine mLoopZ (P := fun k => mWB l g d k_X12_roster Φ 0 0 55 [.ref 0, .int h, .int B, .int (nI q), .int (uni (fun k => ifp (hB (nI q) k) (walkB A k) 0) k), .int (nI k)] [] M o 0 0) (N := nM A) (mGoOn (mOk (by decide)) rfl [45,55] 400 ?_) (fun k hi ih => mGoOn (mOk (by decide)) rfl [45,55] 400 ?_)
      · show ((M 4 2) ≤ (nI (nM A)) → (¬ (h &&& ((uni (fun k => ifp (hB (nI q) k) (walkB A k) 0) (nM A)) ^^^ (-1 : Int32))) = 0 → mWB l g d k_X12_roster Φ 0 0 45 [.ref 0, .int h, .int B, .int ((nI q) + (-1 : Int32)), .int (uni (fun k => ifp (hB (nI q) k) (walkB A k) 0) (nM A)), .int (nI (nM A))] [] M o 0 0) ∧ ((h &&& ((uni (fun k => ifp (hB (nI q) k) (walkB A k) 0) (nM A)) ^^^ (-1 : Int32))) = 0 → (B = (-1 : Int32) → mWB l g d k_X12_roster Φ 0 0 45 [.ref 0, .int h, .int (nI q), .int ((nI q) + (-1 : Int32)), .int (uni (fun k => ifp (hB (nI q) k) (walkB A k) 0) (nM A)), .int (nI (nM A))] [] M o 0 0) ∧ (¬ B = (-1 : Int32) → mCal l g d k_X12_roster Φ 0 0 _ 111 k_X12_ones false [.int (nI q)] [] [.ref 0, .int h, .int B, .int (nI q), .int (uni (fun k => ifp (hB (nI q) k) (walkB A k) 0) (nM A)), .int (nI (nM A))] M o 0 0 1))) ∧ (¬ (M 4 2) ≤ (nI (nM A)) → mCal l g d k_X12_roster Φ 0 0 _ 71 k_X12_has false [.int (nI q), .int (nI (nM A))] [.int (uni (fun k => ifp (hB (nI q) k) (walkB A k) 0) (nM A))] [.ref 0, .int h, .int B, .int (nI q), .int (uni (fun k => ifp (hB (nI q) k) (walkB A k) 0) (nM A)), .int (nI (nM A))] M o 0 0 1)
        simp (disch := omega) only [mReq_tt, nI_0a, nI_a0, nI_cl, mIn_ok, lit_add, lit_sub, add_lit, lit_le, le_lit, lit_lt, lt_lit, eq_lit, nI_add, nI_1, nI_leI, nI_ltI, nI_eq, mIn_lit, mIn_0, mIn_1, mIn_2, mIn_3, nI_l0, nI_p0, rf_22, rf_44, rf_60, rf_69, rf_391, rf_7, rf_37, rf_51, rf_230, rf_401, rf_413, rf_496, rf_513, rf_518, sB_2, sB_3, sB_4, sB_5, sB_6, sB_7, sL_2, sL_3, sL_4, sL_5, sL_6, sL_7, not_true_eq_false, not_false_eq_true, false_implies, true_implies, true_and, and_true, eq_self, true_or, or_true, Nat.le_refl, Nat.zero_add, Nat.add_zero, clA hM, hN2.1, dn_lit]
        refine ⟨fun z => sk (fun y => z y.1) _ _, fun z => ⟨fun y => tk z (Or.inl y) _ _, fun y => ?_⟩⟩
        obtain ⟨b, hb, rfl, _⟩ := hin.resolve_left y
        rw [nI_cl (by omega)] at sk tk
        refine fCi htr (r_ones M _) (by omega) ?_
        refine fCi htr (r_ones M _) (by omega) ?_
        show ((nI (one24 (nI b))) < (nI (one24 (nI q))) → mWB l g d k_X12_roster Φ 0 0 45 [.ref 0, .int h, .int (nI b), .int ((nI q) + (-1 : Int32)), .int (rosW A (nI q)), .int (nI (nM A))] [] M o 0 0) ∧ (¬ (nI (one24 (nI b))) < (nI (one24 (nI q))) → mWB l g d k_X12_roster Φ 0 0 45 [.ref 0, .int h, .int (nI q), .int ((nI q) + (-1 : Int32)), .int (rosW A (nI q)), .int (nI (nM A))] [] M o 0 0)
        rw [dn_lit]
        exact ⟨fun x => sk (fun v => v.2.elim (fun e => y e) (fun e => Int32.not_le.mpr x e)) _ _, fun x => tk z (Or.inr (Int32.not_lt.mp x)) _ _⟩
      show ((M 4 2) ≤ (nI k) → (¬ (h &&& ((uni (fun k => ifp (hB (nI q) k) (walkB A k) 0) k) ^^^ (-1 : Int32))) = 0 → mWB l g d k_X12_roster Φ 0 0 45 [.ref 0, .int h, .int B, .int ((nI q) + (-1 : Int32)), .int (uni (fun k => ifp (hB (nI q) k) (walkB A k) 0) k), .int (nI k)] [] M o 0 0) ∧ ((h &&& ((uni (fun k => ifp (hB (nI q) k) (walkB A k) 0) k) ^^^ (-1 : Int32))) = 0 → (B = (-1 : Int32) → mWB l g d k_X12_roster Φ 0 0 45 [.ref 0, .int h, .int (nI q), .int ((nI q) + (-1 : Int32)), .int (uni (fun k => ifp (hB (nI q) k) (walkB A k) 0) k), .int (nI k)] [] M o 0 0) ∧ (¬ B = (-1 : Int32) → mCal l g d k_X12_roster Φ 0 0 _ 111 k_X12_ones false [.int (nI q)] [] [.ref 0, .int h, .int B, .int (nI q), .int (uni (fun k => ifp (hB (nI q) k) (walkB A k) 0) k), .int (nI k)] M o 0 0 1))) ∧ (¬ (M 4 2) ≤ (nI k) → mCal l g d k_X12_roster Φ 0 0 _ 71 k_X12_has false [.int (nI q), .int (nI k)] [.int (uni (fun k => ifp (hB (nI q) k) (walkB A k) 0) k)] [.ref 0, .int h, .int B, .int (nI q), .int (uni (fun k => ifp (hB (nI q) k) (walkB A k) 0) k), .int (nI k)] M o 0 0 1)
      have hf : ¬ nM A ≤ k := by omega
      simp (disch := omega) only [mReq_tt, nI_0a, nI_a0, nI_cl, mIn_ok, lit_add, lit_sub, add_lit, lit_le, le_lit, lit_lt, lt_lit, eq_lit, nI_add, nI_1, nI_leI, nI_ltI, nI_eq, mIn_lit, mIn_0, mIn_1, mIn_2, mIn_3, nI_l0, nI_p0, rf_22, rf_44, rf_60, rf_69, rf_391, rf_7, rf_37, rf_51, rf_230, rf_401, rf_413, rf_496, rf_513, rf_518, sB_2, sB_3, sB_4, sB_5, sB_6, sB_7, sL_2, sL_3, sL_4, sL_5, sL_6, sL_7, not_true_eq_false, not_false_eq_true, false_implies, true_implies, true_and, and_true, eq_self, true_or, or_true, Nat.le_refl, Nat.zero_add, Nat.add_zero, clA hM, hN2.1, dn_lit, hf]
      refine fCi htr (q_has (nI q) (by omega) M) (by omega) ?_
      show ((pI (hB (nI q) k)) = 0 → mWB l g d k_X12_roster Φ 0 0 55 [.ref 0, .int h, .int B, .int (nI q), .int ((uni (fun k => ifp (hB (nI q) k) (walkB A k) 0) k) ||| (0 : Int32)), .int ((nI k) + (1 : Int32))] [] M o 0 0) ∧ (¬ (pI (hB (nI q) k)) = 0 → True ∧ mCal l g d k_X12_roster Φ 0 0 _ 80 k_X12_walkedBy false [.ref 0, .int (nI k)] [.int (uni (fun k => ifp (hB (nI q) k) (walkB A k) 0) k)] [.ref 0, .int h, .int B, .int (nI q), .int (uni (fun k => ifp (hB (nI q) k) (walkB A k) 0) k), .int (nI k)] M o 0 0 1)
      rw [uni_s] at ih
      refine ⟨fun z => ?_, fun z => ?_⟩
      · rw [ifp_f (pI_0.mp z)] at ih
        rw [nI_1]
        exact ih
      · rw [ifp_t (pI_1.mp z)] at ih
        refine ⟨trivial, fCi htr (r_walkedBy hT hM hi) (by omega) ?_⟩
        show mWB l g d k_X12_roster Φ 0 0 55 [.ref 0, .int h, .int B, .int (nI q), .int ((uni (fun k => ifp (hB (nI q) k) (walkB A k) 0) k) ||| (walkB A k)), .int ((nI k) + (1 : Int32))] [] M o 0 0
        rw [nI_1]
        exact ih
    · rw [Nat.sub_self]
      refine mGoOn (mOk (by decide)) rfl [45,55] 400 ?_
      show ((nI 0 - 1) < 0 → Φ (.inl (some (.int (amd (PRo A h) f1s (2 ^ nM A) (2 ^ nM A))))) M o ∧ 0 ≤ 0 ∧ 0 ≤ 0) ∧ (¬ (nI 0 - 1) < 0 → mWB l g d k_X12_roster Φ 0 0 55 [.ref 0, .int h, .int (amd (PRo A h) f1s (2 ^ nM A) (2 ^ nM A)), .int (nI 0 - 1), .int (0 : Int32), .int (0 : Int32)] [] M o 0 0)
      exact ⟨fun _ => eR (hΦ _ _ (rO_k hC rfl)), fun z => absurd nI_0m z⟩
  exact key 0 (Nat.zero_le _)
theorem r_steals (hA : CtB A) {m : Mm} (hm : cl m = A) (hd : 1 ≤ d) {s t : Nat} (hs : s < 9) (ht : t < 9) (k : Int32) : mFi l g d k_X12_steals [.ref 0, .int (nI s), .int (nI t), .int k] m (stl A s t k) m := by
  refine nFi 0 rfl rfl rfl (by decide) rfl (fun htr o Φ hΦ => mGoOn (mOk (by decide)) rfl [] 400 ?_)
  show mReq (mInB (nI s) 9) (((nI s) = (nI t) → Φ (.inl (some (.int ((m 6 ((nI s).toNatClampNeg)) - k)))) m o ∧ 0 ≤ 0 ∧ 0 ≤ 0) ∧ (¬ (nI s) = (nI t) → True ∧ mCal l g d k_X12_steals Φ 0 0 _ 14 k_X12_isLane false [.ref 0, .int (nI s), .int (nI t)] [.int (m 6 ((nI s).toNatClampNeg))] [.ref 0, .int (nI s), .int (nI t), .int k] m o 0 0 1))
  simp (disch := omega) only [mReq_tt, nI_0a, nI_a0, nI_cl, mIn_ok, lit_add, lit_sub, add_lit, lit_le, le_lit, lit_lt, lt_lit, eq_lit, nI_add, nI_1, nI_leI, nI_ltI, nI_eq, mIn_lit, mIn_0, mIn_1, mIn_2, mIn_3, nI_l0, nI_p0, rf_22, rf_44, rf_60, rf_69, rf_391, rf_7, rf_37, rf_51, rf_230, rf_401, rf_413, rf_496, rf_513, rf_518, sB_2, sB_3, sB_4, sB_5, sB_6, sB_7, sL_2, sL_3, sL_4, sL_5, sL_6, sL_7, not_true_eq_false, not_false_eq_true, false_implies, true_implies, true_and, and_true, eq_self, true_or, or_true, Nat.le_refl, Nat.zero_add, Nat.add_zero, clA hm]
  unfold stl at hΦ
  refine ⟨fun q => ?_, fun q => ?_⟩
  · rw [ifp_t (Or.inl q)] at hΦ
    exact hΦ
  · refine fCi htr (r_isLane hA hm _ _) hd ?_
    show ((pI (Ln A (nI s) (nI t))) = 0 → Φ (.inl (some (.int ((A 6 s) - (0 : Int32))))) m o ∧ 0 ≤ 0 ∧ 0 ≤ 0) ∧ (¬ (pI (Ln A (nI s) (nI t))) = 0 → Φ (.inl (some (.int ((A 6 s) - k)))) m o ∧ 0 ≤ 0 ∧ 0 ≤ 0)
    refine ⟨fun z => ?_, fun z => ?_⟩
    · rw [ifp_f (fun y => y.elim q (pI_0.mp z))] at hΦ
      exact eR hΦ
    · rw [ifp_t (Or.inr (pI_1.mp z))] at hΦ
      exact eR hΦ
theorem r_isRest (hA : CtB A) {m : Mm} (hm : cl m = A) (hd : 2 ≤ d) {s t : Nat} (hs : s < nS A) (ht : t < nS A) (k : Int32) : mFi l g d k_X12_isRest [.ref 0, .int (nI s), .int (nI t), .int k] m (pI (rst A k s t)) m := by
  have hN := hA.1
  refine nFi 1 rfl rfl rfl (by decide) rfl (fun htr o Φ hΦ => mGoOn (mOk (by decide)) rfl [3] 400 ?_)
  show mWB l g d k_X12_isRest Φ 0 0 3 [.ref 0, .int (nI s), .int (nI t), .int k, .int (0 : Int32)] [] m o 0 0
  refine mLoopQ (Q := nRst A s t k) (P := fun e => mWB l g d k_X12_isRest Φ 0 0 3 [.ref 0, .int (nI s), .int (nI t), .int k, .int (nI e)] [] m o 0 0) (N := nS A) (fun hb => mGoOn (mOk (by decide)) rfl [3] 400 ?_) (fun e hi hb ih => mGoOn (mOk (by decide)) rfl [3] 400 ?_)
  · show ((m 4 0) ≤ (nI (nS A)) → ((1 : Int32) = 0 ∨ (1 : Int32) = 1) ∧ Φ (.inl (some (.int (1 : Int32)))) m o ∧ 0 ≤ 0 ∧ 0 ≤ 0) ∧ (¬ (m 4 0) ≤ (nI (nS A)) → True ∧ mCal l g d k_X12_isRest Φ 0 0 _ 19 k_X12_steals false [.ref 0, .int (nI (nS A)), .int (nI t), .int k] [] [.ref 0, .int (nI s), .int (nI t), .int k, .int (nI (nS A))] m o 0 0 1)
    simp (disch := omega) only [mReq_tt, nI_0a, nI_a0, nI_cl, mIn_ok, lit_add, lit_sub, add_lit, lit_le, le_lit, lit_lt, lt_lit, eq_lit, nI_add, nI_1, nI_leI, nI_ltI, nI_eq, mIn_lit, mIn_0, mIn_1, mIn_2, mIn_3, nI_l0, nI_p0, rf_22, rf_44, rf_60, rf_69, rf_391, rf_7, rf_37, rf_51, rf_230, rf_401, rf_413, rf_496, rf_513, rf_518, sB_2, sB_3, sB_4, sB_5, sB_6, sB_7, sL_2, sL_3, sL_4, sL_5, sL_6, sL_7, not_true_eq_false, not_false_eq_true, false_implies, true_implies, true_and, and_true, eq_self, true_or, or_true, Nat.le_refl, Nat.zero_add, Nat.add_zero, clA hm, hN.1]
    rw [pI_t (show rst A k s t from hb)] at hΦ
    exact hΦ
  show ((m 4 0) ≤ (nI e) → ((1 : Int32) = 0 ∨ (1 : Int32) = 1) ∧ Φ (.inl (some (.int (1 : Int32)))) m o ∧ 0 ≤ 0 ∧ 0 ≤ 0) ∧ (¬ (m 4 0) ≤ (nI e) → True ∧ mCal l g d k_X12_isRest Φ 0 0 _ 19 k_X12_steals false [.ref 0, .int (nI e), .int (nI t), .int k] [] [.ref 0, .int (nI s), .int (nI t), .int k, .int (nI e)] m o 0 0 1)
  have hf : ¬ nS A ≤ e := by omega
  simp (disch := omega) only [mReq_tt, nI_0a, nI_a0, nI_cl, mIn_ok, lit_add, lit_sub, add_lit, lit_le, le_lit, lit_lt, lt_lit, eq_lit, nI_add, nI_1, nI_leI, nI_ltI, nI_eq, mIn_lit, mIn_0, mIn_1, mIn_2, mIn_3, nI_l0, nI_p0, rf_22, rf_44, rf_60, rf_69, rf_391, rf_7, rf_37, rf_51, rf_230, rf_401, rf_413, rf_496, rf_513, rf_518, sB_2, sB_3, sB_4, sB_5, sB_6, sB_7, sL_2, sL_3, sL_4, sL_5, sL_6, sL_7, not_true_eq_false, not_false_eq_true, false_implies, true_implies, true_and, and_true, eq_self, true_or, or_true, Nat.le_refl, Nat.zero_add, Nat.add_zero, clA hm, hN.1, hf]
  have no : nRst A s t k e → Φ (.inl (some (.int 0))) m o := fun z => by
    rw [pI_f (fun y => y e hi z)] at hΦ
    exact hΦ
  refine fCi htr (r_steals hA hm (by omega) (by omega) (by omega) _) (by omega) ?_
  refine ⟨trivial, fCi htr (r_steals hA hm (by omega) (by omega) (by omega) _) (by omega) ?_⟩
  show ((stl A s t k) < (stl A e t k) → ((0 : Int32) = 0 ∨ (0 : Int32) = 1) ∧ Φ (.inl (some (.int (0 : Int32)))) m o ∧ 0 ≤ 0 ∧ 0 ≤ 0) ∧ (¬ (stl A s t k) < (stl A e t k) → True ∧ mCal l g d k_X12_isRest Φ 0 0 _ 37 k_X12_steals false [.ref 0, .int (nI s), .int (nI e), .int k] [] [.ref 0, .int (nI s), .int (nI t), .int k, .int (nI e)] m o 0 0 1)
  refine ⟨fun q => ⟨Or.inl rfl, eR (no (Or.inl q))⟩, fun q => ⟨trivial, ?_⟩⟩
  refine fCi htr (r_steals hA hm (by omega) (by omega) (by omega) _) (by omega) ?_
  refine ⟨trivial, fCi htr (r_steals hA hm (by omega) (by omega) (by omega) _) (by omega) ?_⟩
  show ((stl A s t k) ≤ (stl A s e k) → mWB l g d k_X12_isRest Φ 0 0 3 [.ref 0, .int (nI s), .int (nI t), .int k, .int ((nI e) + (1 : Int32))] [] m o 0 0) ∧ (¬ (stl A s t k) ≤ (stl A s e k) → ((0 : Int32) = 0 ∨ (0 : Int32) = 1) ∧ Φ (.inl (some (.int (0 : Int32)))) m o ∧ 0 ≤ 0 ∧ 0 ≤ 0)
  rw [nI_1]
  refine ⟨fun z => ih (fun y => y.elim q (fun v => Int32.not_le.mpr v z)), fun z => ⟨Or.inl rfl, eR (no (Or.inr (Int32.not_le.mp z)))⟩⟩
theorem r_thief (hA : CtB A) {m : Mm} (hm : cl m = A) (hd : 4 ≤ d) (k w : Int32) : mHi l g d k_X12_thief [.ref 0, .int k, .int w] m (rO A (qThf A k w)) := by
  have hN := hA.1
  refine nBi 5 rfl rfl rfl (by decide) rfl (fun htr o Φ hΦ => mGoOn (mOk (by decide)) rfl [51,65] 400 ?_)
  show mCal l g d k_X12_thief Φ 0 0 _ 10 k_X12_in false [.int k, .int (0 : Int32), .int (60 : Int32)] [.ref 0] [.ref 0, .int k, .int w, mJ, mJ, mJ, mJ, mJ] (mset m 0 0 (0 : Int32)) o 0 0 1
  have hC := Cn_0 hm
  generalize mset m 0 0 (0 : Int32) = M at hC ⊢
  clear hm
  obtain ⟨hM, hth⟩ := hC
  have hC : Cn A M := ⟨hM, hth⟩
  unfold qThf at hΦ
  refine fCi htr (r_inB (n := 61) (by omega) rfl) (by omega) ?_
  show ((pI (In k 61)) = 0 → True ∧ mCal l g d k_X12_thief Φ 0 0 _ 32 k_X12_bad false [.ref 0, .int (1 : Int32), .int (1 : Int32), .int (1 : Int32)] [] [.ref 0, .int k, .int w, mJ, mJ, mJ, mJ, mJ] M o 0 0 1) ∧ (¬ (pI (In k 61)) = 0 → mCal l g d k_X12_thief Φ 0 0 _ 19 k_X12_in false [.int w, .int (0 : Int32), .int (2 : Int32)] [.ref 0] [.ref 0, .int k, .int w, mJ, mJ, mJ, mJ, mJ] M o 0 0 1)
  refine ⟨fun h1 => ?_, fun h1 => ?_⟩
  · replace h1 := pI_0.mp h1
    refine ⟨trivial, fCi htr (r_bad1 hth (t := 1) (j := 1) (by decide) (by decide)) (by omega) ?_⟩
    show ((1 : Int32) = 0 → mWB l g d k_X12_thief Φ 0 0 51 [.ref 0, .int k, .int w, .int (0 : Int32), .int (-1 : Int32), .int (0 : Int32), .int (0 : Int32), mJ] [] (mset (mset M 0 0 1) 2 1 (M 2 1 + 1)) o 0 0) ∧ (¬ (1 : Int32) = 0 → Φ (.inl (some (.int (0 : Int32)))) (mset (mset M 0 0 1) 2 1 (M 2 1 + 1)) o ∧ 0 ≤ 0 ∧ 0 ≤ 0)
    rw [ifp_f (fun z => h1 z.1)] at hΦ
    first | exact br1a (eR (hΦ _ _ (rO_t hM (by decide) (by decide)))) | exact br1b (eR (hΦ _ _ (rO_t hM (by decide) (by decide))))
  replace h1 := pI_1.mp h1
  refine fCi htr (r_inB (n := 3) (by omega) rfl) (by omega) ?_
  show (¬ (pI (In w 3)) = 0 → True ∧ mCal l g d k_X12_thief Φ 0 0 _ 32 k_X12_bad false [.ref 0, .int (0 : Int32), .int (1 : Int32), .int (1 : Int32)] [] [.ref 0, .int k, .int w, mJ, mJ, mJ, mJ, mJ] M o 0 0 1) ∧ ((pI (In w 3)) = 0 → True ∧ mCal l g d k_X12_thief Φ 0 0 _ 32 k_X12_bad false [.ref 0, .int (1 : Int32), .int (1 : Int32), .int (1 : Int32)] [] [.ref 0, .int k, .int w, mJ, mJ, mJ, mJ, mJ] M o 0 0 1)
  refine and_sw (fun h2 => ?_) (fun h2 => ?_)
  · replace h2 := pI_0.mp h2
    refine ⟨trivial, fCi htr (r_bad1 hth (t := 1) (j := 1) (by decide) (by decide)) (by omega) ?_⟩
    show ((1 : Int32) = 0 → mWB l g d k_X12_thief Φ 0 0 51 [.ref 0, .int k, .int w, .int (0 : Int32), .int (-1 : Int32), .int (0 : Int32), .int (0 : Int32), mJ] [] (mset (mset M 0 0 1) 2 1 (M 2 1 + 1)) o 0 0) ∧ (¬ (1 : Int32) = 0 → Φ (.inl (some (.int (0 : Int32)))) (mset (mset M 0 0 1) 2 1 (M 2 1 + 1)) o ∧ 0 ≤ 0 ∧ 0 ≤ 0)
    rw [ifp_f (fun z => h2 z.2)] at hΦ
    first | exact br1a (eR (hΦ _ _ (rO_t hM (by decide) (by decide)))) | exact br1b (eR (hΦ _ _ (rO_t hM (by decide) (by decide))))
  replace h2 := pI_1.mp h2
  refine ⟨trivial, fCi htr (r_bad0 hth _ _) (by omega) ?_⟩
  show ((0 : Int32) = 0 → mWB l g d k_X12_thief Φ 0 0 51 [.ref 0, .int k, .int w, .int (0 : Int32), .int (-1 : Int32), .int (0 : Int32), .int (0 : Int32), mJ] [] M o 0 0) ∧ (¬ (0 : Int32) = 0 → Φ (.inl (some (.int (0 : Int32)))) M o ∧ 0 ≤ 0 ∧ 0 ≤ 0)
  rw [ifp_t (⟨h1, h2⟩)] at hΦ
  first | refine br0a ?_ | refine br0b ?_
  refine mLoopZ (P := fun s => mWB l g d k_X12_thief Φ 0 0 51 [.ref 0, .int k, .int w, .int ((foT A k s).1), .int ((foT A k s).2.1), .int ((foT A k s).2.2), .int (nI s), mJ] [] M o 0 0) (N := nS A) (mGoOn (mOk (by decide)) rfl [51,65] 400 ?_) (fun s hi ih => mGoOn (mOk (by decide)) rfl [51,65] 400 ?_)
  · show ((M 4 0) ≤ (nI (nS A)) → (¬ w = 0 → (¬ w = (1 : Int32) → Φ (.inl (some (.int ((foT A k (nS A)).2.2)))) M o ∧ 0 ≤ 0 ∧ 0 ≤ 0) ∧ (w = (1 : Int32) → Φ (.inl (some (.int ((foT A k (nS A)).2.1)))) M o ∧ 0 ≤ 0 ∧ 0 ≤ 0)) ∧ (w = 0 → Φ (.inl (some (.int ((foT A k (nS A)).1)))) M o ∧ 0 ≤ 0 ∧ 0 ≤ 0)) ∧ (¬ (M 4 0) ≤ (nI (nS A)) → mWB l g d k_X12_thief Φ 0 0 65 [.ref 0, .int k, .int w, .int ((foT A k (nS A)).1), .int ((foT A k (nS A)).2.1), .int ((foT A k (nS A)).2.2), .int (nI (nS A)), .int (0 : Int32)] [] M o 0 0)
    simp (disch := omega) only [mReq_tt, nI_0a, nI_a0, nI_cl, mIn_ok, lit_add, lit_sub, add_lit, lit_le, le_lit, lit_lt, lt_lit, eq_lit, nI_add, nI_1, nI_leI, nI_ltI, nI_eq, mIn_lit, mIn_0, mIn_1, mIn_2, mIn_3, nI_l0, nI_p0, rf_22, rf_44, rf_60, rf_69, rf_391, rf_7, rf_37, rf_51, rf_230, rf_401, rf_413, rf_496, rf_513, rf_518, sB_2, sB_3, sB_4, sB_5, sB_6, sB_7, sL_2, sL_3, sL_4, sL_5, sL_6, sL_7, not_true_eq_false, not_false_eq_true, false_implies, true_implies, true_and, and_true, eq_self, true_or, or_true, Nat.le_refl, Nat.zero_add, Nat.add_zero, clA hM, hN.1]
    refine ⟨fun q => ⟨fun z => ?_, fun z => ?_⟩, fun q => ?_⟩
    · exact hΦ _ _ (rO_k hC (by rw [if_neg q, if_neg z]))
    · exact hΦ _ _ (rO_k hC (by rw [if_neg q, if_pos z]))
    · exact hΦ _ _ (rO_k hC (by rw [if_pos q]))
  show ((M 4 0) ≤ (nI s) → (¬ w = 0 → (¬ w = (1 : Int32) → Φ (.inl (some (.int ((foT A k s).2.2)))) M o ∧ 0 ≤ 0 ∧ 0 ≤ 0) ∧ (w = (1 : Int32) → Φ (.inl (some (.int ((foT A k s).2.1)))) M o ∧ 0 ≤ 0 ∧ 0 ≤ 0)) ∧ (w = 0 → Φ (.inl (some (.int ((foT A k s).1)))) M o ∧ 0 ≤ 0 ∧ 0 ≤ 0)) ∧ (¬ (M 4 0) ≤ (nI s) → mWB l g d k_X12_thief Φ 0 0 65 [.ref 0, .int k, .int w, .int ((foT A k s).1), .int ((foT A k s).2.1), .int ((foT A k s).2.2), .int (nI s), .int (0 : Int32)] [] M o 0 0)
  have hf : ¬ nS A ≤ s := by omega
  simp (disch := omega) only [mReq_tt, nI_0a, nI_a0, nI_cl, mIn_ok, lit_add, lit_sub, add_lit, lit_le, le_lit, lit_lt, lt_lit, eq_lit, nI_add, nI_1, nI_leI, nI_ltI, nI_eq, mIn_lit, mIn_0, mIn_1, mIn_2, mIn_3, nI_l0, nI_p0, rf_22, rf_44, rf_60, rf_69, rf_391, rf_7, rf_37, rf_51, rf_230, rf_401, rf_413, rf_496, rf_513, rf_518, sB_2, sB_3, sB_4, sB_5, sB_6, sB_7, sL_2, sL_3, sL_4, sL_5, sL_6, sL_7, not_true_eq_false, not_false_eq_true, false_implies, true_implies, true_and, and_true, eq_self, true_or, or_true, Nat.le_refl, Nat.zero_add, Nat.add_zero, clA hM, hN.1, hf]
  replace ih : mWB l g d k_X12_thief Φ 0 0 51 [.ref 0, .int k, .int w, .int ((fo (stT A k s) (nS A) (foT A k s)).1), .int ((fo (stT A k s) (nS A) (foT A k s)).2.1), .int ((fo (stT A k s) (nS A) (foT A k s)).2.2), .int (nI (s + 1)), mJ] [] M o 0 0 := ih
  have hs := hi
  generalize foT A k s = x0 at ih ⊢
  refine mLoopZ (P := fun t => mWB l g d k_X12_thief Φ 0 0 65 [.ref 0, .int k, .int w, .int ((fo (stT A k s) t x0).1), .int ((fo (stT A k s) t x0).2.1), .int ((fo (stT A k s) t x0).2.2), .int (nI s), .int (nI t)] [] M o 0 0) (N := nS A) (mGoOn (mOk (by decide)) rfl [51,65] 400 ?_) (fun t hi ih => mGoOn (mOk (by decide)) rfl [51,65] 400 ?_)
  · show ((M 4 0) ≤ (nI (nS A)) → mWB l g d k_X12_thief Φ 0 0 51 [.ref 0, .int k, .int w, .int ((fo (stT A k s) (nS A) x0).1), .int ((fo (stT A k s) (nS A) x0).2.1), .int ((fo (stT A k s) (nS A) x0).2.2), .int ((nI s) + (1 : Int32)), .int (nI (nS A))] [] M o 0 0) ∧ (¬ (M 4 0) ≤ (nI (nS A)) → True ∧ mCal l g d k_X12_thief Φ 0 0 _ 82 k_X12_isRest false [.ref 0, .int (nI s), .int (nI (nS A)), .int k] [] [.ref 0, .int k, .int w, .int ((fo (stT A k s) (nS A) x0).1), .int ((fo (stT A k s) (nS A) x0).2.1), .int ((fo (stT A k s) (nS A) x0).2.2), .int (nI s), .int (nI (nS A))] M o 0 0 1)
    simp (disch := omega) only [mReq_tt, nI_0a, nI_a0, nI_cl, mIn_ok, lit_add, lit_sub, add_lit, lit_le, le_lit, lit_lt, lt_lit, eq_lit, nI_add, nI_1, nI_leI, nI_ltI, nI_eq, mIn_lit, mIn_0, mIn_1, mIn_2, mIn_3, nI_l0, nI_p0, rf_22, rf_44, rf_60, rf_69, rf_391, rf_7, rf_37, rf_51, rf_230, rf_401, rf_413, rf_496, rf_513, rf_518, sB_2, sB_3, sB_4, sB_5, sB_6, sB_7, sL_2, sL_3, sL_4, sL_5, sL_6, sL_7, not_true_eq_false, not_false_eq_true, false_implies, true_implies, true_and, and_true, eq_self, true_or, or_true, Nat.le_refl, Nat.zero_add, Nat.add_zero, clA hM, hN.1]
    exact mWB_wk ih ⟨Or.inr rfl, Or.inr rfl, Or.inr rfl, Or.inr rfl, Or.inr rfl, Or.inr rfl, Or.inr rfl, Or.inl rfl, trivial⟩
  show ((M 4 0) ≤ (nI t) → mWB l g d k_X12_thief Φ 0 0 51 [.ref 0, .int k, .int w, .int ((fo (stT A k s) t x0).1), .int ((fo (stT A k s) t x0).2.1), .int ((fo (stT A k s) t x0).2.2), .int ((nI s) + (1 : Int32)), .int (nI t)] [] M o 0 0) ∧ (¬ (M 4 0) ≤ (nI t) → True ∧ mCal l g d k_X12_thief Φ 0 0 _ 82 k_X12_isRest false [.ref 0, .int (nI s), .int (nI t), .int k] [] [.ref 0, .int k, .int w, .int ((fo (stT A k s) t x0).1), .int ((fo (stT A k s) t x0).2.1), .int ((fo (stT A k s) t x0).2.2), .int (nI s), .int (nI t)] M o 0 0 1)
  have hf : ¬ nS A ≤ t := by omega
  simp (disch := omega) only [mReq_tt, nI_0a, nI_a0, nI_cl, mIn_ok, lit_add, lit_sub, add_lit, lit_le, le_lit, lit_lt, lt_lit, eq_lit, nI_add, nI_1, nI_leI, nI_ltI, nI_eq, mIn_lit, mIn_0, mIn_1, mIn_2, mIn_3, nI_l0, nI_p0, rf_22, rf_44, rf_60, rf_69, rf_391, rf_7, rf_37, rf_51, rf_230, rf_401, rf_413, rf_496, rf_513, rf_518, sB_2, sB_3, sB_4, sB_5, sB_6, sB_7, sL_2, sL_3, sL_4, sL_5, sL_6, sL_7, not_true_eq_false, not_false_eq_true, false_implies, true_implies, true_and, and_true, eq_self, true_or, or_true, Nat.le_refl, Nat.zero_add, Nat.add_zero, clA hM, hN.1, hf]
  refine fCi htr (r_isRest hA hM (by omega) hs hi _) (by omega) ?_
  rw [fo_s] at ih
  show (¬ (pI (rst A k s t)) = 0 → (¬ ((fo (stT A k s) t x0).1) = 0 → (¬ ((fo (stT A k s) t x0).1) = 0 → mWB l g d k_X12_thief Φ 0 0 65 [.ref 0, .int k, .int w, .int (((fo (stT A k s) t x0).1) + (1 : Int32)), .int ((fo (stT A k s) t x0).2.1), .int ((fo (stT A k s) t x0).2.2), .int (nI s), .int ((nI t) + (1 : Int32))] [] M o 0 0) ∧ (((fo (stT A k s) t x0).1) = 0 → mWB l g d k_X12_thief Φ 0 0 65 [.ref 0, .int k, .int w, .int (((fo (stT A k s) t x0).1) + (1 : Int32)), .int (((10 : Int32) * (nI s)) + (nI t)), .int ((fo (stT A k s) t x0).2.2), .int (nI s), .int ((nI t) + (1 : Int32))] [] M o 0 0)) ∧ (((fo (stT A k s) t x0).1) = 0 → True ∧ mCal l g d k_X12_thief Φ 0 0 _ 101 k_X12_steals false [.ref 0, .int (nI s), .int (nI t), .int k] [] [.ref 0, .int k, .int w, .int ((fo (stT A k s) t x0).1), .int ((fo (stT A k s) t x0).2.1), .int ((fo (stT A k s) t x0).2.2), .int (nI s), .int (nI t)] M o 0 0 1)) ∧ ((pI (rst A k s t)) = 0 → mWB l g d k_X12_thief Φ 0 0 65 [.ref 0, .int k, .int w, .int ((fo (stT A k s) t x0).1), .int ((fo (stT A k s) t x0).2.1), .int ((fo (stT A k s) t x0).2.2), .int (nI s), .int ((nI t) + (1 : Int32))] [] M o 0 0)
  rw [nI_1]
  generalize fo (stT A k s) t x0 = x at ih ⊢
  unfold stT at ih
  refine and_sw (fun z => ?_) (fun z => ?_)
  · rw [ifp_f (pI_0.mp z)] at ih
    exact ih
  · rw [ifp_t (pI_1.mp z)] at ih
    refine ⟨fun y => ⟨fun _ => ?_, fun q => absurd q y⟩, fun y => ⟨trivial, ?_⟩⟩
    · rw [if_neg y, if_neg y] at ih
      exact ih
    · rw [if_pos y, if_pos y] at ih
      refine fCi htr (r_steals hA hM (by omega) (by omega) (by omega) _) (by omega) ?_
      show (¬ x.1 = 0 → mWB l g d k_X12_thief Φ 0 0 65 [.ref 0, .int k, .int w, .int (x.1 + (1 : Int32)), .int x.2.1, .int (stl A s t k), .int (nI s), .int ((nI t) + (1 : Int32))] [] M o 0 0) ∧ (x.1 = 0 → mWB l g d k_X12_thief Φ 0 0 65 [.ref 0, .int k, .int w, .int (x.1 + (1 : Int32)), .int (((10 : Int32) * (nI s)) + (nI t)), .int (stl A s t k), .int (nI s), .int ((nI t) + (1 : Int32))] [] M o 0 0)
      rw [nI_1]
      exact ⟨fun q => absurd y q, fun _ => ih⟩
theorem r_givenBy (hA : CtB A) {m : Mm} (hm : cl m = A) (hd : 1 ≤ d) (me bo : Int32) : mFi l g d k_X12_givenBy [.ref 0, .int me, .int bo] m (gvn A me bo) m := by
  have hN2 := hA.2.2.1
  refine nFi 2 rfl rfl rfl (by decide) rfl (fun htr o Φ hΦ => mGoOn (mOk (by decide)) rfl [5] 400 ?_)
  show mWB l g d k_X12_givenBy Φ 0 0 5 [.ref 0, .int me, .int bo, .int (0 : Int32), .int (0 : Int32)] [] m o 0 0
  refine mLoopZ (P := fun k => mWB l g d k_X12_givenBy Φ 0 0 5 [.ref 0, .int me, .int bo, .int (sm (fun k => ifp (hB me k) (if bo < A (45 + k) 2 then bo else A (45 + k) 2) 0) k), .int (nI k)] [] m o 0 0) (N := nM A) (mGoOn (mOk (by decide)) rfl [5] 400 ?_) (fun k hi ih => mGoOn (mOk (by decide)) rfl [5] 400 ?_)
  · show ((m 4 2) ≤ (nI (nM A)) → Φ (.inl (some (.int (sm (fun k => ifp (hB me k) (if bo < A (45 + k) 2 then bo else A (45 + k) 2) 0) (nM A))))) m o ∧ 0 ≤ 0 ∧ 0 ≤ 0) ∧ (¬ (m 4 2) ≤ (nI (nM A)) → mCal l g d k_X12_givenBy Φ 0 0 _ 20 k_X12_has false [.int me, .int (nI (nM A))] [.int (sm (fun k => ifp (hB me k) (if bo < A (45 + k) 2 then bo else A (45 + k) 2) 0) (nM A))] [.ref 0, .int me, .int bo, .int (sm (fun k => ifp (hB me k) (if bo < A (45 + k) 2 then bo else A (45 + k) 2) 0) (nM A)), .int (nI (nM A))] m o 0 0 1)
    simp (disch := omega) only [mReq_tt, nI_0a, nI_a0, nI_cl, mIn_ok, lit_add, lit_sub, add_lit, lit_le, le_lit, lit_lt, lt_lit, eq_lit, nI_add, nI_1, nI_leI, nI_ltI, nI_eq, mIn_lit, mIn_0, mIn_1, mIn_2, mIn_3, nI_l0, nI_p0, rf_22, rf_44, rf_60, rf_69, rf_391, rf_7, rf_37, rf_51, rf_230, rf_401, rf_413, rf_496, rf_513, rf_518, sB_2, sB_3, sB_4, sB_5, sB_6, sB_7, sL_2, sL_3, sL_4, sL_5, sL_6, sL_7, not_true_eq_false, not_false_eq_true, false_implies, true_implies, true_and, and_true, eq_self, true_or, or_true, Nat.le_refl, Nat.zero_add, Nat.add_zero, clA hm, hN2.1]
    exact hΦ
  show ((m 4 2) ≤ (nI k) → Φ (.inl (some (.int (sm (fun k => ifp (hB me k) (if bo < A (45 + k) 2 then bo else A (45 + k) 2) 0) k)))) m o ∧ 0 ≤ 0 ∧ 0 ≤ 0) ∧ (¬ (m 4 2) ≤ (nI k) → mCal l g d k_X12_givenBy Φ 0 0 _ 20 k_X12_has false [.int me, .int (nI k)] [.int (sm (fun k => ifp (hB me k) (if bo < A (45 + k) 2 then bo else A (45 + k) 2) 0) k)] [.ref 0, .int me, .int bo, .int (sm (fun k => ifp (hB me k) (if bo < A (45 + k) 2 then bo else A (45 + k) 2) 0) k), .int (nI k)] m o 0 0 1)
  have hf : ¬ nM A ≤ k := by omega
  simp (disch := omega) only [mReq_tt, nI_0a, nI_a0, nI_cl, mIn_ok, lit_add, lit_sub, add_lit, lit_le, le_lit, lit_lt, lt_lit, eq_lit, nI_add, nI_1, nI_leI, nI_ltI, nI_eq, mIn_lit, mIn_0, mIn_1, mIn_2, mIn_3, nI_l0, nI_p0, rf_22, rf_44, rf_60, rf_69, rf_391, rf_7, rf_37, rf_51, rf_230, rf_401, rf_413, rf_496, rf_513, rf_518, sB_2, sB_3, sB_4, sB_5, sB_6, sB_7, sL_2, sL_3, sL_4, sL_5, sL_6, sL_7, not_true_eq_false, not_false_eq_true, false_implies, true_implies, true_and, and_true, eq_self, true_or, or_true, Nat.le_refl, Nat.zero_add, Nat.add_zero, clA hm, hN2.1, hf]
  rw [sm_s] at ih
  refine fCi htr (q_has me (by omega) m) (by omega) ?_
  generalize sm (fun k => ifp (hB me k) (if bo < A (45 + k) 2 then bo else A (45 + k) 2) 0) k = n at ih ⊢
  show ((pI (hB me k)) = 0 → mWB l g d k_X12_givenBy Φ 0 0 5 [.ref 0, .int me, .int bo, .int (n + (0 : Int32)), .int ((nI k) + (1 : Int32))] [] m o 0 0) ∧ (¬ (pI (hB me k)) = 0 → mReq (mInB (nI k) 6) (mReq (mIsB (mRF 44 ((nI k).toNatClampNeg)) 1) (mReq (mInB (2 : Int32) (mLn (mRF 44 ((nI k).toNatClampNeg)))) (mCal l g d k_X12_givenBy Φ 0 0 _ 36 k_X12_less false [.int bo, .int (m (mRF 44 ((nI k).toNatClampNeg)) 2)] [.int n] [.ref 0, .int me, .int bo, .int n, .int (nI k)] m o 0 0 1))))
  refine ⟨fun z => ?_, fun z => ?_⟩
  · rw [ifp_f (pI_0.mp z)] at ih
    rw [nI_1]
    exact ih
  · rw [ifp_t (pI_1.mp z)] at ih
    simp (disch := omega) only [mReq_tt, nI_0a, nI_a0, nI_cl, mIn_ok, lit_add, lit_sub, add_lit, lit_le, le_lit, lit_lt, lt_lit, eq_lit, nI_add, nI_1, nI_leI, nI_ltI, nI_eq, mIn_lit, mIn_0, mIn_1, mIn_2, mIn_3, nI_l0, nI_p0, rf_22, rf_44, rf_60, rf_69, rf_391, rf_7, rf_37, rf_51, rf_230, rf_401, rf_413, rf_496, rf_513, rf_518, sB_2, sB_3, sB_4, sB_5, sB_6, sB_7, sL_2, sL_3, sL_4, sL_5, sL_6, sL_7, not_true_eq_false, not_false_eq_true, false_implies, true_implies, true_and, and_true, eq_self, true_or, or_true, Nat.le_refl, Nat.zero_add, Nat.add_zero, clA hm]
    refine fCi htr (r_less _ _ _) (by omega) ?_
    show mWB l g d k_X12_givenBy Φ 0 0 5 [.ref 0, .int me, .int bo, .int (n + (if bo < A (45 + k) 2 then bo else A (45 + k) 2)), .int ((nI k) + (1 : Int32))] [] m o 0 0
    rw [nI_1]
    exact ih
theorem r_oil (hA : CtB A) {m : Mm} (hm : cl m = A) (hd : 3 ≤ d) (k me n : Int32) : mHi l g d k_X12_oil [.ref 0, .int k, .int me, .int n] m (rO A (qOil A k me n)) := by
  have hN2 := hA.2.2.1
  refine nBi 1 rfl rfl rfl (by decide) rfl (fun htr o Φ hΦ => mGoOn (mOk (by decide)) rfl [75,101] 400 ?_)
  show True ∧ mCal l g d k_X12_oil Φ 0 0 _ 8 k_X12_isMan false [.ref 0, .int k] [.ref 0] [.ref 0, .int k, .int me, .int n, mJ] (mset m 0 0 (0 : Int32)) o 0 0 1
  have hC := Cn_0 hm
  generalize mset m 0 0 (0 : Int32) = M at hC ⊢
  clear hm
  obtain ⟨hM, hth⟩ := hC
  have hC : Cn A M := ⟨hM, hth⟩
  unfold qOil at hΦ
  refine ⟨trivial, fCi htr (r_isMan hA hM (by omega) _) (by omega) ?_⟩
  show (¬ (pI (In k (nM A))) = 0 → True ∧ mCal l g d k_X12_oil Φ 0 0 _ 21 k_X12_bad false [.ref 0, .int (0 : Int32), .int (1 : Int32), .int (0 : Int32)] [] [.ref 0, .int k, .int me, .int n, mJ] M o 0 0 1) ∧ ((pI (In k (nM A))) = 0 → True ∧ mCal l g d k_X12_oil Φ 0 0 _ 21 k_X12_bad false [.ref 0, .int (1 : Int32), .int (1 : Int32), .int (0 : Int32)] [] [.ref 0, .int k, .int me, .int n, mJ] M o 0 0 1)
  refine and_sw (fun h1 => ?_) (fun h1 => ?_)
  · replace h1 := pI_0.mp h1
    refine ⟨trivial, fCi htr (r_bad1 hth (t := 1) (j := 0) (by decide) (by decide)) (by omega) ?_⟩
    show (¬ (1 : Int32) = 0 → Φ (.inl (some (.int (0 : Int32)))) (mset (mset M 0 0 1) 2 0 (M 2 0 + 1)) o ∧ 0 ≤ 0 ∧ 0 ≤ 0) ∧ ((1 : Int32) = 0 → mCal l g d k_X12_oil Φ 0 0 _ 40 k_X12_in false [.int me, .int (0 : Int32), .int ((jshl (1 : Int32) ((mset (mset M 0 0 1) 2 0 (M 2 0 + 1)) 4 2)) - (1 : Int32))] [.ref 0] [.ref 0, .int k, .int me, .int n, mJ] (mset (mset M 0 0 1) 2 0 (M 2 0 + 1)) o 0 0 1)
    rw [ifp_f (h1)] at hΦ
    first | exact br1a (eR (hΦ _ _ (rO_t hM (by decide) (by decide)))) | exact br1b (eR (hΦ _ _ (rO_t hM (by decide) (by decide))))
  replace h1 := pI_1.mp h1
  refine ⟨trivial, fCi htr (r_bad0 hth _ _) (by omega) ?_⟩
  show (¬ (0 : Int32) = 0 → Φ (.inl (some (.int (0 : Int32)))) M o ∧ 0 ≤ 0 ∧ 0 ≤ 0) ∧ ((0 : Int32) = 0 → mCal l g d k_X12_oil Φ 0 0 _ 40 k_X12_in false [.int me, .int (0 : Int32), .int ((jshl (1 : Int32) (M 4 2)) - (1 : Int32))] [.ref 0] [.ref 0, .int k, .int me, .int n, mJ] M o 0 0 1)
  rw [ifp_t (h1)] at hΦ
  first | refine br0a ?_ | refine br0b ?_
  have hpw : 2 ^ nM A ≤ 2 ^ 6 := Nat.pow_le_pow_right (by decide) hN2.2
  refine fCi htr (r_inB (n := 2 ^ nM A) (by omega) (by rw [clA hM 2 (by omega), hN2.1, sh_pow _ (by omega)])) (by omega) ?_
  show ((pI (In me (2 ^ nM A))) = 0 → True ∧ mCal l g d k_X12_oil Φ 0 0 _ 64 k_X12_bad false [.ref 0, .int (1 : Int32), .int (2 : Int32), .int (1 : Int32)] [] [.ref 0, .int k, .int me, .int n, mJ] M o 0 0 1) ∧ (¬ (pI (In me (2 ^ nM A))) = 0 → mCal l g d k_X12_oil Φ 0 0 _ 51 k_X12_in false [.int n, .int (0 : Int32), .int (999 : Int32)] [.ref 0] [.ref 0, .int k, .int me, .int n, mJ] M o 0 0 1)
  refine ⟨fun h2 => ?_, fun h2 => ?_⟩
  · replace h2 := pI_0.mp h2
    refine ⟨trivial, fCi htr (r_bad1 hth (t := 2) (j := 1) (by decide) (by decide)) (by omega) ?_⟩
    show ((1 : Int32) = 0 → mWB l g d k_X12_oil Φ 0 0 75 [.ref 0, .int k, .int me, .int n, .int (0 : Int32)] [] (mset (mset M 0 0 2) 2 1 (M 2 1 + 1)) o 0 0) ∧ (¬ (1 : Int32) = 0 → Φ (.inl (some (.int (0 : Int32)))) (mset (mset M 0 0 2) 2 1 (M 2 1 + 1)) o ∧ 0 ≤ 0 ∧ 0 ≤ 0)
    rw [ifp_f (fun z => h2 z.1)] at hΦ
    first | exact br1a (eR (hΦ _ _ (rO_t hM (by decide) (by decide)))) | exact br1b (eR (hΦ _ _ (rO_t hM (by decide) (by decide))))
  replace h2 := pI_1.mp h2
  refine fCi htr (r_inB (n := 1000) (by omega) rfl) (by omega) ?_
  show (¬ (pI (In n 1000)) = 0 → True ∧ mCal l g d k_X12_oil Φ 0 0 _ 64 k_X12_bad false [.ref 0, .int (0 : Int32), .int (2 : Int32), .int (1 : Int32)] [] [.ref 0, .int k, .int me, .int n, mJ] M o 0 0 1) ∧ ((pI (In n 1000)) = 0 → True ∧ mCal l g d k_X12_oil Φ 0 0 _ 64 k_X12_bad false [.ref 0, .int (1 : Int32), .int (2 : Int32), .int (1 : Int32)] [] [.ref 0, .int k, .int me, .int n, mJ] M o 0 0 1)
  refine and_sw (fun h3 => ?_) (fun h3 => ?_)
  · replace h3 := pI_0.mp h3
    refine ⟨trivial, fCi htr (r_bad1 hth (t := 2) (j := 1) (by decide) (by decide)) (by omega) ?_⟩
    show ((1 : Int32) = 0 → mWB l g d k_X12_oil Φ 0 0 75 [.ref 0, .int k, .int me, .int n, .int (0 : Int32)] [] (mset (mset M 0 0 2) 2 1 (M 2 1 + 1)) o 0 0) ∧ (¬ (1 : Int32) = 0 → Φ (.inl (some (.int (0 : Int32)))) (mset (mset M 0 0 2) 2 1 (M 2 1 + 1)) o ∧ 0 ≤ 0 ∧ 0 ≤ 0)
    rw [ifp_f (fun z => h3 z.2)] at hΦ
    first | exact br1a (eR (hΦ _ _ (rO_t hM (by decide) (by decide)))) | exact br1b (eR (hΦ _ _ (rO_t hM (by decide) (by decide))))
  replace h3 := pI_1.mp h3
  refine ⟨trivial, fCi htr (r_bad0 hth _ _) (by omega) ?_⟩
  show ((0 : Int32) = 0 → mWB l g d k_X12_oil Φ 0 0 75 [.ref 0, .int k, .int me, .int n, .int (0 : Int32)] [] M o 0 0) ∧ (¬ (0 : Int32) = 0 → Φ (.inl (some (.int (0 : Int32)))) M o ∧ 0 ≤ 0 ∧ 0 ≤ 0)
  rw [ifp_t (⟨h2, h3⟩)] at hΦ
  first | refine br0a ?_ | refine br0b ?_
  obtain ⟨k, ha, rfl⟩ := h1
  rw [nI_cl (by omega)] at hΦ
  have fin : ∀ b, b ≤ 24 → frs (QOl A me n) 24 = b → mWB l g d k_X12_oil Φ 0 0 101 [.ref 0, .int (nI k), .int me, .int n, .int (nI b)] [] M o 0 0 := fun b hb hq => by
    rw [hq] at hΦ
    refine mGoOn (mOk (by decide)) rfl [75] 400 ?_
    show mCal l g d k_X12_oil Φ 0 0 _ 103 k_X12_has false [.int me, .int (nI k)] [] [.ref 0, .int (nI k), .int me, .int n, .int (nI b)] M o 0 0 1
    refine fCi htr (q_has me (by omega) M) (by omega) ?_
    show ((pI (hB me k)) = 0 → Φ (.inl (some (.int (0 : Int32)))) M o ∧ 0 ≤ 0 ∧ 0 ≤ 0) ∧ (¬ (pI (hB me k)) = 0 → mReq (mInB (nI k) 6) (mReq (mIsB (mRF 44 ((nI k).toNatClampNeg)) 1) (mReq (mInB (2 : Int32) (mLn (mRF 44 ((nI k).toNatClampNeg)))) (mCal l g d k_X12_oil Φ 0 0 _ 119 k_X12_less false [.int (nI b), .int (M (mRF 44 ((nI k).toNatClampNeg)) 2)] [] [.ref 0, .int (nI k), .int me, .int n, .int (nI b)] M o 0 0 1))))
    refine ⟨fun z => ?_, fun z => ?_⟩
    · rw [ifp_f (pI_0.mp z)] at hΦ
      exact eR (hΦ _ _ (rO_k hC rfl))
    · rw [ifp_t (pI_1.mp z)] at hΦ
      simp (disch := omega) only [mReq_tt, nI_0a, nI_a0, nI_cl, mIn_ok, lit_add, lit_sub, add_lit, lit_le, le_lit, lit_lt, lt_lit, eq_lit, nI_add, nI_1, nI_leI, nI_ltI, nI_eq, mIn_lit, mIn_0, mIn_1, mIn_2, mIn_3, nI_l0, nI_p0, rf_22, rf_44, rf_60, rf_69, rf_391, rf_7, rf_37, rf_51, rf_230, rf_401, rf_413, rf_496, rf_513, rf_518, sB_2, sB_3, sB_4, sB_5, sB_6, sB_7, sL_2, sL_3, sL_4, sL_5, sL_6, sL_7, not_true_eq_false, not_false_eq_true, false_implies, true_implies, true_and, and_true, eq_self, true_or, or_true, Nat.le_refl, Nat.zero_add, Nat.add_zero, clA hM]
      exact fCi htr (r_less _ _ _) (by omega) (eR (hΦ _ _ (rO_k hC rfl)))
  refine mLoopQ (Q := QOl A me n) (P := fun b => mWB l g d k_X12_oil Φ 0 0 75 [.ref 0, .int (nI k), .int me, .int n, .int (nI b)] [] M o 0 0) (N := 24) (fun hb => mGoOn (mOk (by decide)) rfl [75,101] 400 ?_) (fun b hi hb ih => mGoOn (mOk (by decide)) rfl [75,101] 400 ?_)
  · show ((24 : Int32) ≤ (nI 24) → mWB l g d k_X12_oil Φ 0 0 101 [.ref 0, .int (nI k), .int me, .int n, .int (nI 24)] [] M o 0 0) ∧ (¬ (24 : Int32) ≤ (nI 24) → True ∧ mCal l g d k_X12_oil Φ 0 0 _ 88 k_X12_givenBy false [.ref 0, .int me, .int ((nI 24) + (1 : Int32))] [] [.ref 0, .int (nI k), .int me, .int n, .int (nI 24)] M o 0 0 1)
    simp (disch := omega) only [mReq_tt, nI_0a, nI_a0, nI_cl, mIn_ok, lit_add, lit_sub, add_lit, lit_le, le_lit, lit_lt, lt_lit, eq_lit, nI_add, nI_1, nI_leI, nI_ltI, nI_eq, mIn_lit, mIn_0, mIn_1, mIn_2, mIn_3, nI_l0, nI_p0, rf_22, rf_44, rf_60, rf_69, rf_391, rf_7, rf_37, rf_51, rf_230, rf_401, rf_413, rf_496, rf_513, rf_518, sB_2, sB_3, sB_4, sB_5, sB_6, sB_7, sL_2, sL_3, sL_4, sL_5, sL_6, sL_7, not_true_eq_false, not_false_eq_true, false_implies, true_implies, true_and, and_true, eq_self, true_or, or_true, Nat.le_refl, Nat.zero_add, Nat.add_zero]
    exact fin 24 (by omega) (frs_no hb)
  show ((24 : Int32) ≤ (nI b) → mWB l g d k_X12_oil Φ 0 0 101 [.ref 0, .int (nI k), .int me, .int n, .int (nI b)] [] M o 0 0) ∧ (¬ (24 : Int32) ≤ (nI b) → True ∧ mCal l g d k_X12_oil Φ 0 0 _ 88 k_X12_givenBy false [.ref 0, .int me, .int ((nI b) + (1 : Int32))] [] [.ref 0, .int (nI k), .int me, .int n, .int (nI b)] M o 0 0 1)
  have hf : ¬ 24 ≤ b := by omega
  simp (disch := omega) only [mReq_tt, nI_0a, nI_a0, nI_cl, mIn_ok, lit_add, lit_sub, add_lit, lit_le, le_lit, lit_lt, lt_lit, eq_lit, nI_add, nI_1, nI_leI, nI_ltI, nI_eq, mIn_lit, mIn_0, mIn_1, mIn_2, mIn_3, nI_l0, nI_p0, rf_22, rf_44, rf_60, rf_69, rf_391, rf_7, rf_37, rf_51, rf_230, rf_401, rf_413, rf_496, rf_513, rf_518, sB_2, sB_3, sB_4, sB_5, sB_6, sB_7, sL_2, sL_3, sL_4, sL_5, sL_6, sL_7, not_true_eq_false, not_false_eq_true, false_implies, true_implies, true_and, and_true, eq_self, true_or, or_true, Nat.le_refl, Nat.zero_add, Nat.add_zero, hf]
  refine fCi htr (r_givenBy hA hM (by omega) _ _) (by omega) ?_
  show (n < (gvn A me (nI (b + 1))) → mWB l g d k_X12_oil Φ 0 0 101 [.ref 0, .int (nI k), .int me, .int n, .int (nI b)] [] M o 0 0) ∧ (¬ n < (gvn A me (nI (b + 1))) → mWB l g d k_X12_oil Φ 0 0 75 [.ref 0, .int (nI k), .int me, .int n, .int ((nI b) + (1 : Int32))] [] M o 0 0)
  rw [nI_1]
  exact ⟨fun z => fin b (by omega) (frs_yes hb z hi), fun z => ih z⟩
end R17
