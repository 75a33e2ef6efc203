set_option maxRecDepth 100000
/-! THE REFERENCE'S QUERIES: year, span -/
def isY (n q : Int32) : Prop := (1 ≤ n ∧ n ≤ 96) ∧ In q 17
noncomputable def yUp (A : Mm) (R : Nat → Int32) : Int32 := msk (fun k => R (12 + k) = 0) (nM A)
noncomputable def yAw (A : Mm) (R : Nat → Int32) : Int32 := msk (fun k => R (27 + k) = 1) (nP A)
noncomputable def vYr (A : Mm) (y : Y4) (w : Nat) : Int32 := if w = 0 then y.2.2.2 else if w = 1 then y.2.1 else if w = 2 then y.1 36 else yUp A y.1
noncomputable def qYr (A : Mm) (seed n q w : Int32) : Oc := ifp (isY n q ∧ In w 4) (0, 0, vYr A (yr A seed n.toNatClampNeg q) w.toNatClampNeg) (1, 1, 0)
noncomputable def stS (A : Mm) (seed : Int32) (n : Nat) (q : Int32) (p k : Nat) (x : Int32 × Int32 × Int32) : Int32 × Int32 × Int32 :=
  let y := yr A (seed + nI k) n q
  (if x.1 = -1 then y.2.1 else if x.1 < y.2.1 then x.1 else y.2.1, if y.2.1 < x.2.1 then x.2.1 else y.2.1, ifp (hB (yAw A y.1) p) (x.2.2 + 1) x.2.2)
noncomputable def foS (A : Mm) (seed : Int32) (n : Nat) (q : Int32) (p K : Nat) : Int32 × Int32 × Int32 := fo (stS A seed n q p) K (-1, 0, 0)
noncomputable def qSpn (A : Mm) (seed mn n q w p : Int32) : Oc := ifp ((1 ≤ mn ∧ mn ≤ 20) ∧ isY n q ∧ In w 3 ∧ In p (nP A)) (0, 0,
  let x := foS A seed n.toNatClampNeg q p.toNatClampNeg mn.toNatClampNeg
  if w = 0 then x.1 else if w = 1 then x.2.1 else x.2.2) (1, 1, 0)
theorem in_1 {x hi : Int32} {N : Nat} (h : 1 ≤ x ∧ x ≤ hi) (hN : hi = nI N) (h3 : N < 2 ^ 31) : ∃ k, 1 ≤ k ∧ k ≤ N ∧ x = nI k := by
  have h1 := (fa_le _ _).mp h.1
  have h2 := (fa_le _ _).mp h.2
  rw [hN, nI_toInt h3] at h2
  have e1 : (1 : Int32).toInt = 1 := rfl
  refine ⟨x.toInt.toNat, by omega, by omega, ?_⟩
  rw [fa_eq, nI_toInt (by omega)]
  omega
theorem up37 (A : Mm) (hA : CtB A) {R R' : Nat → Int32} (h : eq37 R R') : yUp A R = yUp A R' := msk_cong (fun k hk => by rw [h (12 + k) (by have := hA.2.2.1.2; omega)])
theorem aw37 (A : Mm) (hA : CtB A) {R R' : Nat → Int32} (h : eq37 R R') : yAw A R = yAw A R' := msk_cong (fun k hk => by rw [h (27 + k) (by have := hA.2.2.2.2; omega)])
section R20
variable {l : Launch} {g : mG} {d : Nat} {A : Mm}
theorem r_isYear (m : Mm) (hd : 1 ≤ d) (n q : Int32) : mFi l g d k_X12_isYear [.int n, .int q] m (pI (isY n q)) m := by
  refine nFi 0 rfl rfl rfl (by decide) rfl (fun htr o Φ hΦ => mGoOn (mOk (by decide)) rfl [] 400 ?_)
  show mCal l g d k_X12_isYear Φ 0 0 _ 4 k_X12_in false [.int n, .int (1 : Int32), .int (96 : Int32)] [] [.int n, .int q] m o 0 0 1
  refine fCi htr (q_in _ _ _ _) hd ?_
  show ((pI (1 ≤ n ∧ n ≤ 96)) = 0 → ((0 : Int32) = 0 ∨ (0 : Int32) = 1) ∧ Φ (.inl (some (.int (0 : Int32)))) m o ∧ 0 ≤ 0 ∧ 0 ≤ 0) ∧ (¬ (pI (1 ≤ n ∧ n ≤ 96)) = 0 → mCal l g d k_X12_isYear Φ 0 0 _ 14 k_X12_in false [.int q, .int (0 : Int32), .int (16 : Int32)] [] [.int n, .int q] m o 0 0 1)
  refine ⟨fun h => ?_, fun h => ?_⟩
  · rw [pI_f (fun z => pI_0.mp h z.1)] at hΦ
    exact ⟨Or.inl rfl, eR hΦ⟩
  · refine fCi htr (r_inB (n := 17) (by omega) rfl) hd ?_
    show ((pI (In q 17)) = 0 → ((0 : Int32) = 0 ∨ (0 : Int32) = 1) ∧ Φ (.inl (some (.int (0 : Int32)))) m o ∧ 0 ≤ 0 ∧ 0 ≤ 0) ∧ (¬ (pI (In q 17)) = 0 → ((1 : Int32) = 0 ∨ (1 : Int32) = 1) ∧ Φ (.inl (some (.int (1 : Int32)))) m o ∧ 0 ≤ 0 ∧ 0 ≤ 0)
    refine ⟨fun h2 => ?_, fun h2 => ?_⟩
    · rw [pI_f (fun z => pI_0.mp h2 z.2)] at hΦ
      exact ⟨Or.inl rfl, eR hΦ⟩
    · rw [pI_t ⟨pI_1.mp h, pI_1.mp h2⟩] at hΦ
      exact ⟨Or.inr rfl, eR hΦ⟩
theorem r_year (hA : Sv A) (hT : Cty A) (hR : plR A (A 494)) {m : Mm} (hm : cl m = A) (hd : 9 ≤ d) (seed n q w : Int32) : mHi l g d k_X12_year [.ref 0, .int seed, .int n, .int q, .int w] m (rO A (qYr A seed n q w)) := by
  refine nBi 0 rfl rfl rfl (by decide) rfl (fun htr o Φ hΦ => mGoOn (mOk (by decide)) rfl [] 400 ?_)
  show mCal l g d k_X12_year Φ 0 0 _ 8 k_X12_isYear false [.int n, .int q] [.ref 0] [.ref 0, .int seed, .int n, .int q, .int w] (mset m 0 0 (0 : Int32)) o 0 0 1
  have hC := Cn_0 hm
  generalize mset m 0 0 (0 : Int32) = M at hC ⊢
  clear hm
  obtain ⟨hM, hth⟩ := hC
  have hC : Cn A M := ⟨hM, hth⟩
  unfold qYr at hΦ
  refine fCi htr (r_isYear _ (by omega) _ _) (by omega) ?_
  show ((pI (isY n q)) = 0 → True ∧ mCal l g d k_X12_year Φ 0 0 _ 31 k_X12_bad false [.ref 0, .int (1 : Int32), .int (1 : Int32), .int (1 : Int32)] [] [.ref 0, .int seed, .int n, .int q, .int w] M o 0 0 1) ∧ (¬ (pI (isY n q)) = 0 → mCal l g d k_X12_year Φ 0 0 _ 18 k_X12_in false [.int w, .int (0 : Int32), .int (3 : Int32)] [.ref 0] [.ref 0, .int seed, .int n, .int q, .int w] M o 0 0 1)
  refine ⟨fun h1 => ?_, fun h1 => ?_⟩
  · replace h1 := pI_0.mp h1
    refine ⟨trivial, fCi htr (r_bad1 hth (t := 1) (j := 1) (by decide) (by decide)) (by omega) ?_⟩
    show ((1 : Int32) = 0 → True ∧ mCal l g d k_X12_year Φ 0 0 _ 43 k_X12_yearBy false [.ref 0, .int seed, .int n, .int q] [] [.ref 0, .int seed, .int n, .int q, .int w] (mset (mset M 0 0 1) 2 1 (M 2 1 + 1)) o 0 0 0) ∧ (¬ (1 : Int32) = 0 → Φ (.inl (some (.int (0 : Int32)))) (mset (mset M 0 0 1) 2 1 (M 2 1 + 1)) o ∧ 0 ≤ 0 ∧ 0 ≤ 0)
    rw [ifp_f (fun z => h1 z.1)] at hΦ
    first | exact br1a (eR (hΦ _ _ (rO_t hM (by decide) (by decide)))) | exact br1b (eR (hΦ _ _ (rO_t hM (by decide) (by decide))))
  replace h1 := pI_1.mp h1
  refine fCi htr (r_inB (n := 4) (by omega) rfl) (by omega) ?_
  show (¬ (pI (In w 4)) = 0 → True ∧ mCal l g d k_X12_year Φ 0 0 _ 31 k_X12_bad false [.ref 0, .int (0 : Int32), .int (1 : Int32), .int (1 : Int32)] [] [.ref 0, .int seed, .int n, .int q, .int w] M o 0 0 1) ∧ ((pI (In w 4)) = 0 → True ∧ mCal l g d k_X12_year Φ 0 0 _ 31 k_X12_bad false [.ref 0, .int (1 : Int32), .int (1 : Int32), .int (1 : Int32)] [] [.ref 0, .int seed, .int n, .int q, .int w] M o 0 0 1)
  refine and_sw (fun h2 => ?_) (fun h2 => ?_)
  · replace h2 := pI_0.mp h2
    refine ⟨trivial, fCi htr (r_bad1 hth (t := 1) (j := 1) (by decide) (by decide)) (by omega) ?_⟩
    show ((1 : Int32) = 0 → True ∧ mCal l g d k_X12_year Φ 0 0 _ 43 k_X12_yearBy false [.ref 0, .int seed, .int n, .int q] [] [.ref 0, .int seed, .int n, .int q, .int w] (mset (mset M 0 0 1) 2 1 (M 2 1 + 1)) o 0 0 0) ∧ (¬ (1 : Int32) = 0 → Φ (.inl (some (.int (0 : Int32)))) (mset (mset M 0 0 1) 2 1 (M 2 1 + 1)) o ∧ 0 ≤ 0 ∧ 0 ≤ 0)
    rw [ifp_f (fun z => h2 z.2)] at hΦ
    first | exact br1a (eR (hΦ _ _ (rO_t hM (by decide) (by decide)))) | exact br1b (eR (hΦ _ _ (rO_t hM (by decide) (by decide))))
  replace h2 := pI_1.mp h2
  refine ⟨trivial, fCi htr (r_bad0 hth _ _) (by omega) ?_⟩
  show ((0 : Int32) = 0 → True ∧ mCal l g d k_X12_year Φ 0 0 _ 43 k_X12_yearBy false [.ref 0, .int seed, .int n, .int q] [] [.ref 0, .int seed, .int n, .int q, .int w] M o 0 0 0) ∧ (¬ (0 : Int32) = 0 → Φ (.inl (some (.int (0 : Int32)))) M o ∧ 0 ≤ 0 ∧ 0 ≤ 0)
  rw [ifp_t (⟨h1, h2⟩)] at hΦ
  first | refine br0a ?_ | refine br0b ?_
  obtain ⟨n, hn1, hn2, rfl⟩ := in_1 h1.1 (N := 96) rfl (by decide)
  obtain ⟨w, hw, rfl⟩ := h2
  rw [nI_cl (by omega), nI_cl (by omega)] at hΦ
  refine ⟨trivial, nCv htr (r_yearBy hA hT hR (t := 0) hC (by omega) seed (n := n) (by omega) q) (by omega) ?_⟩
  intro m2 hx
  generalize yr A seed n q = y at hx hΦ
  show (((nI w).toInt = 0 → Φ (.inl (some (.int (m2 0 48)))) m2 o ∧ 0 ≤ 0 ∧ 0 ≤ 0) ∧ ((nI w).toInt = 1 → Φ (.inl (some (.int (m2 0 40)))) m2 o ∧ 0 ≤ 0 ∧ 0 ≤ 0) ∧ ((nI w).toInt = 2 → Φ (.inl (some (.int (m2 495 36)))) m2 o ∧ 0 ≤ 0 ∧ 0 ≤ 0) ∧ True) ∧ ((nI w).toInt < 0 ∨ 2 < (nI w).toInt → True ∧ mCal l g d k_X12_year Φ 0 0 _ 99 k_X12_upIn false [.ref 0, .ref 495] [] [.ref 0, .int seed, .int (nI n), .int q, .int (nI w)] m2 o 0 0 1)
  rw [nI_toInt (by omega)]
  unfold vYr at hΦ
  refine ⟨⟨fun h => ?_, fun h => ?_, fun h => ?_, trivial⟩, fun h => ?_⟩
  · rw [if_pos (by omega)] at hΦ
    exact eR (hΦ _ _ (rO_k hx.1 hx.2.2.2))
  · rw [if_neg (by omega), if_pos (by omega)] at hΦ
    exact eR (hΦ _ _ (rO_k hx.1 hx.2.2.1))
  · rw [if_neg (by omega), if_neg (by omega), if_pos (by omega)] at hΦ
    exact eR (hΦ _ _ (rO_k hx.1 (hx.2.1 36 (by omega)).symm))
  · rw [if_neg (by omega), if_neg (by omega), if_neg (by omega)] at hΦ
    refine ⟨trivial, fCi htr (r_upIn hA.1 hx.1.1 row_495) (by omega) (eR (hΦ _ _ (rO_k hx.1 ?_)))⟩
    rw [up37 A hA.1 hx.2.1]
    rfl
theorem r_span (hA : Sv A) (hT : Cty A) (hR : plR A (A 494)) {m : Mm} (hm : cl m = A) (hd : 9 ≤ d) (seed mn n q w p : Int32) : mHi l g d k_X12_span [.ref 0, .int seed, .int mn, .int n, .int q, .int w, .int p] m (rO A (qSpn A seed mn n q w p)) := by
  have hN3 := hA.1.2.2.2
  refine nBi 4 rfl rfl rfl (by decide) rfl (fun htr o Φ hΦ => mGoOn (mOk (by decide)) rfl [79,120] 400 ?_)
  show mCal l g d k_X12_span Φ 0 0 _ 10 k_X12_in false [.int mn, .int (1 : Int32), .int (20 : Int32)] [.ref 0] [.ref 0, .int seed, .int mn, .int n, .int q, .int w, .int p, mJ, mJ, mJ, mJ] (mset m 0 0 (0 : Int32)) o 0 0 1
  have hC := Cn_0 hm
  generalize mset m 0 0 (0 : Int32) = M at hC ⊢
  clear hm
  obtain ⟨hM, hth⟩ := hC
  have hC : Cn A M := ⟨hM, hth⟩
  unfold qSpn at hΦ
  refine fCi htr (q_in _ _ _ _) (by omega) ?_
  show ((pI (1 ≤ mn ∧ mn ≤ 20)) = 0 → True ∧ mCal l g d k_X12_span Φ 0 0 _ 59 k_X12_bad false [.ref 0, .int (1 : Int32), .int (1 : Int32), .int (1 : Int32)] [] [.ref 0, .int seed, .int mn, .int n, .int q, .int w, .int p, mJ, mJ, mJ, mJ] M o 0 0 1) ∧ (¬ (pI (1 ≤ mn ∧ mn ≤ 20)) = 0 → mCal l g d k_X12_span Φ 0 0 _ 19 k_X12_isYear false [.int n, .int q] [.ref 0] [.ref 0, .int seed, .int mn, .int n, .int q, .int w, .int p, mJ, mJ, mJ, mJ] M o 0 0 1)
  refine ⟨fun h1 => ?_, fun h1 => ?_⟩
  · replace h1 := pI_0.mp h1
    refine ⟨trivial, fCi htr (r_bad1 hth (t := 1) (j := 1) (by decide) (by decide)) (by omega) ?_⟩
    show ((1 : Int32) = 0 → mWB l g d k_X12_span Φ 0 0 79 [.ref 0, .int seed, .int mn, .int n, .int q, .int w, .int p, .int (-1 : Int32), .int (0 : Int32), .int (0 : Int32), .int (0 : Int32)] [] (mset (mset M 0 0 1) 2 1 (M 2 1 + 1)) o 0 0) ∧ (¬ (1 : Int32) = 0 → Φ (.inl (some (.int (0 : Int32)))) (mset (mset M 0 0 1) 2 1 (M 2 1 + 1)) o ∧ 0 ≤ 0 ∧ 0 ≤ 0)
    rw [ifp_f (fun z => h1 z.1)] at hΦ
    first | exact br1a (eR (hΦ _ _ (rO_t hM (by decide) (by decide)))) | exact br1b (eR (hΦ _ _ (rO_t hM (by decide) (by decide))))
  replace h1 := pI_1.mp h1
  refine fCi htr (r_isYear _ (by omega) _ _) (by omega) ?_
  show ((pI (isY n q)) = 0 → True ∧ mCal l g d k_X12_span Φ 0 0 _ 59 k_X12_bad false [.ref 0, .int (1 : Int32), .int (1 : Int32), .int (1 : Int32)] [] [.ref 0, .int seed, .int mn, .int n, .int q, .int w, .int p, mJ, mJ, mJ, mJ] M o 0 0 1) ∧ (¬ (pI (isY n q)) = 0 → mCal l g d k_X12_span Φ 0 0 _ 29 k_X12_in false [.int w, .int (0 : Int32), .int (2 : Int32)] [.ref 0] [.ref 0, .int seed, .int mn, .int n, .int q, .int w, .int p, mJ, mJ, mJ, mJ] M o 0 0 1)
  refine ⟨fun h2 => ?_, fun h2 => ?_⟩
  · replace h2 := pI_0.mp h2
    refine ⟨trivial, fCi htr (r_bad1 hth (t := 1) (j := 1) (by decide) (by decide)) (by omega) ?_⟩
    show ((1 : Int32) = 0 → mWB l g d k_X12_span Φ 0 0 79 [.ref 0, .int seed, .int mn, .int n, .int q, .int w, .int p, .int (-1 : Int32), .int (0 : Int32), .int (0 : Int32), .int (0 : Int32)] [] (mset (mset M 0 0 1) 2 1 (M 2 1 + 1)) o 0 0) ∧ (¬ (1 : Int32) = 0 → Φ (.inl (some (.int (0 : Int32)))) (mset (mset M 0 0 1) 2 1 (M 2 1 + 1)) o ∧ 0 ≤ 0 ∧ 0 ≤ 0)
    rw [ifp_f (fun z => h2 z.2.1)] at hΦ
    first | exact br1a (eR (hΦ _ _ (rO_t hM (by decide) (by decide)))) | exact br1b (eR (hΦ _ _ (rO_t hM (by decide) (by decide))))
  replace h2 := pI_1.mp h2
  refine fCi htr (r_inB (n := 3) (by omega) rfl) (by omega) ?_
  show ((pI (In w 3)) = 0 → True ∧ mCal l g d k_X12_span Φ 0 0 _ 59 k_X12_bad false [.ref 0, .int (1 : Int32), .int (1 : Int32), .int (1 : Int32)] [] [.ref 0, .int seed, .int mn, .int n, .int q, .int w, .int p, mJ, mJ, mJ, mJ] M o 0 0 1) ∧ (¬ (pI (In w 3)) = 0 → mCal l g d k_X12_span Φ 0 0 _ 46 k_X12_in false [.int p, .int (0 : Int32), .int ((M 4 3) - (1 : Int32))] [.ref 0] [.ref 0, .int seed, .int mn, .int n, .int q, .int w, .int p, mJ, mJ, mJ, mJ] M o 0 0 1)
  refine ⟨fun h3 => ?_, fun h3 => ?_⟩
  · replace h3 := pI_0.mp h3
    refine ⟨trivial, fCi htr (r_bad1 hth (t := 1) (j := 1) (by decide) (by decide)) (by omega) ?_⟩
    show ((1 : Int32) = 0 → mWB l g d k_X12_span Φ 0 0 79 [.ref 0, .int seed, .int mn, .int n, .int q, .int w, .int p, .int (-1 : Int32), .int (0 : Int32), .int (0 : Int32), .int (0 : Int32)] [] (mset (mset M 0 0 1) 2 1 (M 2 1 + 1)) o 0 0) ∧ (¬ (1 : Int32) = 0 → Φ (.inl (some (.int (0 : Int32)))) (mset (mset M 0 0 1) 2 1 (M 2 1 + 1)) o ∧ 0 ≤ 0 ∧ 0 ≤ 0)
    rw [ifp_f (fun z => h3 z.2.2.1)] at hΦ
    first | exact br1a (eR (hΦ _ _ (rO_t hM (by decide) (by decide)))) | exact br1b (eR (hΦ _ _ (rO_t hM (by decide) (by decide))))
  replace h3 := pI_1.mp h3
  refine fCi htr (r_inB (n := nP A) (by omega) (by rw [clA hM 3 (by omega), hN3.1])) (by omega) ?_
  show (¬ (pI (In p (nP A))) = 0 → True ∧ mCal l g d k_X12_span Φ 0 0 _ 59 k_X12_bad false [.ref 0, .int (0 : Int32), .int (1 : Int32), .int (1 : Int32)] [] [.ref 0, .int seed, .int mn, .int n, .int q, .int w, .int p, mJ, mJ, mJ, mJ] M o 0 0 1) ∧ ((pI (In p (nP A))) = 0 → True ∧ mCal l g d k_X12_span Φ 0 0 _ 59 k_X12_bad false [.ref 0, .int (1 : Int32), .int (1 : Int32), .int (1 : Int32)] [] [.ref 0, .int seed, .int mn, .int n, .int q, .int w, .int p, mJ, mJ, mJ, mJ] M o 0 0 1)
  refine and_sw (fun h4 => ?_) (fun h4 => ?_)
  · replace h4 := pI_0.mp h4
    refine ⟨trivial, fCi htr (r_bad1 hth (t := 1) (j := 1) (by decide) (by decide)) (by omega) ?_⟩
    show ((1 : Int32) = 0 → mWB l g d k_X12_span Φ 0 0 79 [.ref 0, .int seed, .int mn, .int n, .int q, .int w, .int p, .int (-1 : Int32), .int (0 : Int32), .int (0 : Int32), .int (0 : Int32)] [] (mset (mset M 0 0 1) 2 1 (M 2 1 + 1)) o 0 0) ∧ (¬ (1 : Int32) = 0 → Φ (.inl (some (.int (0 : Int32)))) (mset (mset M 0 0 1) 2 1 (M 2 1 + 1)) o ∧ 0 ≤ 0 ∧ 0 ≤ 0)
    rw [ifp_f (fun z => h4 z.2.2.2)] at hΦ
    first | exact br1a (eR (hΦ _ _ (rO_t hM (by decide) (by decide)))) | exact br1b (eR (hΦ _ _ (rO_t hM (by decide) (by decide))))
  replace h4 := pI_1.mp h4
  refine ⟨trivial, fCi htr (r_bad0 hth _ _) (by omega) ?_⟩
  show ((0 : Int32) = 0 → mWB l g d k_X12_span Φ 0 0 79 [.ref 0, .int seed, .int mn, .int n, .int q, .int w, .int p, .int (-1 : Int32), .int (0 : Int32), .int (0 : Int32), .int (0 : Int32)] [] M o 0 0) ∧ (¬ (0 : Int32) = 0 → Φ (.inl (some (.int (0 : Int32)))) M o ∧ 0 ≤ 0 ∧ 0 ≤ 0)
  rw [ifp_t (⟨h1, h2, h3, h4⟩)] at hΦ
  first | refine br0a ?_ | refine br0b ?_
  obtain ⟨mn, hmn1, hmn2, rfl⟩ := in_1 h1 (N := 20) rfl (by decide)
  obtain ⟨n, hn1, hn2, rfl⟩ := in_1 h2.1 (N := 96) rfl (by decide)
  obtain ⟨p, hp, rfl⟩ := h4
  rw [nI_cl (by omega), nI_cl (by omega), nI_cl (by omega)] at hΦ
  dsimp only at hΦ
  refine mLoopZ (P := fun k => ∀ m, Cn A m → mWB l g d k_X12_span Φ 0 0 79 [.ref 0, .int seed, .int (nI mn), .int (nI n), .int q, .int w, .int (nI p), .int ((foS A seed n q p k).1), .int ((foS A seed n q p k).2.1), .int ((foS A seed n q p k).2.2), .int (nI k)] [] m o 0 0) (N := mn) (fun m hm => mGoOn (mOk (by decide)) rfl [79,120] 400 ?_) (fun k hi ih m hm => mGoOn (mOk (by decide)) rfl [79,120] 400 ?_) M hC
  · show ((nI mn) ≤ (nI mn) → (¬ w = 0 → (¬ w = (1 : Int32) → Φ (.inl (some (.int ((foS A seed n q p mn).2.2)))) m o ∧ 0 ≤ 0 ∧ 0 ≤ 0) ∧ (w = (1 : Int32) → Φ (.inl (some (.int ((foS A seed n q p mn).2.1)))) m o ∧ 0 ≤ 0 ∧ 0 ≤ 0)) ∧ (w = 0 → Φ (.inl (some (.int ((foS A seed n q p mn).1)))) m o ∧ 0 ≤ 0 ∧ 0 ≤ 0)) ∧ (¬ (nI mn) ≤ (nI mn) → True ∧ mCal l g d k_X12_span Φ 0 0 _ 93 k_X12_yearBy false [.ref 0, .int (seed + (nI mn)), .int (nI n), .int q] [] [.ref 0, .int seed, .int (nI mn), .int (nI n), .int q, .int w, .int (nI p), .int ((foS A seed n q p mn).1), .int ((foS A seed n q p mn).2.1), .int ((foS A seed n q p mn).2.2), .int (nI mn)] m o 0 0 0)
    simp (disch := omega) only [mReq_tt, nI_0a, nI_a0, nI_cl, mIn_ok, lit_add, lit_sub, add_lit, lit_le, le_lit, lit_lt, lt_lit, eq_lit, nI_add, nI_1, nI_leI, nI_ltI, nI_eq, mIn_lit, mIn_0, mIn_1, mIn_2, mIn_3, nI_l0, nI_p0, rf_22, rf_44, rf_60, rf_69, rf_391, rf_7, rf_37, rf_51, rf_230, rf_401, rf_413, rf_496, rf_513, rf_518, sB_2, sB_3, sB_4, sB_5, sB_6, sB_7, sL_2, sL_3, sL_4, sL_5, sL_6, sL_7, not_true_eq_false, not_false_eq_true, false_implies, true_implies, true_and, and_true, eq_self, true_or, or_true, Nat.le_refl, Nat.zero_add, Nat.add_zero]
    refine ⟨fun q => ⟨fun z => ?_, fun z => ?_⟩, fun q => ?_⟩
    · exact hΦ _ _ (rO_k hm (by rw [if_neg q, if_neg z]))
    · exact hΦ _ _ (rO_k hm (by rw [if_neg q, if_pos z]))
    · exact hΦ _ _ (rO_k hm (by rw [if_pos q]))
  show ((nI mn) ≤ (nI k) → (¬ w = 0 → (¬ w = (1 : Int32) → Φ (.inl (some (.int ((foS A seed n q p k).2.2)))) m o ∧ 0 ≤ 0 ∧ 0 ≤ 0) ∧ (w = (1 : Int32) → Φ (.inl (some (.int ((foS A seed n q p k).2.1)))) m o ∧ 0 ≤ 0 ∧ 0 ≤ 0)) ∧ (w = 0 → Φ (.inl (some (.int ((foS A seed n q p k).1)))) m o ∧ 0 ≤ 0 ∧ 0 ≤ 0)) ∧ (¬ (nI mn) ≤ (nI k) → True ∧ mCal l g d k_X12_span Φ 0 0 _ 93 k_X12_yearBy false [.ref 0, .int (seed + (nI k)), .int (nI n), .int q] [] [.ref 0, .int seed, .int (nI mn), .int (nI n), .int q, .int w, .int (nI p), .int ((foS A seed n q p k).1), .int ((foS A seed n q p k).2.1), .int ((foS A seed n q p k).2.2), .int (nI k)] m o 0 0 0)
  have hf : ¬ mn ≤ k := by omega
  simp (disch := omega) only [mReq_tt, nI_0a, nI_a0, nI_cl, mIn_ok, lit_add, lit_sub, add_lit, lit_le, le_lit, lit_lt, lt_lit, eq_lit, nI_add, nI_1, nI_leI, nI_ltI, nI_eq, mIn_lit, mIn_0, mIn_1, mIn_2, mIn_3, nI_l0, nI_p0, rf_22, rf_44, rf_60, rf_69, rf_391, rf_7, rf_37, rf_51, rf_230, rf_401, rf_413, rf_496, rf_513, rf_518, sB_2, sB_3, sB_4, sB_5, sB_6, sB_7, sL_2, sL_3, sL_4, sL_5, sL_6, sL_7, not_true_eq_false, not_false_eq_true, false_implies, true_implies, true_and, and_true, eq_self, true_or, or_true, Nat.le_refl, Nat.zero_add, Nat.add_zero, hf]
  replace ih : ∀ m, Cn A m → mWB l g d k_X12_span Φ 0 0 79 [.ref 0, .int seed, .int (nI mn), .int (nI n), .int q, .int w, .int (nI p), .int ((stS A seed n q p k (foS A seed n q p k)).1), .int ((stS A seed n q p k (foS A seed n q p k)).2.1), .int ((stS A seed n q p k (foS A seed n q p k)).2.2), .int (nI (k + 1))] [] m o 0 0 := ih
  unfold stS at ih
  dsimp only at ih
  generalize foS A seed n q p k = x at ih ⊢
  generalize hsd : seed + nI k = sd at ih ⊢
  refine nCv htr (r_yearBy hA hT hR (t := 0) hm (by omega) sd (n := n) (by omega) q) (by omega) ?_
  intro m2 hx
  generalize yr A sd n q = y at hx ih
  have hw := hx.2.2.1
  have rest : ∀ fe, fe = (if x.1 = -1 then y.2.1 else if x.1 < y.2.1 then x.1 else y.2.1) → mWB l g d k_X12_span Φ 0 0 120 [.ref 0, .int seed, .int (nI mn), .int (nI n), .int q, .int w, .int (nI p), .int fe, .int x.2.1, .int x.2.2, .int (nI k)] [] m2 o 0 0 := by
    intro fe hfe
    refine mGoOn (mOk (by decide)) rfl [79,120] 400 ?_
    show mCal l g d k_X12_span Φ 0 0 _ 126 k_X12_more false [.int x.2.1, .int (m2 0 40)] [] [.ref 0, .int seed, .int (nI mn), .int (nI n), .int q, .int w, .int (nI p), .int fe, .int x.2.1, .int x.2.2, .int (nI k)] m2 o 0 0 1
    rw [hw]
    refine fCi htr (r_more _ _ _) (by omega) ?_
    generalize hmo : (if y.2.1 < x.2.1 then x.2.1 else y.2.1) = mo at ih ⊢
    rw [← hfe] at ih
    show True ∧ mCal l g d k_X12_span Φ 0 0 _ 138 k_X12_awakeIn false [.ref 0, .ref 495] [.int x.2.2] [.ref 0, .int seed, .int (nI mn), .int (nI n), .int q, .int w, .int (nI p), .int fe, .int mo, .int x.2.2, .int (nI k)] m2 o 0 0 1
    refine ⟨trivial, fCi htr (r_awakeIn hA.1 hx.1.1 row_495) (by omega) ?_⟩
    rw [show msk (fun k => m2 495 (27 + k) = 1) (nP A) = yAw A y.1 from (aw37 A hA.1 hx.2.1).symm]
    refine fCi htr (q_has _ (by omega) _) (by omega) ?_
    show ((pI (hB (yAw A y.1) p)) = 0 → mWB l g d k_X12_span Φ 0 0 79 [.ref 0, .int seed, .int (nI mn), .int (nI n), .int q, .int w, .int (nI p), .int fe, .int mo, .int (x.2.2 + (0 : Int32)), .int ((nI k) + (1 : Int32))] [] m2 o 0 0) ∧ (¬ (pI (hB (yAw A y.1) p)) = 0 → mWB l g d k_X12_span Φ 0 0 79 [.ref 0, .int seed, .int (nI mn), .int (nI n), .int q, .int w, .int (nI p), .int fe, .int mo, .int (x.2.2 + (1 : Int32)), .int ((nI k) + (1 : Int32))] [] m2 o 0 0)
    rw [nI_1]
    refine ⟨fun z => ?_, fun z => ?_⟩
    · rw [ifp_f (pI_0.mp z)] at ih
      rw [nI_a0]
      exact ih m2 hx.1
    · rw [ifp_t (pI_1.mp z)] at ih
      exact ih m2 hx.1
  show (¬ x.1 = (-1 : Int32) → mCal l g d k_X12_span Φ 0 0 _ 115 k_X12_less false [.int x.1, .int (m2 0 40)] [] [.ref 0, .int seed, .int (nI mn), .int (nI n), .int q, .int w, .int (nI p), .int x.1, .int x.2.1, .int x.2.2, .int (nI k)] m2 o 0 0 1) ∧ (x.1 = (-1 : Int32) → mWB l g d k_X12_span Φ 0 0 120 [.ref 0, .int seed, .int (nI mn), .int (nI n), .int q, .int w, .int (nI p), .int (m2 0 40), .int x.2.1, .int x.2.2, .int (nI k)] [] m2 o 0 0)
  rw [hw]
  refine ⟨fun z => ?_, fun z => rest _ (by rw [if_pos z])⟩
  refine fCi htr (r_less _ _ _) (by omega) ?_
  exact rest _ (by rw [if_neg z])
end R20
