set_option maxRecDepth 100000
/-! THE REFERENCE'S QUERIES: what is thrown, by which reason, what is answered -/
theorem and_sw {X Y : Prop} (y : Y) (x : X) : X ∧ Y := ⟨x, y⟩
theorem br0a {X Y : Prop} (h : Y) : (¬ (0 : Int32) = 0 → X) ∧ ((0 : Int32) = 0 → Y) := ⟨fun q => absurd rfl q, fun _ => h⟩
theorem br0b {X Y : Prop} (h : X) : ((0 : Int32) = 0 → X) ∧ (¬ (0 : Int32) = 0 → Y) := ⟨fun _ => h, fun q => absurd rfl q⟩
theorem br1a {X Y : Prop} (h : X) : (¬ (1 : Int32) = 0 → X) ∧ ((1 : Int32) = 0 → Y) := ⟨fun _ => h, fun q => absurd q (by decide)⟩
theorem br1b {X Y : Prop} (h : Y) : ((1 : Int32) = 0 → X) ∧ (¬ (1 : Int32) = 0 → Y) := ⟨fun q => absurd q (by decide), fun _ => h⟩
theorem Cn_0 {A m : Mm} (hm : cl m = A) : Cn A (mset m 0 0 (0 : Int32)) := ⟨cl_mset hm 0 rfl, by rw [mset_eq, pk_us]⟩
abbrev Oc : Type := Int32 × Nat × Int32
/-- of the reference: thrown q.1, counted at q.2.1, or the answer q.2.2 -/
def rO (A : Mm) (q : Oc) (r : Int32) (m2 : Mm) : Prop := m2 0 0 = q.1 ∧ (q.1 = 0 → r = q.2.2 ∧ cl m2 = A) ∧ (q.1 ≠ 0 → cl m2 = mset A 2 q.2.1 (A 2 q.2.1 + 1))
theorem rO_k {A M : Mm} (h : Cn A M) {x y : Int32} (hx : y = x) : rO A (0, 0, x) y M := ⟨h.2, fun _ => ⟨hx, h.1⟩, fun q => absurd rfl q⟩
theorem rO_t {A M : Mm} (h : cl M = A) {t : Int32} {j : Nat} (ht : t ≠ 0) (hj : j < 2) {r : Int32} : rO A (t, j, 0) r (mset (mset M 0 0 t) 2 j (M 2 j + 1)) := by
  refine ⟨?_, fun q => absurd q ht, fun _ => ?_⟩
  · rw [mset_ne _ _ _ (by decide), mset_eq, pk_us]
  · have h1 := cl_mset h t (a := 0) (i := 0) rfl
    have h2 := clA h j (a := 2) (by omega)
    rw [cl_set h1 _ (by
      have : j = 0 ∨ j = 1 := by omega
      rcases this with rfl | rfl <;> rfl), h2]
section R11
variable {l : Launch} {g : mG} {d : Nat} {A M : Mm}
theorem r_bad0 (hth : M 0 0 = 0) (t j : Int32) : mFi l g d k_X12_bad [.ref 0, .int 0, .int t, .int j] M 0 M := by
  refine nFi 0 rfl rfl rfl (by decide) rfl (fun htr o Φ hΦ => mGoOn (mOk (by decide)) rfl [] 400 ?_)
  show ((0 : Int32) = 0 → ((M 0 0) = 0 → ((0 : Int32) = 0 ∨ (0 : Int32) = 1) ∧ Φ (.inl (some (.int (0 : Int32)))) M o ∧ 0 ≤ 0 ∧ 0 ≤ 0) ∧ (¬ (M 0 0) = 0 → ((1 : Int32) = 0 ∨ (1 : Int32) = 1) ∧ Φ (.inl (some (.int (1 : Int32)))) M o ∧ 0 ≤ 0 ∧ 0 ≤ 0)) ∧ (¬ (0 : Int32) = 0 → (¬ (M 0 0) = 0 → ((M 0 0) = 0 → ((0 : Int32) = 0 ∨ (0 : Int32) = 1) ∧ Φ (.inl (some (.int (0 : Int32)))) M o ∧ 0 ≤ 0 ∧ 0 ≤ 0) ∧ (¬ (M 0 0) = 0 → ((1 : Int32) = 0 ∨ (1 : Int32) = 1) ∧ Φ (.inl (some (.int (1 : Int32)))) M o ∧ 0 ≤ 0 ∧ 0 ≤ 0)) ∧ ((M 0 0) = 0 → (Value.int j).category = 1 ∧ (Value.ref 2).category = 1 ∧ (mReq (mInB j 2) (mReq (mInB j 2) ((((mset (mset M 0 0 t) 2 j.toNatClampNeg (((mset M 0 0 t) 2 j.toNatClampNeg) + (1 : Int32))) 0 0) = 0 → ((0 : Int32) = 0 ∨ (0 : Int32) = 1) ∧ Φ (.inl (some (.int (0 : Int32)))) (mset (mset M 0 0 t) 2 j.toNatClampNeg (((mset M 0 0 t) 2 j.toNatClampNeg) + (1 : Int32))) o ∧ 0 ≤ 0 ∧ 0 ≤ 0) ∧ (¬ ((mset (mset M 0 0 t) 2 j.toNatClampNeg (((mset M 0 0 t) 2 j.toNatClampNeg) + (1 : Int32))) 0 0) = 0 → ((1 : Int32) = 0 ∨ (1 : Int32) = 1) ∧ Φ (.inl (some (.int (1 : Int32)))) (mset (mset M 0 0 t) 2 j.toNatClampNeg (((mset M 0 0 t) 2 j.toNatClampNeg) + (1 : Int32))) o ∧ 0 ≤ 0 ∧ 0 ≤ 0))))))
  refine br0b ⟨fun _ => ⟨Or.inl rfl, eR hΦ⟩, fun q => absurd hth q⟩
theorem r_bad1 (hth : M 0 0 = 0) {t : Int32} {j : Nat} (ht : t ≠ 0) (hj : j < 2) : mFi l g d k_X12_bad [.ref 0, .int 1, .int t, .int (nI j)] M 1 (mset (mset M 0 0 t) 2 j (M 2 j + 1)) := by
  refine nFi 0 rfl rfl rfl (by decide) rfl (fun htr o Φ hΦ => mGoOn (mOk (by decide)) rfl [] 400 ?_)
  show ((1 : Int32) = 0 → ((M 0 0) = 0 → ((0 : Int32) = 0 ∨ (0 : Int32) = 1) ∧ Φ (.inl (some (.int (0 : Int32)))) M o ∧ 0 ≤ 0 ∧ 0 ≤ 0) ∧ (¬ (M 0 0) = 0 → ((1 : Int32) = 0 ∨ (1 : Int32) = 1) ∧ Φ (.inl (some (.int (1 : Int32)))) M o ∧ 0 ≤ 0 ∧ 0 ≤ 0)) ∧ (¬ (1 : Int32) = 0 → (¬ (M 0 0) = 0 → ((M 0 0) = 0 → ((0 : Int32) = 0 ∨ (0 : Int32) = 1) ∧ Φ (.inl (some (.int (0 : Int32)))) M o ∧ 0 ≤ 0 ∧ 0 ≤ 0) ∧ (¬ (M 0 0) = 0 → ((1 : Int32) = 0 ∨ (1 : Int32) = 1) ∧ Φ (.inl (some (.int (1 : Int32)))) M o ∧ 0 ≤ 0 ∧ 0 ≤ 0)) ∧ ((M 0 0) = 0 → (Value.int (nI j)).category = 1 ∧ (Value.ref 2).category = 1 ∧ (mReq (mInB (nI j) 2) (mReq (mInB (nI j) 2) ((((mset (mset M 0 0 t) 2 ((nI j).toNatClampNeg) (((mset M 0 0 t) 2 ((nI j).toNatClampNeg)) + (1 : Int32))) 0 0) = 0 → ((0 : Int32) = 0 ∨ (0 : Int32) = 1) ∧ Φ (.inl (some (.int (0 : Int32)))) (mset (mset M 0 0 t) 2 ((nI j).toNatClampNeg) (((mset M 0 0 t) 2 ((nI j).toNatClampNeg)) + (1 : Int32))) o ∧ 0 ≤ 0 ∧ 0 ≤ 0) ∧ (¬ ((mset (mset M 0 0 t) 2 ((nI j).toNatClampNeg) (((mset M 0 0 t) 2 ((nI j).toNatClampNeg)) + (1 : Int32))) 0 0) = 0 → ((1 : Int32) = 0 ∨ (1 : Int32) = 1) ∧ Φ (.inl (some (.int (1 : Int32)))) (mset (mset M 0 0 t) 2 ((nI j).toNatClampNeg) (((mset M 0 0 t) 2 ((nI j).toNatClampNeg)) + (1 : Int32))) o ∧ 0 ≤ 0 ∧ 0 ≤ 0))))))
  refine br1b ⟨fun q => absurd hth q, fun _ => ⟨rfl, rfl, ?_⟩⟩
  simp (disch := omega) only [mReq_tt, nI_0a, nI_a0, nI_cl, mIn_ok, lit_add, lit_sub, add_lit, lit_le, le_lit, lit_lt, lt_lit, eq_lit, nI_add, nI_1, nI_leI, nI_ltI, nI_eq, mIn_lit, mIn_0, mIn_1, mIn_2, mIn_3, nI_l0, nI_p0, rf_22, rf_44, rf_60, rf_69, rf_391, rf_7, rf_37, rf_51, rf_230, rf_401, rf_413, rf_496, rf_513, rf_518, sB_2, sB_3, sB_4, sB_5, sB_6, sB_7, sL_2, sL_3, sL_4, sL_5, sL_6, sL_7, not_true_eq_false, not_false_eq_true, false_implies, true_implies, true_and, and_true, eq_self, true_or, or_true, Nat.le_refl, Nat.zero_add, Nat.add_zero]
  have e : mset (mset M 0 0 t) 2 j (mset M 0 0 t 2 j + 1) 0 0 = t := by rw [mset_ne _ _ _ (by decide), mset_eq, pk_us]
  rw [e]
  refine ⟨fun q => absurd q ht, fun _ => ?_⟩
  rw [show mset M 0 0 t 2 j = M 2 j from by rw [mset_ne _ _ _ (by decide)]]
  exact hΦ
theorem r_inB {v hi : Int32} {n : Nat} (hn : n < 2 ^ 31) (h : hi = nI n - 1) : mFi l g d k_X12_in [.int v, .int 0, .int hi] M (pI (In v n)) M := by
  have := @q_in l g d v 0 hi M
  rw [h, in_In hn] at this
  rw [h]
  exact this
noncomputable def qLane (A : Mm) (e w : Int32) : Oc := ifp (In e (nL A)) (ifp (In w 2) (0, 0, A (23 + e.toNatClampNeg) w.toNatClampNeg) (2, 1, 0)) (1, 0, 0)
theorem r_lane (hA : CtB A) {m : Mm} (hm : cl m = A) (hd : 3 ≤ d) (e w : Int32) : mHi l g d k_X12_lane [.ref 0, .int e, .int w] m (rO A (qLane A e w)) := by
  have hN := hA.2.1
  refine nBi 0 rfl rfl rfl (by decide) rfl (fun htr o Φ hΦ => mGoOn (mOk (by decide)) rfl [] 400 ?_)
  show mCal l g d k_X12_lane Φ 0 0 _ 16 k_X12_in false [.int e, .int (0 : Int32), .int (((mset m 0 0 (0 : Int32)) 4 1) - (1 : Int32))] [.ref 0] [.ref 0, .int e, .int w] (mset m 0 0 (0 : Int32)) o 0 0 1
  have hC := Cn_0 hm
  generalize mset m 0 0 (0 : Int32) = M at hC ⊢
  clear hm
  obtain ⟨hM, hth⟩ := hC
  have hC : Cn A M := ⟨hM, hth⟩
  unfold qLane at hΦ
  refine fCi htr (r_inB (n := nL A) (by omega) (by rw [clA hM 1 (by omega), hN.1])) (by omega) ?_
  show (¬ (pI (In e (nL A))) = 0 → True ∧ mCal l g d k_X12_lane Φ 0 0 _ 29 k_X12_bad false [.ref 0, .int (0 : Int32), .int (1 : Int32), .int (0 : Int32)] [] [.ref 0, .int e, .int w] M o 0 0 1) ∧ ((pI (In e (nL A))) = 0 → True ∧ mCal l g d k_X12_lane Φ 0 0 _ 29 k_X12_bad false [.ref 0, .int (1 : Int32), .int (1 : Int32), .int (0 : Int32)] [] [.ref 0, .int e, .int w] M o 0 0 1)
  refine and_sw (fun h1 => ?_) (fun h1 => ?_)
  · replace h1 := pI_0.mp h1
    refine ⟨trivial, fCi htr (r_bad1 hth (t := 1) (j := 0) (by decide) (by decide)) (by omega) ?_⟩
    show (¬ (1 : Int32) = 0 → Φ (.inl (some (.int (0 : Int32)))) (mset (mset M 0 0 1) 2 0 (M 2 0 + 1)) o ∧ 0 ≤ 0 ∧ 0 ≤ 0) ∧ ((1 : Int32) = 0 → mCal l g d k_X12_lane Φ 0 0 _ 39 k_X12_in false [.int w, .int (0 : Int32), .int (1 : Int32)] [.ref 0] [.ref 0, .int e, .int w] (mset (mset M 0 0 1) 2 0 (M 2 0 + 1)) o 0 0 1)
    rw [ifp_f (h1)] at hΦ
    first | exact br1a (eR (hΦ _ _ (rO_t hM (by decide) (by decide)))) | exact br1b (eR (hΦ _ _ (rO_t hM (by decide) (by decide))))
  replace h1 := pI_1.mp h1
  refine ⟨trivial, fCi htr (r_bad0 hth _ _) (by omega) ?_⟩
  show (¬ (0 : Int32) = 0 → Φ (.inl (some (.int (0 : Int32)))) M o ∧ 0 ≤ 0 ∧ 0 ≤ 0) ∧ ((0 : Int32) = 0 → mCal l g d k_X12_lane Φ 0 0 _ 39 k_X12_in false [.int w, .int (0 : Int32), .int (1 : Int32)] [.ref 0] [.ref 0, .int e, .int w] M o 0 0 1)
  rw [ifp_t (h1)] at hΦ
  first | refine br0a ?_ | refine br0b ?_
  refine fCi htr (r_inB (n := 2) (by omega) rfl) (by omega) ?_
  show (¬ (pI (In w 2)) = 0 → True ∧ mCal l g d k_X12_lane Φ 0 0 _ 52 k_X12_bad false [.ref 0, .int (0 : Int32), .int (2 : Int32), .int (1 : Int32)] [] [.ref 0, .int e, .int w] M o 0 0 1) ∧ ((pI (In w 2)) = 0 → True ∧ mCal l g d k_X12_lane Φ 0 0 _ 52 k_X12_bad false [.ref 0, .int (1 : Int32), .int (2 : Int32), .int (1 : Int32)] [] [.ref 0, .int e, .int w] M o 0 0 1)
  refine and_sw (fun h2 => ?_) (fun h2 => ?_)
  · replace h2 := pI_0.mp h2
    refine ⟨trivial, fCi htr (r_bad1 hth (t := 2) (j := 1) (by decide) (by decide)) (by omega) ?_⟩
    show ((1 : Int32) = 0 → mReq (mInB e 14) (mReq (mIsB (mRF 22 e.toNatClampNeg) 1) (mReq (mInB w (mLn (mRF 22 e.toNatClampNeg))) (Φ (.inl (some (.int ((mset (mset M 0 0 2) 2 1 (M 2 1 + 1)) (mRF 22 e.toNatClampNeg) w.toNatClampNeg)))) (mset (mset M 0 0 2) 2 1 (M 2 1 + 1)) o ∧ 0 ≤ 0 ∧ 0 ≤ 0)))) ∧ (¬ (1 : Int32) = 0 → Φ (.inl (some (.int (0 : Int32)))) (mset (mset M 0 0 2) 2 1 (M 2 1 + 1)) o ∧ 0 ≤ 0 ∧ 0 ≤ 0)
    rw [ifp_f (h2)] at hΦ
    first | exact br1a (eR (hΦ _ _ (rO_t hM (by decide) (by decide)))) | exact br1b (eR (hΦ _ _ (rO_t hM (by decide) (by decide))))
  replace h2 := pI_1.mp h2
  refine ⟨trivial, fCi htr (r_bad0 hth _ _) (by omega) ?_⟩
  show ((0 : Int32) = 0 → mReq (mInB e 14) (mReq (mIsB (mRF 22 e.toNatClampNeg) 1) (mReq (mInB w (mLn (mRF 22 e.toNatClampNeg))) (Φ (.inl (some (.int (M (mRF 22 e.toNatClampNeg) w.toNatClampNeg)))) M o ∧ 0 ≤ 0 ∧ 0 ≤ 0)))) ∧ (¬ (0 : Int32) = 0 → Φ (.inl (some (.int (0 : Int32)))) M o ∧ 0 ≤ 0 ∧ 0 ≤ 0)
  rw [ifp_t (h2)] at hΦ
  first | refine br0a ?_ | refine br0b ?_
  obtain ⟨e, he, rfl⟩ := h1
  obtain ⟨w, hw, rfl⟩ := h2
  simp (disch := omega) only [mReq_tt, nI_0a, nI_a0, nI_cl, mIn_ok, lit_add, lit_sub, add_lit, lit_le, le_lit, lit_lt, lt_lit, eq_lit, nI_add, nI_1, nI_leI, nI_ltI, nI_eq, mIn_lit, mIn_0, mIn_1, mIn_2, mIn_3, nI_l0, nI_p0, rf_22, rf_44, rf_60, rf_69, rf_391, rf_7, rf_37, rf_51, rf_230, rf_401, rf_413, rf_496, rf_513, rf_518, sB_2, sB_3, sB_4, sB_5, sB_6, sB_7, sL_2, sL_3, sL_4, sL_5, sL_6, sL_7, not_true_eq_false, not_false_eq_true, false_implies, true_implies, true_and, and_true, eq_self, true_or, or_true, Nat.le_refl, Nat.zero_add, Nat.add_zero, clA hM]
  refine hΦ _ _ (rO_k hC ?_)
  simp (disch := omega) only [mReq_tt, nI_0a, nI_a0, nI_cl, mIn_ok, lit_add, lit_sub, add_lit, lit_le, le_lit, lit_lt, lt_lit, eq_lit, nI_add, nI_1, nI_leI, nI_ltI, nI_eq, mIn_lit, mIn_0, mIn_1, mIn_2, mIn_3, nI_l0, nI_p0, rf_22, rf_44, rf_60, rf_69, rf_391, rf_7, rf_37, rf_51, rf_230, rf_401, rf_413, rf_496, rf_513, rf_518, sB_2, sB_3, sB_4, sB_5, sB_6, sB_7, sL_2, sL_3, sL_4, sL_5, sL_6, sL_7, not_true_eq_false, not_false_eq_true, false_implies, true_implies, true_and, and_true, eq_self, true_or, or_true, Nat.le_refl, Nat.zero_add, Nat.add_zero]
end R11
