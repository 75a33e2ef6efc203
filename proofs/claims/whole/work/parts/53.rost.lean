set_option maxRecDepth 100000
/-! THE CLASS'S QUERIES: roster, thief, oil -/
theorem wlk_bits : ∀ w, w < 25 → ∀ h, h < 24 → ((jlshl (jlshl 1 (nI w) - 1) (nI h) ||| jlshr (jlshl (jlshl 1 (nI w) - 1) (nI h)) 24) &&& 16777215).toInt32 = uni (fun t => jshl 1 (jrem (nI h + nI t) 24)) w := by
  unfold jlshl jlshr jshl jrem
  decide +kernel
theorem f1s_64 {n : Nat} (hn : n < 64) : f1s n < 7 := by
  have : one24 (nI n) ≤ 6 := by
    rw [one24_pc]
    exact (show ∀ n, n < 64 → pc24 (nI n) ≤ 6 by decide +kernel) n hn
  unfold f1s
  exact nI_lt (b := 7) (by omega) (by decide)
/-- oil given, as numbers -/
noncomputable def gN (A : Mm) (me : Int32) (b : Nat) : Nat → Nat
  | 0 => 0
  | k + 1 => gN A me b k + ifp (hB me k) (if b < wkN A k then b else wkN A k) 0
theorem gN_le (A : Mm) (me : Int32) (b : Nat) : ∀ K, gN A me b K ≤ b * K
  | 0 => Nat.zero_le _
  | k + 1 => by
    have ih := gN_le A me b k
    show gN A me b k + _ ≤ _
    rw [Nat.mul_succ]
    by_cases q : hB me k
    · rw [ifp_t q]
      by_cases z : b < wkN A k
      · rw [if_pos z]; omega
      · rw [if_neg z]; omega
    · rw [ifp_f q]; omega
theorem gN_mono (A : Mm) (me : Int32) (b : Nat) : ∀ K, gN A me b K ≤ gN A me (b + 1) K
  | 0 => Nat.le_refl _
  | k + 1 => by
    have ih := gN_mono A me b k
    show gN A me b k + _ ≤ gN A me (b + 1) k + _
    by_cases q : hB me k
    · rw [ifp_t q, ifp_t q]
      by_cases z : b < wkN A k
      · rw [if_pos z]
        by_cases y : b + 1 < wkN A k
        · rw [if_pos y]; omega
        · rw [if_neg y]; omega
      · rw [if_neg z, if_neg (by omega)]; omega
    · rw [ifp_f q, ifp_f q]; omega
theorem gvn_nI {A : Mm} (hT : Cty A) (me : Int32) {b : Nat} (hb : b < 1000) : ∀ K, K ≤ nM A → sm (fun k => ifp (hB me k) (if nI b < A (45 + k) 2 then nI b else A (45 + k) 2) 0) K = nI (gN A me b K)
  | 0, _ => rfl
  | k + 1, hK => by
    rw [sm_s, gvn_nI hT me hb k (by omega)]
    show _ = nI (gN A me b k + ifp (hB me k) (if b < wkN A k then b else wkN A k) 0)
    rw [← nI_add]
    congr 1
    have hw := In_cl (hT.2.2.2.1 k (by omega)).2.2.1 (by decide)
    have e : A (45 + k) 2 = nI (wkN A k) := hw.1
    have hlt : wkN A k < 25 := hw.2
    by_cases q : hB me k
    · rw [ifp_t q, ifp_t q, e]
      by_cases z : b < wkN A k
      · rw [if_pos z, if_pos (nI_lt z (by omega))]
      · rw [if_neg z, if_neg (nI_nlt (by omega) (by omega))]
    · rw [ifp_f q, ifp_f q]; rfl
noncomputable def bo (Q : Nat → Prop) : Nat → Nat
  | 0 => 0
  | n + 1 => ifp (Q n) (bo Q n) (n + 1)
theorem bo_frs {Q : Nat → Prop} (hQ : ∀ n, Q n → Q (n + 1)) : ∀ n, bo Q n = frs Q n := by
  have hup : ∀ n j, Q n → Q (n + j) := by
    intro n j h
    induction j with
    | zero => exact h
    | succ j ih => exact hQ _ ih
  intro n
  induction n with
  | zero => rfl
  | succ n ih =>
    show ifp (Q n) (bo Q n) (n + 1) = _
    by_cases q : Q n
    · rw [ifp_t q, ih]
      obtain ⟨b, hb, hm⟩ := pk_least Q ⟨n, q⟩
      have hbn : b ≤ n := by
        rcases Nat.lt_or_ge n b with z | z
        · exact absurd q (hm n z)
        · exact z
      rw [frs_yes (n := n + 1) hm hb (by omega)]
      rcases Nat.lt_or_eq_of_le hbn with z | z
      · exact frs_yes hm hb z
      · subst z; exact frs_no hm
    · rw [ifp_f q]
      refine (frs_no (fun j hj z => q ?_)).symm
      have := hup j (n - j) z
      rwa [show j + (n - j) = n by omega] at this
section X11
variable {l : Launch} {g : mG} {d : Nat} {A : Mm}
theorem x_hoursWalked (hT : Cty A) (hC : CtR A A 590) {m : Mm} (hs : csim A m) (hd : 1 ≤ d) (q : Int32) : mFi l g d k_X1_hoursWalked [.ref 590, .int q] m (rosW A q) m := by
  have h6 := hT.1.2.2.1.2
  unfold rosW
  refine nFi 4 rfl rfl rfl (by decide) rfl (fun htr o Φ hΦ => mGoOn (mOk (by decide)) rfl [4] 400 ?_)
  show mWB l g d k_X1_hoursWalked Φ 0 0 4 [.ref 590, .int q, .int (0 : Int32), .int (0 : Int32), mJ, mJ] [] m o 0 0
  refine mLoopZ (P := fun k => mWB l g d k_X1_hoursWalked Φ 0 0 4 [.ref 590, .int q, .int (uni (fun k => ifp (hB q k) (walkB A k) 0) k), .int (nI k), mJ, mJ] [] m o 0 0) (N := nM A) (mGoOn (mOk (by decide)) rfl [4] 400 ?_) (fun k hi ih => mGoOn (mOk (by decide)) rfl [4] 400 ?_)
  · show ((m 590 2) ≤ (nI (nM A)) → Φ (.inl (some (.int (uni (fun k => ifp (hB q k) (walkB A k) 0) (nM A))))) m o ∧ 0 ≤ 0 ∧ 0 ≤ 0) ∧ (¬ (m 590 2) ≤ (nI (nM A)) → mCal l g d k_X1_hoursWalked Φ 0 0 _ 14 k_X11_hasBit true [.int q, .int (nI (nM A))] [] [.ref 590, .int q, .int (uni (fun k => ifp (hB q k) (walkB A k) 0) (nM A)), .int (nI (nM A)), mJ, mJ] m o 0 0 1)
    simp (disch := omega) only [mReq_tt, nI_0a, nI_a0, nI_cl, mIn_ok, lit_add, lit_sub, add_lit, lit_le, le_lit, lit_lt, lt_lit, eq_lit, nI_add, nI_1, nI_leI, nI_ltI, nI_eq, mIn_lit, mIn_0, mIn_1, mIn_2, mIn_3, nI_l0, nI_p0, rf_22, rf_44, rf_60, rf_69, rf_391, rf_7, rf_37, rf_51, rf_230, rf_401, rf_413, rf_496, rf_513, rf_518, sB_2, sB_3, sB_4, sB_5, sB_6, sB_7, sL_2, sL_3, sL_4, sL_5, sL_6, sL_7, not_true_eq_false, not_false_eq_true, false_implies, true_implies, true_and, and_true, eq_self, true_or, or_true, Nat.le_refl, Nat.zero_add, Nat.add_zero, csim_at hs, hC.1.2.2.1]
    exact hΦ
  show ((m 590 2) ≤ (nI k) → Φ (.inl (some (.int (uni (fun k => ifp (hB q k) (walkB A k) 0) k)))) m o ∧ 0 ≤ 0 ∧ 0 ≤ 0) ∧ (¬ (m 590 2) ≤ (nI k) → mCal l g d k_X1_hoursWalked Φ 0 0 _ 14 k_X11_hasBit true [.int q, .int (nI k)] [] [.ref 590, .int q, .int (uni (fun k => ifp (hB q k) (walkB A k) 0) k), .int (nI k), mJ, mJ] m o 0 0 1)
  have hf : ¬ nM A ≤ k := by omega
  simp (disch := omega) only [mReq_tt, nI_0a, nI_a0, nI_cl, mIn_ok, lit_add, lit_sub, add_lit, lit_le, le_lit, lit_lt, lt_lit, eq_lit, nI_add, nI_1, nI_leI, nI_ltI, nI_eq, mIn_lit, mIn_0, mIn_1, mIn_2, mIn_3, nI_l0, nI_p0, rf_22, rf_44, rf_60, rf_69, rf_391, rf_7, rf_37, rf_51, rf_230, rf_401, rf_413, rf_496, rf_513, rf_518, sB_2, sB_3, sB_4, sB_5, sB_6, sB_7, sL_2, sL_3, sL_4, sL_5, sL_6, sL_7, not_true_eq_false, not_false_eq_true, false_implies, true_implies, true_and, and_true, eq_self, true_or, or_true, Nat.le_refl, Nat.zero_add, Nat.add_zero, csim_at hs, hC.1.2.2.1, hf]
  rw [uni_s] at ih
  generalize uni (fun k => ifp (hB q k) (walkB A k) 0) k = u at ih ⊢
  refine fCi htr (x_hasBit m q (by omega)) hd ?_
  show ((pI (hB q k)) = 0 → mWB l g d k_X1_hoursWalked Φ 0 0 4 [.ref 590, .int q, .int u, .int ((nI k) + (1 : Int32)), mJ, mJ] [] m o 0 0) ∧ (¬ (pI (hB q k)) = 0 → mCal l g d k_X1_hoursWalked Φ 0 0 _ 26 k_X11_at true [.ref 597, .int (nI k)] [.long (1 : Int64)] [.ref 590, .int q, .int u, .int (nI k), mJ, mJ] m o 0 0 1)
  rw [nI_1]
  have hk := hT.2.2.2.1 k hi
  obtain ⟨h, hh, eh⟩ := hk.2.1
  obtain ⟨w, hw, ew⟩ := hk.2.2.1
  refine ⟨fun z => ?_, fun z => fCi htr (x_at m (a := 597) (n := 6) rfl rfl (by decide) (by omega)) hd ?_⟩
  · rw [ifp_f (pI_0.mp z), or_zero] at ih
    exact ih
  · rw [csim_at hs k (by omega), (hC.2.2.2.2.1 k hi).2.2, ew]
    show mCal l g d k_X1_hoursWalked Φ 0 0 _ 37 k_X11_at true [.ref 596, .int (nI k)] [.long ((jlshl (1 : Int64) (nI w)) - (1 : Int64))] [.ref 590, .int q, .int u, .int (nI k), mJ, mJ] m o 0 0 1
    refine fCi htr (x_at m (a := 596) (n := 6) rfl rfl (by decide) (by omega)) hd ?_
    rw [csim_at hs k (by omega), (hC.2.2.2.2.1 k hi).2.1, eh]
    show mWB l g d k_X1_hoursWalked Φ 0 0 4 [.ref 590, .int q, .int (u ||| ((((jlshl (jlshl 1 (nI w) - 1) (nI h)) ||| (jlshr (jlshl (jlshl 1 (nI w) - 1) (nI h)) (24 : Int32))) &&& (16777215 : Int64)).toInt32)), .int ((nI k) + (1 : Int32)), .long (jlshl (jlshl 1 (nI w) - 1) (nI h)), mJ] [] m o 0 0
    rw [wlk_bits w hw h hh, nI_1]
    have ewb : walkB A k = uni (fun t => jshl 1 (jrem (nI h + nI t) 24)) w := by
      unfold walkB wkN
      rw [eh, ew, nI_cl (by omega)]
    rw [ifp_t (pI_1.mp z), ewb] at ih
    exact mWB_wk ih ⟨Or.inr rfl, Or.inr rfl, Or.inr rfl, Or.inr rfl, Or.inl rfl, Or.inl rfl, trivial⟩
theorem x_oilGiven (hA : CtB A) (hC : CtR A A 590) {m : Mm} (hs : csim A m) (hd : 1 ≤ d) (me b : Int32) : mFi l g d k_X1_oilGiven [.ref 590, .int me, .int b] m (gvn A me b) m := by
  have h6 := hA.2.2.1.2
  unfold gvn
  refine nFi 2 rfl rfl rfl (by decide) rfl (fun htr o Φ hΦ => mGoOn (mOk (by decide)) rfl [5] 400 ?_)
  show mWB l g d k_X1_oilGiven Φ 0 0 5 [.ref 590, .int me, .int b, .int (0 : Int32), .int (0 : Int32)] [] m o 0 0
  refine mLoopZ (P := fun k => mWB l g d k_X1_oilGiven Φ 0 0 5 [.ref 590, .int me, .int b, .int (sm (fun k => ifp (hB me k) (if b < A (45 + k) 2 then b else A (45 + k) 2) 0) k), .int (nI k)] [] m o 0 0) (N := nM A) (mGoOn (mOk (by decide)) rfl [5] 400 ?_) (fun k hi ih => mGoOn (mOk (by decide)) rfl [5] 400 ?_)
  · show ((m 590 2) ≤ (nI (nM A)) → Φ (.inl (some (.int (sm (fun k => ifp (hB me k) (if b < A (45 + k) 2 then b else A (45 + k) 2) 0) (nM A))))) m o ∧ 0 ≤ 0 ∧ 0 ≤ 0) ∧ (¬ (m 590 2) ≤ (nI (nM A)) → mCal l g d k_X1_oilGiven Φ 0 0 _ 17 k_X11_hasBit true [.int me, .int (nI (nM A))] [] [.ref 590, .int me, .int b, .int (sm (fun k => ifp (hB me k) (if b < A (45 + k) 2 then b else A (45 + k) 2) 0) (nM A)), .int (nI (nM A))] m o 0 0 1)
    simp (disch := omega) only [mReq_tt, nI_0a, nI_a0, nI_cl, mIn_ok, lit_add, lit_sub, add_lit, lit_le, le_lit, lit_lt, lt_lit, eq_lit, nI_add, nI_1, nI_leI, nI_ltI, nI_eq, mIn_lit, mIn_0, mIn_1, mIn_2, mIn_3, nI_l0, nI_p0, rf_22, rf_44, rf_60, rf_69, rf_391, rf_7, rf_37, rf_51, rf_230, rf_401, rf_413, rf_496, rf_513, rf_518, sB_2, sB_3, sB_4, sB_5, sB_6, sB_7, sL_2, sL_3, sL_4, sL_5, sL_6, sL_7, not_true_eq_false, not_false_eq_true, false_implies, true_implies, true_and, and_true, eq_self, true_or, or_true, Nat.le_refl, Nat.zero_add, Nat.add_zero, csim_at hs, hC.1.2.2.1]
    exact hΦ
  show ((m 590 2) ≤ (nI k) → Φ (.inl (some (.int (sm (fun k => ifp (hB me k) (if b < A (45 + k) 2 then b else A (45 + k) 2) 0) k)))) m o ∧ 0 ≤ 0 ∧ 0 ≤ 0) ∧ (¬ (m 590 2) ≤ (nI k) → mCal l g d k_X1_oilGiven Φ 0 0 _ 17 k_X11_hasBit true [.int me, .int (nI k)] [] [.ref 590, .int me, .int b, .int (sm (fun k => ifp (hB me k) (if b < A (45 + k) 2 then b else A (45 + k) 2) 0) k), .int (nI k)] m o 0 0 1)
  have hf : ¬ nM A ≤ k := by omega
  simp (disch := omega) only [mReq_tt, nI_0a, nI_a0, nI_cl, mIn_ok, lit_add, lit_sub, add_lit, lit_le, le_lit, lit_lt, lt_lit, eq_lit, nI_add, nI_1, nI_leI, nI_ltI, nI_eq, mIn_lit, mIn_0, mIn_1, mIn_2, mIn_3, nI_l0, nI_p0, rf_22, rf_44, rf_60, rf_69, rf_391, rf_7, rf_37, rf_51, rf_230, rf_401, rf_413, rf_496, rf_513, rf_518, sB_2, sB_3, sB_4, sB_5, sB_6, sB_7, sL_2, sL_3, sL_4, sL_5, sL_6, sL_7, not_true_eq_false, not_false_eq_true, false_implies, true_implies, true_and, and_true, eq_self, true_or, or_true, Nat.le_refl, Nat.zero_add, Nat.add_zero, csim_at hs, hC.1.2.2.1, hf]
  rw [sm_s] at ih
  generalize sm (fun k => ifp (hB me k) (if b < A (45 + k) 2 then b else A (45 + k) 2) 0) k = u at ih ⊢
  refine fCi htr (x_hasBit m me (by omega)) hd ?_
  show ((pI (hB me k)) = 0 → mWB l g d k_X1_oilGiven Φ 0 0 5 [.ref 590, .int me, .int b, .int u, .int ((nI k) + (1 : Int32))] [] m o 0 0) ∧ (¬ (pI (hB me k)) = 0 → mCal l g d k_X1_oilGiven Φ 0 0 _ 30 k_X11_at true [.ref 597, .int (nI k)] [.int u] [.ref 590, .int me, .int b, .int u, .int (nI k)] m o 0 0 1)
  rw [nI_1]
  refine ⟨fun z => ?_, fun z => fCi htr (x_at m (a := 597) (n := 6) rfl rfl (by decide) (by omega)) hd ?_⟩
  · rw [ifp_f (pI_0.mp z), nI_a0] at ih
    exact ih
  · rw [csim_at hs k (by omega), (hC.2.2.2.2.1 k hi).2.2]
    show 1 ≤ d ∧ (([.int u] : List Value).map fun v => v.category).sum ≤ 8 ∧ 0 ≤ 0 ∧ 0 ≤ 0 ∧ (mWB l g d k_X1_oilGiven Φ 0 0 5 [.ref 590, .int me, .int b, .int (u + (if b < (A (45 + k) 2) then b else (A (45 + k) 2))), .int ((nI k) + (1 : Int32))] [] m o 0 0)
    rw [ifp_t (pI_1.mp z)] at ih
    rw [nI_1]
    exact ⟨hd, Nat.le_of_ble_eq_true rfl, Nat.le_refl _, Nat.le_refl _, ih⟩
theorem x_loot (hA : CtB A) (hC : CtR A A 590) {m : Mm} (hs : csim A m) (hd : 2 ≤ d) {s t : Nat} (hs2 : s < nS A) (ht : t < nS A) (k : Int32) : mFi l g d k_X1_loot [.ref 590, .int (nI s), .int (nI t), .int k] m (stl A s t k) m := by
  have h9 := hA.1.2
  refine nFi 1 rfl rfl rfl (by decide) rfl (fun htr o Φ hΦ => mGoOn (mOk (by decide)) rfl [14,18,19] 400 ?_)
  show ((nI s) = (nI t) → mWB l g d k_X1_loot Φ 0 0 14 [.ref 590, .int (nI s), .int (nI t), .int k, mJ] [] m o 0 0) ∧ (¬ (nI s) = (nI t) → True ∧ mCal l g d k_X1_loot Φ 0 0 _ 8 k_X1_hasLane false [.ref 590, .int (nI t), .int (nI s)] [] [.ref 590, .int (nI s), .int (nI t), .int k, mJ] m o 0 0 1)
  unfold stl at hΦ
  have k19 : ∀ z : Int32, (z = 0 → ¬ (s = t ∨ Ln A (nI s) (nI t))) → (z ≠ 0 → s = t ∨ Ln A (nI s) (nI t)) → mWB l g d k_X1_loot Φ 0 0 19 [.ref 590, .int (nI s), .int (nI t), .int k, mJ] [.int z] m o 0 0 := by
    intro z h0 h1
    refine mGoOn (mOk (by decide)) rfl [] 400 ?_
    show mCal l g d k_X1_loot Φ 0 0 _ 26 k_X11_at true [.ref 591, .int (nI s)] [] [.ref 590, .int (nI s), .int (nI t), .int k, .int z] m o 0 0 1
    refine fCi htr (x_at m (a := 591) (n := 9) rfl rfl (by decide) (by omega)) (by omega) ?_
    rw [csim_at hs s (by omega), hC.2.1 s hs2]
    show (z = 0 → Φ (.inl (some (.int ((A 6 s) - (0 : Int32))))) m o ∧ 0 ≤ 0 ∧ 0 ≤ 0) ∧ (¬ z = 0 → Φ (.inl (some (.int ((A 6 s) - k)))) m o ∧ 0 ≤ 0 ∧ 0 ≤ 0)
    refine ⟨fun q => ?_, fun q => ?_⟩
    · rw [ifp_f (h0 q)] at hΦ; exact eR hΦ
    · rw [ifp_t (h1 q)] at hΦ; exact eR hΦ
  have k14 : (s = t ∨ Ln A (nI s) (nI t)) → mWB l g d k_X1_loot Φ 0 0 14 [.ref 590, .int (nI s), .int (nI t), .int k, mJ] [] m o 0 0 := by
    intro h
    refine mGoOn (mOk (by decide)) rfl [19] 400 ?_
    show mWB l g d k_X1_loot Φ 0 0 19 [.ref 590, .int (nI s), .int (nI t), .int k, mJ] [.int (1 : Int32)] m o 0 0
    exact k19 1 (fun q => absurd q (by decide)) (fun _ => h)
  have k18 : ¬ (s = t ∨ Ln A (nI s) (nI t)) → mWB l g d k_X1_loot Φ 0 0 18 [.ref 590, .int (nI s), .int (nI t), .int k, mJ] [] m o 0 0 := by
    intro h
    refine mGoOn (mOk (by decide)) rfl [19] 400 ?_
    show mWB l g d k_X1_loot Φ 0 0 19 [.ref 590, .int (nI s), .int (nI t), .int k, mJ] [.int (0 : Int32)] m o 0 0
    exact k19 0 (fun _ => h) (fun q => absurd rfl q)
  refine ⟨fun q => k14 (Or.inl ((nI_eq (by omega) (by omega)).mp q)), fun q => ⟨trivial, fCi htr (x_hasLane hA hC hs (by omega) ht hs2) (by omega) ?_⟩⟩
  show ((pI (Ln A (nI t) (nI s))) = 0 → mWB l g d k_X1_loot Φ 0 0 18 [.ref 590, .int (nI s), .int (nI t), .int k, mJ] [] m o 0 0) ∧ (¬ (pI (Ln A (nI t) (nI s))) = 0 → mWB l g d k_X1_loot Φ 0 0 14 [.ref 590, .int (nI s), .int (nI t), .int k, mJ] [] m o 0 0)
  exact ⟨fun z => k18 (fun y => y.elim (fun v => q (by rw [v])) (fun v => pI_0.mp z (Ln_sym v))), fun z => k14 (Or.inr (Ln_sym (pI_1.mp z)))⟩
theorem x_isRest (hA : CtB A) (hC : CtR A A 590) {m : Mm} (hs : csim A m) (hd : 3 ≤ d) {s t : Nat} (hs2 : s < nS A) (ht : t < nS A) (k : Int32) : mFi l g d k_X1_isRest [.ref 590, .int (nI s), .int (nI t), .int k] m (pI (rst A k s t)) m := by
  have h9 := hA.1.2
  refine nFi 2 rfl rfl rfl (by decide) rfl (fun htr o Φ hΦ => mGoOn (mOk (by decide)) rfl [12,47,49] 400 ?_)
  show True ∧ mCal l g d k_X1_isRest Φ 0 0 _ 4 k_X1_loot false [.ref 590, .int (nI s), .int (nI t), .int k] [] [.ref 590, .int (nI s), .int (nI t), .int k, mJ, mJ] m o 0 0 1
  refine ⟨trivial, fCi htr (x_loot hA hC hs (by omega) hs2 ht k) (by omega) ?_⟩
  show mWB l g d k_X1_isRest Φ 0 0 12 [.ref 590, .int (nI s), .int (nI t), .int k, .int (stl A s t k), .int (nI 0)] [] m o 0 0
  refine mLoopQ (Q := nRst A s t k) (P := fun e => mWB l g d k_X1_isRest Φ 0 0 12 [.ref 590, .int (nI s), .int (nI t), .int k, .int (stl A s t k), .int (nI e)] [] m o 0 0) (N := nS A) (fun hb => mGoOn (mOk (by decide)) rfl [12,47,49] 400 ?_) (fun e hi hb ih => mGoOn (mOk (by decide)) rfl [12,47,49] 400 ?_)
  · show ((m 590 0) ≤ (nI (nS A)) → ((1 : Int32) = 0 ∨ (1 : Int32) = 1) ∧ Φ (.inl (some (.int (1 : Int32)))) m o ∧ 0 ≤ 0 ∧ 0 ≤ 0) ∧ (¬ (m 590 0) ≤ (nI (nS A)) → True ∧ mCal l g d k_X1_isRest Φ 0 0 _ 26 k_X1_loot false [.ref 590, .int (nI (nS A)), .int (nI t), .int k] [] [.ref 590, .int (nI s), .int (nI t), .int k, .int (stl A s t k), .int (nI (nS A))] m o 0 0 1)
    simp (disch := omega) only [mReq_tt, nI_0a, nI_a0, nI_cl, mIn_ok, lit_add, lit_sub, add_lit, lit_le, le_lit, lit_lt, lt_lit, eq_lit, nI_add, nI_1, nI_leI, nI_ltI, nI_eq, mIn_lit, mIn_0, mIn_1, mIn_2, mIn_3, nI_l0, nI_p0, rf_22, rf_44, rf_60, rf_69, rf_391, rf_7, rf_37, rf_51, rf_230, rf_401, rf_413, rf_496, rf_513, rf_518, sB_2, sB_3, sB_4, sB_5, sB_6, sB_7, sL_2, sL_3, sL_4, sL_5, sL_6, sL_7, not_true_eq_false, not_false_eq_true, false_implies, true_implies, true_and, and_true, eq_self, true_or, or_true, Nat.le_refl, Nat.zero_add, Nat.add_zero, csim_at hs, hC.1.1]
    exact (pI_t (show rst A k s t from hb)) ▸ hΦ
  show ((m 590 0) ≤ (nI e) → ((1 : Int32) = 0 ∨ (1 : Int32) = 1) ∧ Φ (.inl (some (.int (1 : Int32)))) m o ∧ 0 ≤ 0 ∧ 0 ≤ 0) ∧ (¬ (m 590 0) ≤ (nI e) → True ∧ mCal l g d k_X1_isRest Φ 0 0 _ 26 k_X1_loot false [.ref 590, .int (nI e), .int (nI t), .int k] [] [.ref 590, .int (nI s), .int (nI t), .int k, .int (stl A s t k), .int (nI e)] m o 0 0 1)
  have hf : ¬ nS A ≤ e := by omega
  simp (disch := omega) only [mReq_tt, nI_0a, nI_a0, nI_cl, mIn_ok, lit_add, lit_sub, add_lit, lit_le, le_lit, lit_lt, lt_lit, eq_lit, nI_add, nI_1, nI_leI, nI_ltI, nI_eq, mIn_lit, mIn_0, mIn_1, mIn_2, mIn_3, nI_l0, nI_p0, rf_22, rf_44, rf_60, rf_69, rf_391, rf_7, rf_37, rf_51, rf_230, rf_401, rf_413, rf_496, rf_513, rf_518, sB_2, sB_3, sB_4, sB_5, sB_6, sB_7, sL_2, sL_3, sL_4, sL_5, sL_6, sL_7, not_true_eq_false, not_false_eq_true, false_implies, true_implies, true_and, and_true, eq_self, true_or, or_true, Nat.le_refl, Nat.zero_add, Nat.add_zero, csim_at hs, hC.1.1, hf]
  have k47 : nRst A s t k e → mWB l g d k_X1_isRest Φ 0 0 47 [.ref 590, .int (nI s), .int (nI t), .int k, .int (stl A s t k), .int (nI e)] [] m o 0 0 := by
    intro h
    refine mGoOn (mOk (by decide)) rfl [] 400 ?_
    show ((0 : Int32) = 0 ∨ (0 : Int32) = 1) ∧ Φ (.inl (some (.int (0 : Int32)))) m o ∧ 0 ≤ 0 ∧ 0 ≤ 0
    rw [pI_f (fun z => z e hi h)] at hΦ
    exact ⟨Or.inl rfl, eR hΦ⟩
  refine fCi htr (x_loot hA hC hs (by omega) hi ht k) (by omega) ?_
  show ((stl A s t k) < (stl A e t k) → mWB l g d k_X1_isRest Φ 0 0 47 [.ref 590, .int (nI s), .int (nI t), .int k, .int (stl A s t k), .int (nI e)] [] m o 0 0) ∧ (¬ (stl A s t k) < (stl A e t k) → True ∧ mCal l g d k_X1_isRest Φ 0 0 _ 39 k_X1_loot false [.ref 590, .int (nI s), .int (nI e), .int k] [] [.ref 590, .int (nI s), .int (nI t), .int k, .int (stl A s t k), .int (nI e)] m o 0 0 1)
  refine ⟨fun q => k47 (Or.inl q), fun q => ⟨trivial, fCi htr (x_loot hA hC hs (by omega) hs2 hi k) (by omega) ?_⟩⟩
  show ((stl A s t k) ≤ (stl A s e k) → mWB l g d k_X1_isRest Φ 0 0 49 [.ref 590, .int (nI s), .int (nI t), .int k, .int (stl A s t k), .int (nI e)] [] m o 0 0) ∧ (¬ (stl A s t k) ≤ (stl A s e k) → mWB l g d k_X1_isRest Φ 0 0 47 [.ref 590, .int (nI s), .int (nI t), .int k, .int (stl A s t k), .int (nI e)] [] m o 0 0)
  refine ⟨fun q2 => ?_, fun q2 => k47 (Or.inr (fa_of_nle q2))⟩
  refine mGoOn (mOk (by decide)) rfl [12] 400 ?_
  show mWB l g d k_X1_isRest Φ 0 0 12 [.ref 590, .int (nI s), .int (nI t), .int k, .int (stl A s t k), .int ((nI e) + (1 : Int32))] [] m o 0 0
  rw [nI_1]
  exact ih (fun z => z.elim q (fun v => (fa_of_lt v).2.1 q2))
theorem x_roster (hQ : Qr A) {m : Mm} (hm : cl m = A) (hd : 8 ≤ d) (h : Int32) : xS l g d k_X11_roster [.ref 586, .int h] m A (qRos A h) := by
  have hA := hQ.1.1
  have hC := hQ.2.2.2.2.1
  have h6 := hA.2.2.1.2
  have hp6 : 2 ^ nM A ≤ 2 ^ 6 := Nat.pow_le_pow_right (by decide) h6
  refine nBx 4 rfl rfl rfl (by decide) rfl (fun htr o Φ hΦ => mGoOn (mOk (by decide)) rfl [27,70] 400 ?_)
  show mCal l g d k_X11_roster Φ 4 24 _ 12 k_X11_isOf false [.int h, .int (24 : Int32)] [.ref 586] [.ref 586, .int h, .ref 590, mJ, mJ, mJ] m o 0 0 1
  unfold qRos at hΦ
  refine gCi htr (x_isOf m h (n := 24) (by decide)) (by omega) ?_
  show True ∧ mCal l g d k_X11_roster Φ 4 24 _ 15 k_X11_needArgument false [.ref 586, .int (pI (In h (2 ^ 24)))] [] [.ref 586, .int h, .ref 590, mJ, mJ, mJ] m o 0 0 0
  refine ⟨trivial, cNeedA htr rfl (by omega) (by decide) (by decide) (fun h1 => ?_) (fun h1 => by
    replace h1 := pI_0.mp h1
    rw [ifp_f (h1)] at hΦ
    exact hΦ _ _ (xk_a hm (by decide)))⟩
  replace h1 := pI_1.mp h1
  rw [ifp_t (h1)] at hΦ
  rw [amd_amn _ _ (by omega)] at hΦ
  have hcf := cfo_amn (P := PRo A h) (f := f1s) (K := 7) (N := 2 ^ nM A) (by omega) (fun n hn hP => f1s_64 (by omega))
  rw [← (hcf (2 ^ nM A) (Nat.le_refl _)).1] at hΦ
  show mWB l g d k_X11_roster Φ 4 24 27 [.ref 586, .int h, .ref 590, .int ((cfo (PRo A h) f1s 7 0).1), .int ((cfo (PRo A h) f1s 7 0).2), .int (nI 0)] [] m o 1 6
  refine mWB_widen (cN' := 4) (sN' := 24) ?_ (by decide) (by decide)
  refine mLoopZ (P := fun n => mWB l g d k_X11_roster Φ 4 24 27 [.ref 586, .int h, .ref 590, .int ((cfo (PRo A h) f1s 7 n).1), .int ((cfo (PRo A h) f1s 7 n).2), .int (nI n)] [] m o 4 24) (N := 2 ^ nM A) ?_ ?_
  · refine mGoOn (mOk (by decide)) rfl [27,70] 400 ?_
    show ((jshl (1 : Int32) (m 590 2)) ≤ (nI (2 ^ nM A)) → Φ (.inl (some (.int ((cfo (PRo A h) f1s 7 (2 ^ nM A)).2)))) m o ∧ 4 ≤ 4 ∧ 24 ≤ 24) ∧ (¬ (jshl (1 : Int32) (m 590 2)) ≤ (nI (2 ^ nM A)) → mCal l g d k_X11_roster Φ 4 24 _ 40 k_J6_bitCount_0f7a4 false [.int (nI (2 ^ nM A))] [] [.ref 586, .int h, .ref 590, .int ((cfo (PRo A h) f1s 7 (2 ^ nM A)).1), .int ((cfo (PRo A h) f1s 7 (2 ^ nM A)).2), .int (nI (2 ^ nM A))] m o 4 24 1)
    rw [ar hm 590 2, hC.1.2.2.1, sh_pow _ (by omega)]
    simp (disch := omega) only [mReq_tt, nI_0a, nI_a0, nI_cl, mIn_ok, lit_add, lit_sub, add_lit, lit_le, le_lit, lit_lt, lt_lit, eq_lit, nI_add, nI_1, nI_leI, nI_ltI, nI_eq, mIn_lit, mIn_0, mIn_1, mIn_2, mIn_3, nI_l0, nI_p0, rf_22, rf_44, rf_60, rf_69, rf_391, rf_7, rf_37, rf_51, rf_230, rf_401, rf_413, rf_496, rf_513, rf_518, sB_2, sB_3, sB_4, sB_5, sB_6, sB_7, sL_2, sL_3, sL_4, sL_5, sL_6, sL_7, not_true_eq_false, not_false_eq_true, false_implies, true_implies, true_and, and_true, eq_self, true_or, or_true, Nat.le_refl, Nat.zero_add, Nat.add_zero]
    exact hΦ _ _ (xk_v hm rfl)
  · intro n hn ih
    refine mGoOn (mOk (by decide)) rfl [27,70] 400 ?_
    show ((jshl (1 : Int32) (m 590 2)) ≤ (nI n) → Φ (.inl (some (.int ((cfo (PRo A h) f1s 7 n).2)))) m o ∧ 4 ≤ 4 ∧ 24 ≤ 24) ∧ (¬ (jshl (1 : Int32) (m 590 2)) ≤ (nI n) → mCal l g d k_X11_roster Φ 4 24 _ 40 k_J6_bitCount_0f7a4 false [.int (nI n)] [] [.ref 586, .int h, .ref 590, .int ((cfo (PRo A h) f1s 7 n).1), .int ((cfo (PRo A h) f1s 7 n).2), .int (nI n)] m o 4 24 1)
    rw [ar hm 590 2, hC.1.2.2.1, sh_pow _ (by omega)]
    have hf : ¬ 2 ^ nM A ≤ n := by omega
    simp (disch := omega) only [mReq_tt, nI_0a, nI_a0, nI_cl, mIn_ok, lit_add, lit_sub, add_lit, lit_le, le_lit, lit_lt, lt_lit, eq_lit, nI_add, nI_1, nI_leI, nI_ltI, nI_eq, mIn_lit, mIn_0, mIn_1, mIn_2, mIn_3, nI_l0, nI_p0, rf_22, rf_44, rf_60, rf_69, rf_391, rf_7, rf_37, rf_51, rf_230, rf_401, rf_413, rf_496, rf_513, rf_518, sB_2, sB_3, sB_4, sB_5, sB_6, sB_7, sL_2, sL_3, sL_4, sL_5, sL_6, sL_7, not_true_eq_false, not_false_eq_true, false_implies, true_implies, true_and, and_true, eq_self, true_or, or_true, Nat.le_refl, Nat.zero_add, Nat.add_zero, hf]
    have k70 : ¬ (f1s n < (cfo (PRo A h) f1s 7 n).1 ∧ PRo A h n) → mWB l g d k_X11_roster Φ 4 24 70 [.ref 586, .int h, .ref 590, .int ((cfo (PRo A h) f1s 7 n).1), .int ((cfo (PRo A h) f1s 7 n).2), .int (nI n)] [] m o 4 24 := by
      intro q
      refine mGoOn (mOk (by decide)) rfl [27] 400 ?_
      show mWB l g d k_X11_roster Φ 4 24 27 [.ref 586, .int h, .ref 590, .int ((cfo (PRo A h) f1s 7 n).1), .int ((cfo (PRo A h) f1s 7 n).2), .int ((nI n) + (1 : Int32))] [] m o 4 24
      rw [cfo_f q] at ih
      rw [nI_1]
      exact ih
    refine gCi htr (j_bitCount m (n := n) (by omega)) (by omega) ?_
    show ((cfo (PRo A h) f1s 7 n).1 ≤ f1s n → _) ∧ (¬ (cfo (PRo A h) f1s 7 n).1 ≤ f1s n → _)
    refine ⟨fun q => k70 (fun z => (fa_of_lt z.1).2.1 q), fun q => ⟨trivial, gCi htr (x_hoursWalked hQ.1 hC (csim_of hm) (by omega) _) (by omega) ?_⟩⟩
    show (¬ (h &&& ((rosW A (nI n)) ^^^ (-1 : Int32))) = 0 → mWB l g d k_X11_roster Φ 4 24 70 [.ref 586, .int h, .ref 590, .int ((cfo (PRo A h) f1s 7 n).1), .int ((cfo (PRo A h) f1s 7 n).2), .int (nI n)] [] m o 4 24) ∧ ((h &&& ((rosW A (nI n)) ^^^ (-1 : Int32))) = 0 → mCal l g d k_X11_roster Φ 4 24 _ 62 k_J6_bitCount_0f7a4 false [.int (nI n)] [] [.ref 586, .int h, .ref 590, .int ((cfo (PRo A h) f1s 7 n).1), .int ((cfo (PRo A h) f1s 7 n).2), .int (nI n)] m o 4 24 1)
    refine ⟨fun z => k70 (fun y => z y.2), fun z => gCi htr (j_bitCount m (n := n) (by omega)) (by omega) ?_⟩
    rw [cfo_t (fa_of_nle q) z] at ih
    show mWB l g d k_X11_roster Φ 4 24 70 [.ref 586, .int h, .ref 590, .int (f1s n), .int (nI n), .int (nI n)] [] m o 4 24
    refine mGoOn (mOk (by decide)) rfl [27] 400 ?_
    show mWB l g d k_X11_roster Φ 4 24 27 [.ref 586, .int h, .ref 590, .int (f1s n), .int (nI n), .int ((nI n) + (1 : Int32))] [] m o 4 24
    rw [nI_1]
    exact ih
theorem x_thief (hQ : Qr A) {m : Mm} (hm : cl m = A) (hd : 8 ≤ d) (k w : Int32) : xS l g d k_X11_thief [.ref 586, .int k, .int w] m A (qThf A k w) := by
  have hA := hQ.1.1
  have hC := hQ.2.2.2.2.1
  have h9 := hA.1.2
  refine nBx 6 rfl rfl rfl (by decide) rfl (fun htr o Φ hΦ => mGoOn (mOk (by decide)) rfl [32,47,59,106,109] 400 ?_)
  show mCal l g d k_X11_thief Φ 4 24 _ 13 k_X11_within false [.int k, .int (0 : Int32), .int (60 : Int32)] [.ref 586] [.ref 586, .int k, .int w, .ref 590, mJ, mJ, mJ, mJ, mJ] m o 0 0 1
  unfold qThf at hΦ
  have key : ∀ z : Int32, z = pI (In k 61 ∧ In w 3) → mWB l g d k_X11_thief Φ 4 24 32 [.ref 586, .int k, .int w, .ref 590, mJ, mJ, mJ, mJ, mJ] [.int z, .ref 586] m o 0 0 := by
    intro z hz
    subst hz
    refine mGoOn (mOk (by decide)) rfl [47] 400 ?_
    show True ∧ mCal l g d k_X11_thief Φ 4 24 _ 32 k_X11_needArgument false [.ref 586, .int (pI (In k 61 ∧ In w 3))] [] [.ref 586, .int k, .int w, .ref 590, mJ, mJ, mJ, mJ, mJ] m o 0 0 0
    refine ⟨trivial, cNeedA htr rfl (by omega) (by decide) (by decide) (fun h => ?_) (fun h => by
      replace h := pI_0.mp h
      rw [ifp_f (h)] at hΦ
      exact hΦ _ _ (xk_a hm (by decide)))⟩
    replace h := pI_1.mp h
    rw [ifp_t (h)] at hΦ
    refine mWB_widen (cN' := 4) (sN' := 24) ?_ (by decide) (by decide)
    refine mLoopZ (P := fun a => mWB l g d k_X11_thief Φ 4 24 47 [.ref 586, .int k, .int w, .ref 590, .int ((foT A k a).1), .int ((foT A k a).2.1), .int ((foT A k a).2.2), .int (nI a), mJ] [] m o 4 24) (N := nS A) ?_ ?_
    · refine mGoOn (mOk (by decide)) rfl [47,59] 400 ?_
      show ((m 590 0) ≤ (nI (nS A)) → (¬ w = 0 → (¬ w = (1 : Int32) → Φ (.inl (some (.int ((foT A k (nS A)).2.2)))) m o ∧ 4 ≤ 4 ∧ 24 ≤ 24) ∧ (w = (1 : Int32) → Φ (.inl (some (.int ((foT A k (nS A)).2.1)))) m o ∧ 4 ≤ 4 ∧ 24 ≤ 24)) ∧ (w = 0 → Φ (.inl (some (.int ((foT A k (nS A)).1)))) m o ∧ 4 ≤ 4 ∧ 24 ≤ 24)) ∧ (¬ (m 590 0) ≤ (nI (nS A)) → mWB l g d k_X11_thief Φ 4 24 59 [.ref 586, .int k, .int w, .ref 590, .int ((foT A k (nS A)).1), .int ((foT A k (nS A)).2.1), .int ((foT A k (nS A)).2.2), .int (nI (nS A)), .int (0 : Int32)] [] m o 4 24)
      simp (disch := omega) only [mReq_tt, nI_0a, nI_a0, nI_cl, mIn_ok, lit_add, lit_sub, add_lit, lit_le, le_lit, lit_lt, lt_lit, eq_lit, nI_add, nI_1, nI_leI, nI_ltI, nI_eq, mIn_lit, mIn_0, mIn_1, mIn_2, mIn_3, nI_l0, nI_p0, rf_22, rf_44, rf_60, rf_69, rf_391, rf_7, rf_37, rf_51, rf_230, rf_401, rf_413, rf_496, rf_513, rf_518, sB_2, sB_3, sB_4, sB_5, sB_6, sB_7, sL_2, sL_3, sL_4, sL_5, sL_6, sL_7, not_true_eq_false, not_false_eq_true, false_implies, true_implies, true_and, and_true, eq_self, true_or, or_true, Nat.le_refl, Nat.zero_add, Nat.add_zero, ar hm 590 0, hC.1.1]
      refine ⟨fun q => ⟨fun q2 => hΦ _ _ (xk_v hm (by rw [if_neg q, if_neg q2])), fun q2 => hΦ _ _ (xk_v hm (by rw [if_neg q, if_pos q2]))⟩, fun q => hΦ _ _ (xk_v hm (by rw [if_pos q]))⟩
    · intro a ha ih
      refine mGoOn (mOk (by decide)) rfl [47,59] 400 ?_
      show ((m 590 0) ≤ (nI a) → (¬ w = 0 → (¬ w = (1 : Int32) → Φ (.inl (some (.int ((foT A k a).2.2)))) m o ∧ 4 ≤ 4 ∧ 24 ≤ 24) ∧ (w = (1 : Int32) → Φ (.inl (some (.int ((foT A k a).2.1)))) m o ∧ 4 ≤ 4 ∧ 24 ≤ 24)) ∧ (w = 0 → Φ (.inl (some (.int ((foT A k a).1)))) m o ∧ 4 ≤ 4 ∧ 24 ≤ 24)) ∧ (¬ (m 590 0) ≤ (nI a) → mWB l g d k_X11_thief Φ 4 24 59 [.ref 586, .int k, .int w, .ref 590, .int ((foT A k a).1), .int ((foT A k a).2.1), .int ((foT A k a).2.2), .int (nI a), .int (0 : Int32)] [] m o 4 24)
      have hfa : ¬ nS A ≤ a := by omega
      simp (disch := omega) only [mReq_tt, nI_0a, nI_a0, nI_cl, mIn_ok, lit_add, lit_sub, add_lit, lit_le, le_lit, lit_lt, lt_lit, eq_lit, nI_add, nI_1, nI_leI, nI_ltI, nI_eq, mIn_lit, mIn_0, mIn_1, mIn_2, mIn_3, nI_l0, nI_p0, rf_22, rf_44, rf_60, rf_69, rf_391, rf_7, rf_37, rf_51, rf_230, rf_401, rf_413, rf_496, rf_513, rf_518, sB_2, sB_3, sB_4, sB_5, sB_6, sB_7, sL_2, sL_3, sL_4, sL_5, sL_6, sL_7, not_true_eq_false, not_false_eq_true, false_implies, true_implies, true_and, and_true, eq_self, true_or, or_true, Nat.le_refl, Nat.zero_add, Nat.add_zero, ar hm 590 0, hC.1.1, hfa]
      replace ih : mWB l g d k_X11_thief Φ 4 24 47 [.ref 586, .int k, .int w, .ref 590, .int ((fo (stT A k a) (nS A) (foT A k a)).1), .int ((fo (stT A k a) (nS A) (foT A k a)).2.1), .int ((fo (stT A k a) (nS A) (foT A k a)).2.2), .int (nI (a + 1)), mJ] [] m o 4 24 := ih
      generalize foT A k a = x0 at ih ⊢
      refine mLoopZ (P := fun b => mWB l g d k_X11_thief Φ 4 24 59 [.ref 586, .int k, .int w, .ref 590, .int ((fo (stT A k a) b x0).1), .int ((fo (stT A k a) b x0).2.1), .int ((fo (stT A k a) b x0).2.2), .int (nI a), .int (nI b)] [] m o 4 24) (N := nS A) ?_ ?_
      · refine mGoOn (mOk (by decide)) rfl [47,59] 400 ?_
        show ((m 590 0) ≤ (nI (nS A)) → mWB l g d k_X11_thief Φ 4 24 47 [.ref 586, .int k, .int w, .ref 590, .int ((fo (stT A k a) (nS A) x0).1), .int ((fo (stT A k a) (nS A) x0).2.1), .int ((fo (stT A k a) (nS A) x0).2.2), .int ((nI a) + (1 : Int32)), .int (nI (nS A))] [] m o 4 24) ∧ (¬ (m 590 0) ≤ (nI (nS A)) → True ∧ mCal l g d k_X11_thief Φ 4 24 _ 74 k_X1_isRest false [.ref 590, .int (nI a), .int (nI (nS A)), .int k] [] [.ref 586, .int k, .int w, .ref 590, .int ((fo (stT A k a) (nS A) x0).1), .int ((fo (stT A k a) (nS A) x0).2.1), .int ((fo (stT A k a) (nS A) x0).2.2), .int (nI a), .int (nI (nS A))] m o 4 24 1)
        simp (disch := omega) only [mReq_tt, nI_0a, nI_a0, nI_cl, mIn_ok, lit_add, lit_sub, add_lit, lit_le, le_lit, lit_lt, lt_lit, eq_lit, nI_add, nI_1, nI_leI, nI_ltI, nI_eq, mIn_lit, mIn_0, mIn_1, mIn_2, mIn_3, nI_l0, nI_p0, rf_22, rf_44, rf_60, rf_69, rf_391, rf_7, rf_37, rf_51, rf_230, rf_401, rf_413, rf_496, rf_513, rf_518, sB_2, sB_3, sB_4, sB_5, sB_6, sB_7, sL_2, sL_3, sL_4, sL_5, sL_6, sL_7, not_true_eq_false, not_false_eq_true, false_implies, true_implies, true_and, and_true, eq_self, true_or, or_true, Nat.le_refl, Nat.zero_add, Nat.add_zero, ar hm 590 0, hC.1.1]
        exact mWB_wk ih ⟨Or.inr rfl, Or.inr rfl, Or.inr rfl, Or.inr rfl, Or.inr rfl, Or.inr rfl, Or.inr rfl, Or.inr rfl, Or.inl rfl, trivial⟩
      · intro b hb ih2
        refine mGoOn (mOk (by decide)) rfl [47,59,106,109] 400 ?_
        show ((m 590 0) ≤ (nI b) → mWB l g d k_X11_thief Φ 4 24 47 [.ref 586, .int k, .int w, .ref 590, .int ((fo (stT A k a) b x0).1), .int ((fo (stT A k a) b x0).2.1), .int ((fo (stT A k a) b x0).2.2), .int ((nI a) + (1 : Int32)), .int (nI b)] [] m o 4 24) ∧ (¬ (m 590 0) ≤ (nI b) → True ∧ mCal l g d k_X11_thief Φ 4 24 _ 74 k_X1_isRest false [.ref 590, .int (nI a), .int (nI b), .int k] [] [.ref 586, .int k, .int w, .ref 590, .int ((fo (stT A k a) b x0).1), .int ((fo (stT A k a) b x0).2.1), .int ((fo (stT A k a) b x0).2.2), .int (nI a), .int (nI b)] m o 4 24 1)
        have hfb : ¬ nS A ≤ b := by omega
        simp (disch := omega) only [mReq_tt, nI_0a, nI_a0, nI_cl, mIn_ok, lit_add, lit_sub, add_lit, lit_le, le_lit, lit_lt, lt_lit, eq_lit, nI_add, nI_1, nI_leI, nI_ltI, nI_eq, mIn_lit, mIn_0, mIn_1, mIn_2, mIn_3, nI_l0, nI_p0, rf_22, rf_44, rf_60, rf_69, rf_391, rf_7, rf_37, rf_51, rf_230, rf_401, rf_413, rf_496, rf_513, rf_518, sB_2, sB_3, sB_4, sB_5, sB_6, sB_7, sL_2, sL_3, sL_4, sL_5, sL_6, sL_7, not_true_eq_false, not_false_eq_true, false_implies, true_implies, true_and, and_true, eq_self, true_or, or_true, Nat.le_refl, Nat.zero_add, Nat.add_zero, ar hm 590 0, hC.1.1, hfb]
        rw [fo_s] at ih2
        generalize fo (stT A k a) b x0 = x at ih2 ⊢
        unfold stT at ih2
        refine gCi htr (x_isRest hA hC (csim_of hm) (by omega) ha hb k) (by omega) ?_
        show ((pI (rst A k a b)) = 0 → mWB l g d k_X11_thief Φ 4 24 109 [.ref 586, .int k, .int w, .ref 590, .int x.1, .int x.2.1, .int x.2.2, .int (nI a), .int (nI b)] [] m o 4 24) ∧ (¬ (pI (rst A k a b)) = 0 → (¬ x.1 = 0 → mWB l g d k_X11_thief Φ 4 24 106 [.ref 586, .int k, .int w, .ref 590, .int x.1, .int x.2.1, .int x.2.2, .int (nI a), .int (nI b)] [] m o 4 24) ∧ (x.1 = 0 → True ∧ mCal l g d k_X11_thief Φ 4 24 _ 101 k_X1_loot false [.ref 590, .int (nI a), .int (nI b), .int k] [] [.ref 586, .int k, .int w, .ref 590, .int x.1, .int (((10 : Int32) * (nI a)) + (nI b)), .int x.2.2, .int (nI a), .int (nI b)] m o 4 24 1))
        have k106 : ∀ y : Int32 × Int32, rst A k a b → y = (if x.1 = 0 then c10 a b else x.2.1, if x.1 = 0 then stl A a b k else x.2.2) → mWB l g d k_X11_thief Φ 4 24 106 [.ref 586, .int k, .int w, .ref 590, .int x.1, .int y.1, .int y.2, .int (nI a), .int (nI b)] [] m o 4 24 := by
          intro y hr hy
          refine mGoOn (mOk (by decide)) rfl [59] 400 ?_
          show mWB l g d k_X11_thief Φ 4 24 59 [.ref 586, .int k, .int w, .ref 590, .int (x.1 + (1 : Int32)), .int y.1, .int y.2, .int (nI a), .int ((nI b) + (1 : Int32))] [] m o 4 24
          rw [ifp_t hr] at ih2
          rw [nI_1, hy]
          exact ih2
        refine ⟨fun q => ?_, fun q => ⟨fun q2 => ?_, fun q2 => ?_⟩⟩
        · refine mGoOn (mOk (by decide)) rfl [59] 400 ?_
          show mWB l g d k_X11_thief Φ 4 24 59 [.ref 586, .int k, .int w, .ref 590, .int x.1, .int x.2.1, .int x.2.2, .int (nI a), .int ((nI b) + (1 : Int32))] [] m o 4 24
          rw [ifp_f (pI_0.mp q)] at ih2
          rw [nI_1]
          exact ih2
        · exact k106 (x.2.1, x.2.2) (pI_1.mp q) (by rw [if_neg q2, if_neg q2])
        · refine ⟨trivial, gCi htr (x_loot hA hC (csim_of hm) (by omega) ha hb k) (by omega) ?_⟩
          exact k106 (c10 a b, stl A a b k) (pI_1.mp q) (by rw [if_pos q2, if_pos q2])
  have e1 : pI (0 ≤ k ∧ k ≤ 60) = pI (In k 61) := by rw [show (0 ≤ k ∧ k ≤ 60) = In k 61 from propext (in_In (n := 61) (by decide))]
  refine gCi htr (x_within m k 0 60) (by omega) ?_
  rw [e1]
  show ((pI (In k 61)) = 0 → mWB l g d k_X11_thief Φ 4 24 32 [.ref 586, .int k, .int w, .ref 590, mJ, mJ, mJ, mJ, mJ] [.int (0 : Int32), .ref 586] m o 0 0) ∧ (¬ (pI (In k 61)) = 0 → mCal l g d k_X11_thief Φ 4 24 _ 21 k_X11_isChoice false [.int w, .int (3 : Int32)] [.ref 586] [.ref 586, .int k, .int w, .ref 590, mJ, mJ, mJ, mJ, mJ] m o 0 0 1)
  refine ⟨fun q => key 0 (pI_f (fun z => pI_0.mp q z.1)).symm, fun q => gCi htr (x_isChoice m (by omega) w (n := 3) (by decide)) (by omega) ?_⟩
  show ((pI (In w 3)) = 0 → mWB l g d k_X11_thief Φ 4 24 32 [.ref 586, .int k, .int w, .ref 590, mJ, mJ, mJ, mJ, mJ] [.int (0 : Int32), .ref 586] m o 0 0) ∧ (¬ (pI (In w 3)) = 0 → mWB l g d k_X11_thief Φ 4 24 32 [.ref 586, .int k, .int w, .ref 590, mJ, mJ, mJ, mJ, mJ] [.int (1 : Int32), .ref 586] m o 0 0)
  exact ⟨fun q2 => key 0 (pI_f (fun z => pI_0.mp q2 z.2)).symm, fun q2 => key 1 (pI_t ⟨pI_1.mp q, pI_1.mp q2⟩).symm⟩
theorem x_oil (hQ : Qr A) {m : Mm} (hm : cl m = A) (hd : 8 ≤ d) (k me n : Int32) : xS l g d k_X11_oil [.ref 586, .int k, .int me, .int n] m A (qOil A k me n) := by
  have hA := hQ.1.1
  have hC := hQ.2.2.2.2.1
  have h6 := hA.2.2.1.2
  refine nBx 3 rfl rfl rfl (by decide) rfl (fun htr o Φ hΦ => mGoOn (mOk (by decide)) rfl [48,57,80] 400 ?_)
  show True ∧ mCal l g d k_X11_oil Φ 4 24 _ 13 k_X1_hasMan false [.ref 590, .int k] [.ref 586] [.ref 586, .int k, .int me, .int n, .ref 590, mJ, mJ] m o 0 0 1
  unfold qOil at hΦ
  refine ⟨trivial, gCi htr (x_hasMan hA hC (csim_of hm) k) (by omega) ?_⟩
  show True ∧ mCal l g d k_X11_oil Φ 4 24 _ 16 k_X11_needElement false [.ref 586, .int (pI (In k (nM A)))] [] [.ref 586, .int k, .int me, .int n, .ref 590, mJ, mJ] m o 0 0 0
  refine ⟨trivial, cNeedE htr rfl (by omega) (by decide) (by decide) (fun h => ?_) (fun h => by
    replace h := pI_0.mp h
    rw [ifp_f (h)] at hΦ
    exact hΦ _ _ (xk_n hm))⟩
  replace h := pI_1.mp h
  rw [ifp_t (h)] at hΦ
  obtain ⟨k, hk, rfl⟩ := h
  rw [nI_cl (by omega)] at hΦ
  have key : ∀ z : Int32, z = pI (In me (2 ^ nM A) ∧ In n 1000) → mWB l g d k_X11_oil Φ 4 24 48 [.ref 586, .int (nI k), .int me, .int n, .ref 590, mJ, mJ] [.int z, .ref 586] m o 1 6 := by
    intro z hz
    subst hz
    refine mGoOn (mOk (by decide)) rfl [57] 400 ?_
    show True ∧ mCal l g d k_X11_oil Φ 4 24 _ 48 k_X11_needArgument false [.ref 586, .int (pI (In me (2 ^ nM A) ∧ In n 1000))] [] [.ref 586, .int (nI k), .int me, .int n, .ref 590, mJ, mJ] m o 1 6 0
    refine ⟨trivial, cNeedA htr rfl (by omega) (by decide) (by decide) (fun h => ?_) (fun h => by
      replace h := pI_0.mp h
      rw [ifp_f (h)] at hΦ
      exact hΦ _ _ (xk_a hm (by decide)))⟩
    replace h := pI_1.mp h
    rw [ifp_t (h)] at hΦ
    obtain ⟨-, ⟨n, hn, rfl⟩⟩ := h
    refine mWB_widen (cN' := 4) (sN' := 24) ?_ (by decide) (by decide)
    have hgv : ∀ b, b < 1000 → gvn A me (nI b) = nI (gN A me b (nM A)) := fun b hb => gvn_nI hQ.1 me hb (nM A) (Nat.le_refl _)
    have hgb : ∀ b, b < 100 → gN A me b (nM A) < 2 ^ 31 := fun b hb => by
      have := gN_le A me b (nM A)
      have h2 : b * nM A ≤ b * 6 := Nat.mul_le_mul_left _ h6
      omega
    have hfr : frs (QOl A me (nI n)) 24 = bo (fun b => n < gN A me (b + 1) (nM A)) 24 := by
      rw [bo_frs (Q := fun b => n < gN A me (b + 1) (nM A)) (fun b hb => Nat.lt_of_lt_of_le hb (gN_mono A me (b + 1) (nM A)))]
      have : ∀ N, N ≤ 24 → frs (QOl A me (nI n)) N = frs (fun b => n < gN A me (b + 1) (nM A)) N := by
        intro N hN
        by_cases hex : ∃ b, b < N ∧ n < gN A me (b + 1) (nM A)
        · obtain ⟨b, ⟨hb1, hb2⟩, hm⟩ := pk_least (fun b => b < N ∧ n < gN A me (b + 1) (nM A)) hex
          have e : ∀ j, j < 24 → (QOl A me (nI n) j ↔ n < gN A me (j + 1) (nM A)) := fun j hj => by
            unfold QOl
            rw [hgv (j + 1) (by omega), nI_ltI (by omega) (hgb _ (by omega))]
          rw [frs_yes (fun j hj z => hm j hj ⟨by omega, (e j (by omega)).mp z⟩) ((e b (by omega)).mpr hb2) hb1, frs_yes (fun j hj z => hm j hj ⟨by omega, z⟩) hb2 hb1]
        · rw [frs_no (fun j hj z => hex ⟨j, hj, by
            unfold QOl at z
            rwa [hgv (j + 1) (by omega), nI_ltI (by omega) (hgb _ (by omega))] at z⟩), frs_no (fun j hj z => hex ⟨j, hj, z⟩)]
      exact this 24 (Nat.le_refl _)
    rw [hfr] at hΦ
    have hbo : ∀ N, bo (fun b => n < gN A me (b + 1) (nM A)) N ≤ N := by
      intro N
      induction N with
      | zero => exact Nat.le_refl _
      | succ N ih =>
        show ifp _ _ _ ≤ _
        by_cases q : n < gN A me (N + 1) (nM A)
        · rw [ifp_t q]; omega
        · rw [ifp_f q]; exact Nat.le_refl _
    generalize hQ2 : (fun b => n < gN A me (b + 1) (nM A)) = Q at hΦ hbo
    refine mLoopZ (P := fun b => mWB l g d k_X11_oil Φ 4 24 57 [.ref 586, .int (nI k), .int me, .int (nI n), .ref 590, .int (nI (bo Q b)), .int (nI (b + 1))] [] m o 4 24) (N := 24) ?_ ?_
    · refine mGoOn (mOk (by decide)) rfl [57,80] 400 ?_
      show ((24 : Int32) < (nI (24 + 1)) → mCal l g d k_X11_oil Φ 4 24 _ 88 k_X11_hasBit false [.int me, .int (nI k)] [] [.ref 586, .int (nI k), .int me, .int (nI n), .ref 590, .int (nI (bo Q 24)), .int (nI (24 + 1))] m o 4 24 1) ∧ (¬ (24 : Int32) < (nI (24 + 1)) → True ∧ mCal l g d k_X11_oil Φ 4 24 _ 69 k_X1_oilGiven false [.ref 590, .int me, .int (nI (24 + 1))] [] [.ref 586, .int (nI k), .int me, .int (nI n), .ref 590, .int (nI (bo Q 24)), .int (nI (24 + 1))] m o 4 24 1)
      have hf : 24 < 24 + 1 := by omega
      simp (disch := omega) only [mReq_tt, nI_0a, nI_a0, nI_cl, mIn_ok, lit_add, lit_sub, add_lit, lit_le, le_lit, lit_lt, lt_lit, eq_lit, nI_add, nI_1, nI_leI, nI_ltI, nI_eq, mIn_lit, mIn_0, mIn_1, mIn_2, mIn_3, nI_l0, nI_p0, rf_22, rf_44, rf_60, rf_69, rf_391, rf_7, rf_37, rf_51, rf_230, rf_401, rf_413, rf_496, rf_513, rf_518, sB_2, sB_3, sB_4, sB_5, sB_6, sB_7, sL_2, sL_3, sL_4, sL_5, sL_6, sL_7, not_true_eq_false, not_false_eq_true, false_implies, true_implies, true_and, and_true, eq_self, true_or, or_true, Nat.le_refl, Nat.zero_add, Nat.add_zero, hf]
      refine gCi htr (x_hasBit m me (by omega)) (by omega) ?_
      show ((pI (hB me k)) = 0 → Φ (.inl (some (.int (0 : Int32)))) m o ∧ 4 ≤ 4 ∧ 24 ≤ 24) ∧ (¬ (pI (hB me k)) = 0 → mCal l g d k_X11_oil Φ 4 24 _ 100 k_X11_at false [.ref 597, .int (nI k)] [] [.ref 586, .int (nI k), .int me, .int (nI n), .ref 590, .int (nI (bo Q 24)), .int (nI 25)] m o 4 24 1)
      refine ⟨fun q => ?_, fun q => gCi htr (x_at m (a := 597) (n := 6) rfl rfl (by decide) (by omega)) (by omega) ?_⟩
      · rw [ifp_f (pI_0.mp q)] at hΦ
        exact e4 (hΦ _ _ (xk_v hm rfl))
      · rw [ar hm 597 k, (hC.2.2.2.2.1 k hk).2.2]
        rw [ifp_t (pI_1.mp q)] at hΦ
        exact ⟨by omega, by decide, by decide, by decide, e4 (hΦ _ _ (xk_v hm rfl))⟩
    · intro b hb ih
      refine mGoOn (mOk (by decide)) rfl [57,80] 400 ?_
      show ((24 : Int32) < (nI (b + 1)) → mCal l g d k_X11_oil Φ 4 24 _ 88 k_X11_hasBit false [.int me, .int (nI k)] [] [.ref 586, .int (nI k), .int me, .int (nI n), .ref 590, .int (nI (bo Q b)), .int (nI (b + 1))] m o 4 24 1) ∧ (¬ (24 : Int32) < (nI (b + 1)) → True ∧ mCal l g d k_X11_oil Φ 4 24 _ 69 k_X1_oilGiven false [.ref 590, .int me, .int (nI (b + 1))] [] [.ref 586, .int (nI k), .int me, .int (nI n), .ref 590, .int (nI (bo Q b)), .int (nI (b + 1))] m o 4 24 1)
      have hf : ¬ 24 < b + 1 := by omega
      simp (disch := omega) only [mReq_tt, nI_0a, nI_a0, nI_cl, mIn_ok, lit_add, lit_sub, add_lit, lit_le, le_lit, lit_lt, lt_lit, eq_lit, nI_add, nI_1, nI_leI, nI_ltI, nI_eq, mIn_lit, mIn_0, mIn_1, mIn_2, mIn_3, nI_l0, nI_p0, rf_22, rf_44, rf_60, rf_69, rf_391, rf_7, rf_37, rf_51, rf_230, rf_401, rf_413, rf_496, rf_513, rf_518, sB_2, sB_3, sB_4, sB_5, sB_6, sB_7, sL_2, sL_3, sL_4, sL_5, sL_6, sL_7, not_true_eq_false, not_false_eq_true, false_implies, true_implies, true_and, and_true, eq_self, true_or, or_true, Nat.le_refl, Nat.zero_add, Nat.add_zero, hf]
      refine gCi htr (x_oilGiven hA hC (csim_of hm) (by omega) me _) (by omega) ?_
      rw [hgv (b + 1) (by omega)]
      show ((nI n) < (nI (gN A me (b + 1) (nM A))) → mWB l g d k_X11_oil Φ 4 24 80 [.ref 586, .int (nI k), .int me, .int (nI n), .ref 590, .int (nI (bo Q b)), .int (nI (b + 1))] [] m o 4 24) ∧ (¬ (nI n) < (nI (gN A me (b + 1) (nM A))) → mWB l g d k_X11_oil Φ 4 24 80 [.ref 586, .int (nI k), .int me, .int (nI n), .ref 590, .int (nI (b + 1)), .int (nI (b + 1))] [] m o 4 24)
      have hQb : Q b ↔ n < gN A me (b + 1) (nM A) := by rw [← hQ2]
      have k80 : ∀ z, z = ifp (Q b) (bo Q b) (b + 1) → mWB l g d k_X11_oil Φ 4 24 80 [.ref 586, .int (nI k), .int me, .int (nI n), .ref 590, .int (nI z), .int (nI (b + 1))] [] m o 4 24 := by
        intro z hz
        refine mGoOn (mOk (by decide)) rfl [57] 400 ?_
        show mWB l g d k_X11_oil Φ 4 24 57 [.ref 586, .int (nI k), .int me, .int (nI n), .ref 590, .int (nI z), .int ((nI (b + 1)) + (1 : Int32))] [] m o 4 24
        rw [nI_1, hz]
        exact ih
      refine ⟨fun q => k80 (bo Q b) ?_, fun q => k80 (b + 1) ?_⟩
      · rw [nI_ltI (by omega) (hgb _ (by omega))] at q
        rw [ifp_t (hQb.mpr q)]
      · rw [nI_ltI (by omega) (hgb _ (by omega))] at q
        rw [ifp_f (fun y => q (hQb.mp y))]
  have e1 : pI (0 ≤ n ∧ n ≤ 999) = pI (In n 1000) := by rw [show (0 ≤ n ∧ n ≤ 999) = In n 1000 from propext (in_In (n := 1000) (by decide))]
  show mCal l g d k_X11_oil Φ 4 24 _ 26 k_X11_isOf false [.int me, .int (m 590 2)] [.ref 586] [.ref 586, .int (nI k), .int me, .int n, .ref 590, mJ, mJ] m o 1 6 1
  rw [ar hm 590 2, hC.1.2.2.1]
  refine gCi htr (x_isOf m me (n := nM A) (by omega)) (by omega) ?_
  show ((pI (In me (2 ^ nM A))) = 0 → mWB l g d k_X11_oil Φ 4 24 48 [.ref 586, .int (nI k), .int me, .int n, .ref 590, mJ, mJ] [.int (0 : Int32), .ref 586] m o 1 6) ∧ (¬ (pI (In me (2 ^ nM A))) = 0 → mCal l g d k_X11_oil Φ 4 24 _ 37 k_X11_within false [.int n, .int (0 : Int32), .int (999 : Int32)] [.ref 586] [.ref 586, .int (nI k), .int me, .int n, .ref 590, mJ, mJ] m o 1 6 1)
  refine ⟨fun q => key 0 (pI_f (fun z => pI_0.mp q z.1)).symm, fun q => gCi htr (x_within m n 0 999) (by omega) ?_⟩
  rw [e1]
  show ((pI (In n 1000)) = 0 → mWB l g d k_X11_oil Φ 4 24 48 [.ref 586, .int (nI k), .int me, .int n, .ref 590, mJ, mJ] [.int (0 : Int32), .ref 586] m o 1 6) ∧ (¬ (pI (In n 1000)) = 0 → mWB l g d k_X11_oil Φ 4 24 48 [.ref 586, .int (nI k), .int me, .int n, .ref 590, mJ, mJ] [.int (1 : Int32), .ref 586] m o 1 6)
  exact ⟨fun q2 => key 0 (pI_f (fun z => pI_0.mp q2 z.2)).symm, fun q2 => key 1 (pI_t ⟨pI_1.mp q, pI_1.mp q2⟩).symm⟩
end X11
