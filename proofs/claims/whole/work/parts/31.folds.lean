set_option maxRecDepth 100000
/-! THE REFERENCE'S QUERIES: folds -/
def fo {σ : Type} (st : Nat → σ → σ) : Nat → σ → σ
  | 0, s => s
  | n + 1, s => st n (fo st n s)
theorem fo_s {σ : Type} (st : Nat → σ → σ) (n : Nat) (s : σ) : fo st (n + 1) s = st n (fo st n s) := rfl
theorem fo_cong {σ : Type} {st st2 : Nat → σ → σ} : ∀ {n : Nat} {s : σ}, (∀ k, k < n → ∀ s, st k s = st2 k s) → fo st n s = fo st2 n s
  | 0, _, _ => rfl
  | n + 1, s, h => by rw [fo_s, fo_s, fo_cong (fun k hk => h k (by omega)), h n (by omega)]
theorem fo_id {σ : Type} {st : Nat → σ → σ} : ∀ {n : Nat} {s : σ}, (∀ k, k < n → ∀ s, st k s = s) → fo st n s = s
  | 0, _, _ => rfl
  | n + 1, s, h => by rw [fo_s, fo_id (fun k hk => h k (by omega)), h n (by omega)]
/-- the first at which f is most, and that most; only above 0 -/
def amx (f : Nat → Int32) (n : Nat) : Int32 × Int32 := fo (fun k s => if s.2 < f k then (nI k, f k) else s) n (-1, 0)
theorem amx_t {f : Nat → Int32} {n : Nat} (h : (amx f n).2 < f n) : amx f (n + 1) = (nI n, f n) := if_pos h
theorem amx_f {f : Nat → Int32} {n : Nat} (h : ¬ (amx f n).2 < f n) : amx f (n + 1) = amx f n := if_neg h
def vMx (f : Nat → Int32) (n : Nat) (w : Int32) : Int32 := if w = 0 ∨ (amx f n).1 = -1 then (amx f n).1 else (amx f n).2
noncomputable def qBus (A : Mm) (w : Int32) : Oc := ifp (In w 2) (0, 0, vMx (fun k => A 494 (6 + k)) (nM A) w) (1, 1, 0)
noncomputable def dpF (A : Mm) : Nat → Int32 := fun s => nI (cnt (fun p => A (61 + p) 0 = nI s ∧ A 494 (27 + p) = 0) (nP A))
noncomputable def qDep (A : Mm) (w : Int32) : Oc := ifp (In w 2) (0, 0, vMx (dpF A) (nS A) w) (1, 1, 0)
/-- how many hits, and the first -/
noncomputable def st2 (Q : Nat → Nat → Prop) (c : Nat → Nat → Int32) (a b : Nat) (s : Int32 × Int32) : Int32 × Int32 := ifp (Q a b) (s.1 + 1, if s.1 = 0 then c a b else s.2) s
noncomputable def fo2 (Q : Nat → Nat → Prop) (c : Nat → Nat → Int32) (N K : Nat) (s : Int32 × Int32) : Int32 × Int32 := fo (fun a s => fo (st2 Q c a) N s) K s
noncomputable def hsN (A : Mm) (a : Nat) : Int32 := sayN A a (A 494 a).toNatClampNeg (A 494 35)
def agQ (A : Mm) (a b : Nat) : Prop := a < b ∧ hsN A a = hsN A b
def c10 (a b : Nat) : Int32 := 10 * nI a + nI b
noncomputable def qAgr (A : Mm) (w : Int32) : Oc := ifp (In w 2) (0, 0, let s := fo2 (agQ A) c10 (nM A) (nM A) (0, -1); if w = 0 then s.1 else s.2) (1, 1, 0)
/-- lines of the book -/
def nB (A : Mm) : Nat := (A 0 35).toNatClampNeg
def BkOk (A : Mm) : Prop := A 0 35 = nI (nB A) ∧ nB A ≤ 9 ∧ (∀ t, t < nB A → In (A (392 + t) 0) (nS A) ∧ In (A (392 + t) 1) 24) ∧ ∀ t u, t < u → u < nB A → A (392 + t) 0 ≠ A (392 + u) 0
def clN (A : Mm) (k : Nat) (h : Int32) (t : Nat) : Prop := ¬ sayN A k (A (392 + t) 0).toNatClampNeg h = A (392 + t) 1
def isC (A : Mm) (k : Nat) (h : Int32) : Prop := ∀ t, t < nB A → ¬ clN A k h t
def isT (A : Mm) (s : Int32) : Prop := ∃ t, t < nB A ∧ A (392 + t) 0 = s
section R15
variable {l : Launch} {g : mG} {d : Nat} {A : Mm}
theorem r_busiest (hA : CtB A) {m : Mm} (hm : cl m = A) (hd : 3 ≤ d) (w : Int32) : mHi l g d k_X12_busiest [.ref 0, .int w] m (rO A (qBus A w)) := by
  have hN2 := hA.2.2.1
  refine nBi 3 rfl rfl rfl (by decide) rfl (fun htr o Φ hΦ => mGoOn (mOk (by decide)) rfl [37] 400 ?_)
  show mCal l g d k_X12_busiest Φ 0 0 _ 9 k_X12_in false [.int w, .int (0 : Int32), .int (1 : Int32)] [.ref 0] [.ref 0, .int w, mJ, mJ, mJ] (mset m 0 0 (0 : Int32)) o 0 0 1
  have hC := Cn_0 hm
  generalize mset m 0 0 (0 : Int32) = M at hC ⊢
  clear hm
  obtain ⟨hM, hth⟩ := hC
  have hC : Cn A M := ⟨hM, hth⟩
  unfold qBus at hΦ
  refine fCi htr (r_inB (n := 2) (by omega) rfl) (by omega) ?_
  show (¬ (pI (In w 2)) = 0 → True ∧ mCal l g d k_X12_busiest Φ 0 0 _ 22 k_X12_bad false [.ref 0, .int (0 : Int32), .int (1 : Int32), .int (1 : Int32)] [] [.ref 0, .int w, mJ, mJ, mJ] M o 0 0 1) ∧ ((pI (In w 2)) = 0 → True ∧ mCal l g d k_X12_busiest Φ 0 0 _ 22 k_X12_bad false [.ref 0, .int (1 : Int32), .int (1 : Int32), .int (1 : Int32)] [] [.ref 0, .int w, mJ, mJ, mJ] M o 0 0 1)
  refine and_sw (fun h1 => ?_) (fun h1 => ?_)
  · replace h1 := pI_0.mp h1
    refine ⟨trivial, fCi htr (r_bad1 hth (t := 1) (j := 1) (by decide) (by decide)) (by omega) ?_⟩
    show ((1 : Int32) = 0 → mWB l g d k_X12_busiest Φ 0 0 37 [.ref 0, .int w, .int (-1 : Int32), .int (0 : Int32), .int (0 : Int32)] [] (mset (mset M 0 0 1) 2 1 (M 2 1 + 1)) o 0 0) ∧ (¬ (1 : Int32) = 0 → Φ (.inl (some (.int (0 : Int32)))) (mset (mset M 0 0 1) 2 1 (M 2 1 + 1)) o ∧ 0 ≤ 0 ∧ 0 ≤ 0)
    rw [ifp_f (h1)] at hΦ
    first | exact br1a (eR (hΦ _ _ (rO_t hM (by decide) (by decide)))) | exact br1b (eR (hΦ _ _ (rO_t hM (by decide) (by decide))))
  replace h1 := pI_1.mp h1
  refine ⟨trivial, fCi htr (r_bad0 hth _ _) (by omega) ?_⟩
  show ((0 : Int32) = 0 → mWB l g d k_X12_busiest Φ 0 0 37 [.ref 0, .int w, .int (-1 : Int32), .int (0 : Int32), .int (0 : Int32)] [] M o 0 0) ∧ (¬ (0 : Int32) = 0 → Φ (.inl (some (.int (0 : Int32)))) M o ∧ 0 ≤ 0 ∧ 0 ≤ 0)
  rw [ifp_t (h1)] at hΦ
  first | refine br0a ?_ | refine br0b ?_
  refine mLoopZ (P := fun k => mWB l g d k_X12_busiest Φ 0 0 37 [.ref 0, .int w, .int ((amx (fun k => A 494 (6 + k)) k).1), .int ((amx (fun k => A 494 (6 + k)) k).2), .int (nI k)] [] M o 0 0) (N := nM A) (mGoOn (mOk (by decide)) rfl [37] 400 ?_) (fun k hi ih => mGoOn (mOk (by decide)) rfl [37] 400 ?_)
  · show ((M 4 2) ≤ (nI (nM A)) → (w = 0 → Φ (.inl (some (.int ((amx (fun k => A 494 (6 + k)) (nM A)).1)))) M o ∧ 0 ≤ 0 ∧ 0 ≤ 0) ∧ (¬ w = 0 → (¬ ((amx (fun k => A 494 (6 + k)) (nM A)).1) = (-1 : Int32) → Φ (.inl (some (.int ((amx (fun k => A 494 (6 + k)) (nM A)).2)))) M o ∧ 0 ≤ 0 ∧ 0 ≤ 0) ∧ (((amx (fun k => A 494 (6 + k)) (nM A)).1) = (-1 : Int32) → Φ (.inl (some (.int ((amx (fun k => A 494 (6 + k)) (nM A)).1)))) M o ∧ 0 ≤ 0 ∧ 0 ≤ 0))) ∧ (¬ (M 4 2) ≤ (nI (nM A)) → mReq (mInB ((6 : Int32) + (nI (nM A))) 37) ((((amx (fun k => A 494 (6 + k)) (nM A)).2) < (M 494 (((6 : Int32) + (nI (nM A))).toNatClampNeg)) → mReq (mInB ((6 : Int32) + (nI (nM A))) 37) (mWB l g d k_X12_busiest Φ 0 0 37 [.ref 0, .int w, .int (nI (nM A)), .int (M 494 (((6 : Int32) + (nI (nM A))).toNatClampNeg)), .int ((nI (nM A)) + (1 : Int32))] [] M o 0 0)) ∧ (¬ ((amx (fun k => A 494 (6 + k)) (nM A)).2) < (M 494 (((6 : Int32) + (nI (nM A))).toNatClampNeg)) → mWB l g d k_X12_busiest Φ 0 0 37 [.ref 0, .int w, .int ((amx (fun k => A 494 (6 + k)) (nM A)).1), .int ((amx (fun k => A 494 (6 + k)) (nM A)).2), .int ((nI (nM A)) + (1 : Int32))] [] M o 0 0)))
    simp (disch := omega) only [mReq_tt, nI_0a, nI_a0, nI_cl, mIn_ok, lit_add, lit_sub, add_lit, lit_le, le_lit, lit_lt, lt_lit, eq_lit, nI_add, nI_1, nI_leI, nI_ltI, nI_eq, mIn_lit, mIn_0, mIn_1, mIn_2, mIn_3, nI_l0, nI_p0, rf_22, rf_44, rf_60, rf_69, rf_391, rf_7, rf_37, rf_51, rf_230, rf_401, rf_413, rf_496, rf_513, rf_518, sB_2, sB_3, sB_4, sB_5, sB_6, sB_7, sL_2, sL_3, sL_4, sL_5, sL_6, sL_7, not_true_eq_false, not_false_eq_true, false_implies, true_implies, true_and, and_true, eq_self, true_or, or_true, Nat.le_refl, Nat.zero_add, Nat.add_zero, clA hM, hN2.1]
    unfold vMx at hΦ
    refine ⟨fun q => ?_, fun q => ⟨fun z => ?_, fun z => ?_⟩⟩
    · rw [if_pos (Or.inl q)] at hΦ
      exact hΦ _ _ (rO_k hC rfl)
    · rw [if_neg (fun y => y.elim q z)] at hΦ
      exact hΦ _ _ (rO_k hC rfl)
    · rw [if_pos (Or.inr z)] at hΦ
      exact hΦ _ _ (rO_k hC rfl)
  show ((M 4 2) ≤ (nI k) → (w = 0 → Φ (.inl (some (.int ((amx (fun k => A 494 (6 + k)) k).1)))) M o ∧ 0 ≤ 0 ∧ 0 ≤ 0) ∧ (¬ w = 0 → (¬ ((amx (fun k => A 494 (6 + k)) k).1) = (-1 : Int32) → Φ (.inl (some (.int ((amx (fun k => A 494 (6 + k)) k).2)))) M o ∧ 0 ≤ 0 ∧ 0 ≤ 0) ∧ (((amx (fun k => A 494 (6 + k)) k).1) = (-1 : Int32) → Φ (.inl (some (.int ((amx (fun k => A 494 (6 + k)) k).1)))) M o ∧ 0 ≤ 0 ∧ 0 ≤ 0))) ∧ (¬ (M 4 2) ≤ (nI k) → mReq (mInB ((6 : Int32) + (nI k)) 37) ((((amx (fun k => A 494 (6 + k)) k).2) < (M 494 (((6 : Int32) + (nI k)).toNatClampNeg)) → mReq (mInB ((6 : Int32) + (nI k)) 37) (mWB l g d k_X12_busiest Φ 0 0 37 [.ref 0, .int w, .int (nI k), .int (M 494 (((6 : Int32) + (nI k)).toNatClampNeg)), .int ((nI k) + (1 : Int32))] [] M o 0 0)) ∧ (¬ ((amx (fun k => A 494 (6 + k)) k).2) < (M 494 (((6 : Int32) + (nI k)).toNatClampNeg)) → mWB l g d k_X12_busiest Φ 0 0 37 [.ref 0, .int w, .int ((amx (fun k => A 494 (6 + k)) k).1), .int ((amx (fun k => A 494 (6 + k)) k).2), .int ((nI k) + (1 : Int32))] [] M o 0 0)))
  have hf : ¬ nM A ≤ k := by omega
  simp (disch := omega) only [mReq_tt, nI_0a, nI_a0, nI_cl, mIn_ok, lit_add, lit_sub, add_lit, lit_le, le_lit, lit_lt, lt_lit, eq_lit, nI_add, nI_1, nI_leI, nI_ltI, nI_eq, mIn_lit, mIn_0, mIn_1, mIn_2, mIn_3, nI_l0, nI_p0, rf_22, rf_44, rf_60, rf_69, rf_391, rf_7, rf_37, rf_51, rf_230, rf_401, rf_413, rf_496, rf_513, rf_518, sB_2, sB_3, sB_4, sB_5, sB_6, sB_7, sL_2, sL_3, sL_4, sL_5, sL_6, sL_7, not_true_eq_false, not_false_eq_true, false_implies, true_implies, true_and, and_true, eq_self, true_or, or_true, Nat.le_refl, Nat.zero_add, Nat.add_zero, clA hM, hN2.1, hf]
  exact ⟨fun h => by rw [amx_t h] at ih; exact ih, fun h => by rw [amx_f h] at ih; exact ih⟩
theorem r_deepest (hA : CtB A) {m : Mm} (hm : cl m = A) (hd : 3 ≤ d) (w : Int32) : mHi l g d k_X12_deepest [.ref 0, .int w] m (rO A (qDep A w)) := by
  have hN := hA.1
  have hN3 := hA.2.2.2
  refine nBi 5 rfl rfl rfl (by decide) rfl (fun htr o Φ hΦ => mGoOn (mOk (by decide)) rfl [37,54] 400 ?_)
  show mCal l g d k_X12_deepest Φ 0 0 _ 9 k_X12_in false [.int w, .int (0 : Int32), .int (1 : Int32)] [.ref 0] [.ref 0, .int w, mJ, mJ, mJ, mJ, mJ] (mset m 0 0 (0 : Int32)) o 0 0 1
  have hC := Cn_0 hm
  generalize mset m 0 0 (0 : Int32) = M at hC ⊢
  clear hm
  obtain ⟨hM, hth⟩ := hC
  have hC : Cn A M := ⟨hM, hth⟩
  unfold qDep at hΦ
  refine fCi htr (r_inB (n := 2) (by omega) rfl) (by omega) ?_
  show (¬ (pI (In w 2)) = 0 → True ∧ mCal l g d k_X12_deepest Φ 0 0 _ 22 k_X12_bad false [.ref 0, .int (0 : Int32), .int (1 : Int32), .int (1 : Int32)] [] [.ref 0, .int w, mJ, mJ, mJ, mJ, mJ] M o 0 0 1) ∧ ((pI (In w 2)) = 0 → True ∧ mCal l g d k_X12_deepest Φ 0 0 _ 22 k_X12_bad false [.ref 0, .int (1 : Int32), .int (1 : Int32), .int (1 : Int32)] [] [.ref 0, .int w, mJ, mJ, mJ, mJ, mJ] M o 0 0 1)
  refine and_sw (fun h1 => ?_) (fun h1 => ?_)
  · replace h1 := pI_0.mp h1
    refine ⟨trivial, fCi htr (r_bad1 hth (t := 1) (j := 1) (by decide) (by decide)) (by omega) ?_⟩
    show ((1 : Int32) = 0 → mWB l g d k_X12_deepest Φ 0 0 37 [.ref 0, .int w, .int (-1 : Int32), .int (0 : Int32), .int (0 : Int32), mJ, mJ] [] (mset (mset M 0 0 1) 2 1 (M 2 1 + 1)) o 0 0) ∧ (¬ (1 : Int32) = 0 → Φ (.inl (some (.int (0 : Int32)))) (mset (mset M 0 0 1) 2 1 (M 2 1 + 1)) o ∧ 0 ≤ 0 ∧ 0 ≤ 0)
    rw [ifp_f (h1)] at hΦ
    first | exact br1a (eR (hΦ _ _ (rO_t hM (by decide) (by decide)))) | exact br1b (eR (hΦ _ _ (rO_t hM (by decide) (by decide))))
  replace h1 := pI_1.mp h1
  refine ⟨trivial, fCi htr (r_bad0 hth _ _) (by omega) ?_⟩
  show ((0 : Int32) = 0 → mWB l g d k_X12_deepest Φ 0 0 37 [.ref 0, .int w, .int (-1 : Int32), .int (0 : Int32), .int (0 : Int32), mJ, mJ] [] M o 0 0) ∧ (¬ (0 : Int32) = 0 → Φ (.inl (some (.int (0 : Int32)))) M o ∧ 0 ≤ 0 ∧ 0 ≤ 0)
  rw [ifp_t (h1)] at hΦ
  first | refine br0a ?_ | refine br0b ?_
  refine mLoopZ (P := fun s => mWB l g d k_X12_deepest Φ 0 0 37 [.ref 0, .int w, .int ((amx (dpF A) s).1), .int ((amx (dpF A) s).2), .int (nI s), mJ, mJ] [] M o 0 0) (N := nS A) (mGoOn (mOk (by decide)) rfl [37,54] 400 ?_) (fun s hi ih => mGoOn (mOk (by decide)) rfl [37,54] 400 ?_)
  · show ((M 4 0) ≤ (nI (nS A)) → (w = 0 → Φ (.inl (some (.int ((amx (dpF A) (nS A)).1)))) M o ∧ 0 ≤ 0 ∧ 0 ≤ 0) ∧ (¬ w = 0 → (¬ ((amx (dpF A) (nS A)).1) = (-1 : Int32) → Φ (.inl (some (.int ((amx (dpF A) (nS A)).2)))) M o ∧ 0 ≤ 0 ∧ 0 ≤ 0) ∧ (((amx (dpF A) (nS A)).1) = (-1 : Int32) → Φ (.inl (some (.int ((amx (dpF A) (nS A)).1)))) M o ∧ 0 ≤ 0 ∧ 0 ≤ 0))) ∧ (¬ (M 4 0) ≤ (nI (nS A)) → mWB l g d k_X12_deepest Φ 0 0 54 [.ref 0, .int w, .int ((amx (dpF A) (nS A)).1), .int ((amx (dpF A) (nS A)).2), .int (nI (nS A)), .int (0 : Int32), .int (0 : Int32)] [] M o 0 0)
    simp (disch := omega) only [mReq_tt, nI_0a, nI_a0, nI_cl, mIn_ok, lit_add, lit_sub, add_lit, lit_le, le_lit, lit_lt, lt_lit, eq_lit, nI_add, nI_1, nI_leI, nI_ltI, nI_eq, mIn_lit, mIn_0, mIn_1, mIn_2, mIn_3, nI_l0, nI_p0, rf_22, rf_44, rf_60, rf_69, rf_391, rf_7, rf_37, rf_51, rf_230, rf_401, rf_413, rf_496, rf_513, rf_518, sB_2, sB_3, sB_4, sB_5, sB_6, sB_7, sL_2, sL_3, sL_4, sL_5, sL_6, sL_7, not_true_eq_false, not_false_eq_true, false_implies, true_implies, true_and, and_true, eq_self, true_or, or_true, Nat.le_refl, Nat.zero_add, Nat.add_zero, clA hM, hN.1]
    unfold vMx at hΦ
    refine ⟨fun q => ?_, fun q => ⟨fun z => ?_, fun z => ?_⟩⟩
    · rw [if_pos (Or.inl q)] at hΦ
      exact hΦ _ _ (rO_k hC rfl)
    · rw [if_neg (fun y => y.elim q z)] at hΦ
      exact hΦ _ _ (rO_k hC rfl)
    · rw [if_pos (Or.inr z)] at hΦ
      exact hΦ _ _ (rO_k hC rfl)
  show ((M 4 0) ≤ (nI s) → (w = 0 → Φ (.inl (some (.int ((amx (dpF A) s).1)))) M o ∧ 0 ≤ 0 ∧ 0 ≤ 0) ∧ (¬ w = 0 → (¬ ((amx (dpF A) s).1) = (-1 : Int32) → Φ (.inl (some (.int ((amx (dpF A) s).2)))) M o ∧ 0 ≤ 0 ∧ 0 ≤ 0) ∧ (((amx (dpF A) s).1) = (-1 : Int32) → Φ (.inl (some (.int ((amx (dpF A) s).1)))) M o ∧ 0 ≤ 0 ∧ 0 ≤ 0))) ∧ (¬ (M 4 0) ≤ (nI s) → mWB l g d k_X12_deepest Φ 0 0 54 [.ref 0, .int w, .int ((amx (dpF A) s).1), .int ((amx (dpF A) s).2), .int (nI s), .int (0 : Int32), .int (0 : Int32)] [] M o 0 0)
  have hf : ¬ nS A ≤ s := by omega
  simp (disch := omega) only [mReq_tt, nI_0a, nI_a0, nI_cl, mIn_ok, lit_add, lit_sub, add_lit, lit_le, le_lit, lit_lt, lt_lit, eq_lit, nI_add, nI_1, nI_leI, nI_ltI, nI_eq, mIn_lit, mIn_0, mIn_1, mIn_2, mIn_3, nI_l0, nI_p0, rf_22, rf_44, rf_60, rf_69, rf_391, rf_7, rf_37, rf_51, rf_230, rf_401, rf_413, rf_496, rf_513, rf_518, sB_2, sB_3, sB_4, sB_5, sB_6, sB_7, sL_2, sL_3, sL_4, sL_5, sL_6, sL_7, not_true_eq_false, not_false_eq_true, false_implies, true_implies, true_and, and_true, eq_self, true_or, or_true, Nat.le_refl, Nat.zero_add, Nat.add_zero, clA hM, hN.1, hf]
  refine mLoopZ (P := fun p => mWB l g d k_X12_deepest Φ 0 0 54 [.ref 0, .int w, .int ((amx (dpF A) s).1), .int ((amx (dpF A) s).2), .int (nI s), .int (nI (cnt (fun p => A (61 + p) 0 = nI s ∧ A 494 (27 + p) = 0) p)), .int (nI p)] [] M o 0 0) (N := nP A) (mGoOn (mOk (by decide)) rfl [37,54] 400 ?_) (fun p hi ih => mGoOn (mOk (by decide)) rfl [37,54] 400 ?_)
  · show ((M 4 3) ≤ (nI (nP A)) → (((amx (dpF A) s).2) < (nI (cnt (fun p => A (61 + p) 0 = nI s ∧ A 494 (27 + p) = 0) (nP A))) → mWB l g d k_X12_deepest Φ 0 0 37 [.ref 0, .int w, .int (nI s), .int (nI (cnt (fun p => A (61 + p) 0 = nI s ∧ A 494 (27 + p) = 0) (nP A))), .int ((nI s) + (1 : Int32)), .int (nI (cnt (fun p => A (61 + p) 0 = nI s ∧ A 494 (27 + p) = 0) (nP A))), .int (nI (nP A))] [] M o 0 0) ∧ (¬ ((amx (dpF A) s).2) < (nI (cnt (fun p => A (61 + p) 0 = nI s ∧ A 494 (27 + p) = 0) (nP A))) → mWB l g d k_X12_deepest Φ 0 0 37 [.ref 0, .int w, .int ((amx (dpF A) s).1), .int ((amx (dpF A) s).2), .int ((nI s) + (1 : Int32)), .int (nI (cnt (fun p => A (61 + p) 0 = nI s ∧ A 494 (27 + p) = 0) (nP A))), .int (nI (nP A))] [] M o 0 0)) ∧ (¬ (M 4 3) ≤ (nI (nP A)) → mReq (mInB (nI (nP A)) 8) (mReq (mIsB (mRF 60 ((nI (nP A)).toNatClampNeg)) 1) (mReq (mInB (0 : Int32) (mLn (mRF 60 ((nI (nP A)).toNatClampNeg)))) ((¬ (M (mRF 60 ((nI (nP A)).toNatClampNeg)) 0) = (nI s) → mWB l g d k_X12_deepest Φ 0 0 54 [.ref 0, .int w, .int ((amx (dpF A) s).1), .int ((amx (dpF A) s).2), .int (nI s), .int ((nI (cnt (fun p => A (61 + p) 0 = nI s ∧ A 494 (27 + p) = 0) (nP A))) + (0 : Int32)), .int ((nI (nP A)) + (1 : Int32))] [] M o 0 0) ∧ ((M (mRF 60 ((nI (nP A)).toNatClampNeg)) 0) = (nI s) → mReq (mInB ((27 : Int32) + (nI (nP A))) 37) ((¬ (M 494 (((27 : Int32) + (nI (nP A))).toNatClampNeg)) = 0 → mWB l g d k_X12_deepest Φ 0 0 54 [.ref 0, .int w, .int ((amx (dpF A) s).1), .int ((amx (dpF A) s).2), .int (nI s), .int ((nI (cnt (fun p => A (61 + p) 0 = nI s ∧ A 494 (27 + p) = 0) (nP A))) + (0 : Int32)), .int ((nI (nP A)) + (1 : Int32))] [] M o 0 0) ∧ ((M 494 (((27 : Int32) + (nI (nP A))).toNatClampNeg)) = 0 → mWB l g d k_X12_deepest Φ 0 0 54 [.ref 0, .int w, .int ((amx (dpF A) s).1), .int ((amx (dpF A) s).2), .int (nI s), .int ((nI (cnt (fun p => A (61 + p) 0 = nI s ∧ A 494 (27 + p) = 0) (nP A))) + (1 : Int32)), .int ((nI (nP A)) + (1 : Int32))] [] M o 0 0)))))))
    simp (disch := omega) only [mReq_tt, nI_0a, nI_a0, nI_cl, mIn_ok, lit_add, lit_sub, add_lit, lit_le, le_lit, lit_lt, lt_lit, eq_lit, nI_add, nI_1, nI_leI, nI_ltI, nI_eq, mIn_lit, mIn_0, mIn_1, mIn_2, mIn_3, nI_l0, nI_p0, rf_22, rf_44, rf_60, rf_69, rf_391, rf_7, rf_37, rf_51, rf_230, rf_401, rf_413, rf_496, rf_513, rf_518, sB_2, sB_3, sB_4, sB_5, sB_6, sB_7, sL_2, sL_3, sL_4, sL_5, sL_6, sL_7, not_true_eq_false, not_false_eq_true, false_implies, true_implies, true_and, and_true, eq_self, true_or, or_true, Nat.le_refl, Nat.zero_add, Nat.add_zero, clA hM, hN3.1]
    refine ⟨fun h => mWB_wk ?_ (L' := [.ref 0, .int w, .int (nI s), .int (dpF A s), .int (nI (s + 1)), mJ, mJ]) ⟨Or.inr rfl, Or.inr rfl, Or.inr rfl, Or.inr rfl, Or.inr rfl, Or.inl rfl, Or.inl rfl, trivial⟩, fun h => mWB_wk ?_ (L' := [.ref 0, .int w, .int (amx (dpF A) s).1, .int (amx (dpF A) s).2, .int (nI (s + 1)), mJ, mJ]) ⟨Or.inr rfl, Or.inr rfl, Or.inr rfl, Or.inr rfl, Or.inr rfl, Or.inl rfl, Or.inl rfl, trivial⟩⟩
    · rw [amx_t (f := dpF A) h] at ih; exact ih
    · rw [amx_f (f := dpF A) h] at ih; exact ih
  show ((M 4 3) ≤ (nI p) → (((amx (dpF A) s).2) < (nI (cnt (fun p => A (61 + p) 0 = nI s ∧ A 494 (27 + p) = 0) p)) → mWB l g d k_X12_deepest Φ 0 0 37 [.ref 0, .int w, .int (nI s), .int (nI (cnt (fun p => A (61 + p) 0 = nI s ∧ A 494 (27 + p) = 0) p)), .int ((nI s) + (1 : Int32)), .int (nI (cnt (fun p => A (61 + p) 0 = nI s ∧ A 494 (27 + p) = 0) p)), .int (nI p)] [] M o 0 0) ∧ (¬ ((amx (dpF A) s).2) < (nI (cnt (fun p => A (61 + p) 0 = nI s ∧ A 494 (27 + p) = 0) p)) → mWB l g d k_X12_deepest Φ 0 0 37 [.ref 0, .int w, .int ((amx (dpF A) s).1), .int ((amx (dpF A) s).2), .int ((nI s) + (1 : Int32)), .int (nI (cnt (fun p => A (61 + p) 0 = nI s ∧ A 494 (27 + p) = 0) p)), .int (nI p)] [] M o 0 0)) ∧ (¬ (M 4 3) ≤ (nI p) → mReq (mInB (nI p) 8) (mReq (mIsB (mRF 60 ((nI p).toNatClampNeg)) 1) (mReq (mInB (0 : Int32) (mLn (mRF 60 ((nI p).toNatClampNeg)))) ((¬ (M (mRF 60 ((nI p).toNatClampNeg)) 0) = (nI s) → mWB l g d k_X12_deepest Φ 0 0 54 [.ref 0, .int w, .int ((amx (dpF A) s).1), .int ((amx (dpF A) s).2), .int (nI s), .int ((nI (cnt (fun p => A (61 + p) 0 = nI s ∧ A 494 (27 + p) = 0) p)) + (0 : Int32)), .int ((nI p) + (1 : Int32))] [] M o 0 0) ∧ ((M (mRF 60 ((nI p).toNatClampNeg)) 0) = (nI s) → mReq (mInB ((27 : Int32) + (nI p)) 37) ((¬ (M 494 (((27 : Int32) + (nI p)).toNatClampNeg)) = 0 → mWB l g d k_X12_deepest Φ 0 0 54 [.ref 0, .int w, .int ((amx (dpF A) s).1), .int ((amx (dpF A) s).2), .int (nI s), .int ((nI (cnt (fun p => A (61 + p) 0 = nI s ∧ A 494 (27 + p) = 0) p)) + (0 : Int32)), .int ((nI p) + (1 : Int32))] [] M o 0 0) ∧ ((M 494 (((27 : Int32) + (nI p)).toNatClampNeg)) = 0 → mWB l g d k_X12_deepest Φ 0 0 54 [.ref 0, .int w, .int ((amx (dpF A) s).1), .int ((amx (dpF A) s).2), .int (nI s), .int ((nI (cnt (fun p => A (61 + p) 0 = nI s ∧ A 494 (27 + p) = 0) p)) + (1 : Int32)), .int ((nI p) + (1 : Int32))] [] M o 0 0)))))))
  have hf : ¬ nP A ≤ p := by omega
  simp (disch := omega) only [mReq_tt, nI_0a, nI_a0, nI_cl, mIn_ok, lit_add, lit_sub, add_lit, lit_le, le_lit, lit_lt, lt_lit, eq_lit, nI_add, nI_1, nI_leI, nI_ltI, nI_eq, mIn_lit, mIn_0, mIn_1, mIn_2, mIn_3, nI_l0, nI_p0, rf_22, rf_44, rf_60, rf_69, rf_391, rf_7, rf_37, rf_51, rf_230, rf_401, rf_413, rf_496, rf_513, rf_518, sB_2, sB_3, sB_4, sB_5, sB_6, sB_7, sL_2, sL_3, sL_4, sL_5, sL_6, sL_7, not_true_eq_false, not_false_eq_true, false_implies, true_implies, true_and, and_true, eq_self, true_or, or_true, Nat.le_refl, Nat.zero_add, Nat.add_zero, clA hM, hN3.1, hf]
  rename_i ih2 _
  refine ⟨fun h => ?_, fun h => ⟨fun h2 => ?_, fun h2 => ?_⟩⟩
  · rw [cnt_f (fun z => h z.1)] at ih; exact ih
  · rw [cnt_f (fun z => h2 z.2)] at ih; exact ih
  · rw [cnt_t ⟨h, h2⟩] at ih; exact ih
theorem r_agree (hA : Sv A) (hR : Nt A (A 494)) {m : Mm} (hm : cl m = A) (hd : 7 ≤ d) (w : Int32) : mHi l g d k_X12_agree [.ref 0, .int w] m (rO A (qAgr A w)) := by
  have hN := hA.1.1
  have hN2 := hA.1.2.2.1
  refine nBi 4 rfl rfl rfl (by decide) rfl (fun htr o Φ hΦ => mGoOn (mOk (by decide)) rfl [37,54] 400 ?_)
  show mCal l g d k_X12_agree Φ 0 0 _ 9 k_X12_in false [.int w, .int (0 : Int32), .int (1 : Int32)] [.ref 0] [.ref 0, .int w, mJ, mJ, mJ, mJ] (mset m 0 0 (0 : Int32)) o 0 0 1
  have hC := Cn_0 hm
  generalize mset m 0 0 (0 : Int32) = M at hC ⊢
  clear hm
  obtain ⟨hM, hth⟩ := hC
  have hC : Cn A M := ⟨hM, hth⟩
  unfold qAgr at hΦ
  refine fCi htr (r_inB (n := 2) (by omega) rfl) (by omega) ?_
  show (¬ (pI (In w 2)) = 0 → True ∧ mCal l g d k_X12_agree Φ 0 0 _ 22 k_X12_bad false [.ref 0, .int (0 : Int32), .int (1 : Int32), .int (1 : Int32)] [] [.ref 0, .int w, mJ, mJ, mJ, mJ] M o 0 0 1) ∧ ((pI (In w 2)) = 0 → True ∧ mCal l g d k_X12_agree Φ 0 0 _ 22 k_X12_bad false [.ref 0, .int (1 : Int32), .int (1 : Int32), .int (1 : Int32)] [] [.ref 0, .int w, mJ, mJ, mJ, mJ] M o 0 0 1)
  refine and_sw (fun h1 => ?_) (fun h1 => ?_)
  · replace h1 := pI_0.mp h1
    refine ⟨trivial, fCi htr (r_bad1 hth (t := 1) (j := 1) (by decide) (by decide)) (by omega) ?_⟩
    show ((1 : Int32) = 0 → mWB l g d k_X12_agree Φ 0 0 37 [.ref 0, .int w, .int (0 : Int32), .int (-1 : Int32), .int (0 : Int32), mJ] [] (mset (mset M 0 0 1) 2 1 (M 2 1 + 1)) o 0 0) ∧ (¬ (1 : Int32) = 0 → Φ (.inl (some (.int (0 : Int32)))) (mset (mset M 0 0 1) 2 1 (M 2 1 + 1)) o ∧ 0 ≤ 0 ∧ 0 ≤ 0)
    rw [ifp_f (h1)] at hΦ
    first | exact br1a (eR (hΦ _ _ (rO_t hM (by decide) (by decide)))) | exact br1b (eR (hΦ _ _ (rO_t hM (by decide) (by decide))))
  replace h1 := pI_1.mp h1
  refine ⟨trivial, fCi htr (r_bad0 hth _ _) (by omega) ?_⟩
  show ((0 : Int32) = 0 → mWB l g d k_X12_agree Φ 0 0 37 [.ref 0, .int w, .int (0 : Int32), .int (-1 : Int32), .int (0 : Int32), mJ] [] M o 0 0) ∧ (¬ (0 : Int32) = 0 → Φ (.inl (some (.int (0 : Int32)))) M o ∧ 0 ≤ 0 ∧ 0 ≤ 0)
  rw [ifp_t (h1)] at hΦ
  first | refine br0a ?_ | refine br0b ?_
  dsimp only at hΦ
  refine mLoopZ (P := fun a => ∀ m, Cn A m → mWB l g d k_X12_agree Φ 0 0 37 [.ref 0, .int w, .int ((fo2 (agQ A) c10 (nM A) a (0, -1)).1), .int ((fo2 (agQ A) c10 (nM A) a (0, -1)).2), .int (nI a), mJ] [] m o 0 0) (N := nM A) (fun m hm => mGoOn (mOk (by decide)) rfl [37,54] 400 ?_) (fun a hi ih m hm => mGoOn (mOk (by decide)) rfl [37,54] 400 ?_) M hC
  · show ((m 4 2) ≤ (nI (nM A)) → (¬ w = 0 → Φ (.inl (some (.int ((fo2 (agQ A) c10 (nM A) (nM A) (0, -1)).2)))) m o ∧ 0 ≤ 0 ∧ 0 ≤ 0) ∧ (w = 0 → Φ (.inl (some (.int ((fo2 (agQ A) c10 (nM A) (nM A) (0, -1)).1)))) m o ∧ 0 ≤ 0 ∧ 0 ≤ 0)) ∧ (¬ (m 4 2) ≤ (nI (nM A)) → mWB l g d k_X12_agree Φ 0 0 54 [.ref 0, .int w, .int ((fo2 (agQ A) c10 (nM A) (nM A) (0, -1)).1), .int ((fo2 (agQ A) c10 (nM A) (nM A) (0, -1)).2), .int (nI (nM A)), .int ((nI (nM A)) + (1 : Int32))] [] m o 0 0)
    simp (disch := omega) only [mReq_tt, nI_0a, nI_a0, nI_cl, mIn_ok, lit_add, lit_sub, add_lit, lit_le, le_lit, lit_lt, lt_lit, eq_lit, nI_add, nI_1, nI_leI, nI_ltI, nI_eq, mIn_lit, mIn_0, mIn_1, mIn_2, mIn_3, nI_l0, nI_p0, rf_22, rf_44, rf_60, rf_69, rf_391, rf_7, rf_37, rf_51, rf_230, rf_401, rf_413, rf_496, rf_513, rf_518, sB_2, sB_3, sB_4, sB_5, sB_6, sB_7, sL_2, sL_3, sL_4, sL_5, sL_6, sL_7, not_true_eq_false, not_false_eq_true, false_implies, true_implies, true_and, and_true, eq_self, true_or, or_true, Nat.le_refl, Nat.zero_add, Nat.add_zero, clA hm.1, hN2.1]
    exact ⟨fun q => hΦ _ _ (rO_k hm (by rw [if_neg q])), fun q => hΦ _ _ (rO_k hm (by rw [if_pos q]))⟩
  show ((m 4 2) ≤ (nI a) → (¬ w = 0 → Φ (.inl (some (.int ((fo2 (agQ A) c10 (nM A) a (0, -1)).2)))) m o ∧ 0 ≤ 0 ∧ 0 ≤ 0) ∧ (w = 0 → Φ (.inl (some (.int ((fo2 (agQ A) c10 (nM A) a (0, -1)).1)))) m o ∧ 0 ≤ 0 ∧ 0 ≤ 0)) ∧ (¬ (m 4 2) ≤ (nI a) → mWB l g d k_X12_agree Φ 0 0 54 [.ref 0, .int w, .int ((fo2 (agQ A) c10 (nM A) a (0, -1)).1), .int ((fo2 (agQ A) c10 (nM A) a (0, -1)).2), .int (nI a), .int ((nI a) + (1 : Int32))] [] m o 0 0)
  have hf : ¬ nM A ≤ a := by omega
  simp (disch := omega) only [mReq_tt, nI_0a, nI_a0, nI_cl, mIn_ok, lit_add, lit_sub, add_lit, lit_le, le_lit, lit_lt, lt_lit, eq_lit, nI_add, nI_1, nI_leI, nI_ltI, nI_eq, mIn_lit, mIn_0, mIn_1, mIn_2, mIn_3, nI_l0, nI_p0, rf_22, rf_44, rf_60, rf_69, rf_391, rf_7, rf_37, rf_51, rf_230, rf_401, rf_413, rf_496, rf_513, rf_518, sB_2, sB_3, sB_4, sB_5, sB_6, sB_7, sL_2, sL_3, sL_4, sL_5, sL_6, sL_7, not_true_eq_false, not_false_eq_true, false_implies, true_implies, true_and, and_true, eq_self, true_or, or_true, Nat.le_refl, Nat.zero_add, Nat.add_zero, clA hm.1, hN2.1, hf]
  replace ih : ∀ m, Cn A m → mWB l g d k_X12_agree Φ 0 0 37 [.ref 0, .int w, .int ((fo (st2 (agQ A) c10 a) (nM A) (fo2 (agQ A) c10 (nM A) a (0, -1))).1), .int ((fo (st2 (agQ A) c10 a) (nM A) (fo2 (agQ A) c10 (nM A) a (0, -1))).2), .int (nI (a + 1)), mJ] [] m o 0 0 := ih
  generalize fo2 (agQ A) c10 (nM A) a (0, -1) = s0 at ih ⊢
  have key : ∀ b, b ≤ nM A → a + 1 ≤ b → ∀ m, Cn A m → mWB l g d k_X12_agree Φ 0 0 54 [.ref 0, .int w, .int ((fo (st2 (agQ A) c10 a) b s0).1), .int ((fo (st2 (agQ A) c10 a) b s0).2), .int (nI a), .int (nI b)] [] m o 0 0 := by
    refine mLoop ?_ ?_
    · intro b hb ihb hab m hm
      refine mGoOn (mOk (by decide)) rfl [37,54] 400 ?_
      show ((m 4 2) ≤ (nI b) → mWB l g d k_X12_agree Φ 0 0 37 [.ref 0, .int w, .int ((fo (st2 (agQ A) c10 a) b s0).1), .int ((fo (st2 (agQ A) c10 a) b s0).2), .int ((nI a) + (1 : Int32)), .int (nI b)] [] m o 0 0) ∧ (¬ (m 4 2) ≤ (nI b) → mReq (mInB ((0 : Int32) + (nI a)) 37) (True ∧ mCal l g d k_X12_agree Φ 0 0 _ 81 k_X12_saysIn false [.ref 0, .ref 494, .int (nI a), .int (m 494 (((0 : Int32) + (nI a)).toNatClampNeg))] [] [.ref 0, .int w, .int ((fo (st2 (agQ A) c10 a) b s0).1), .int ((fo (st2 (agQ A) c10 a) b s0).2), .int (nI a), .int (nI b)] m o 0 0 1))
      have hfb : ¬ nM A ≤ b := by omega
      simp (disch := omega) only [mReq_tt, nI_0a, nI_a0, nI_cl, mIn_ok, lit_add, lit_sub, add_lit, lit_le, le_lit, lit_lt, lt_lit, eq_lit, nI_add, nI_1, nI_leI, nI_ltI, nI_eq, mIn_lit, mIn_0, mIn_1, mIn_2, mIn_3, nI_l0, nI_p0, rf_22, rf_44, rf_60, rf_69, rf_391, rf_7, rf_37, rf_51, rf_230, rf_401, rf_413, rf_496, rf_513, rf_518, sB_2, sB_3, sB_4, sB_5, sB_6, sB_7, sL_2, sL_3, sL_4, sL_5, sL_6, sL_7, not_true_eq_false, not_false_eq_true, false_implies, true_implies, true_and, and_true, eq_self, true_or, or_true, Nat.le_refl, Nat.zero_add, Nat.add_zero, clA hm.1, hN2.1, hfb]
      have hsa := In_cl (hR.1 a hi) (by omega)
      have hsb := In_cl (hR.1 b hb) (by omega)
      rw [hsa.1]
      refine nCi htr (r_sayN hA hm (by omega) hi (by omega)) (by omega) ?_
      intro x m2 hx
      show mReq (mInB ((0 : Int32) + (nI b)) 37) (True ∧ mCal l g d k_X12_agree Φ 0 0 _ 100 k_X12_saysIn false [.ref 0, .ref 494, .int (nI b), .int (m2 494 (((0 : Int32) + (nI b)).toNatClampNeg))] [.int x] [.ref 0, .int w, .int ((fo (st2 (agQ A) c10 a) b s0).1), .int ((fo (st2 (agQ A) c10 a) b s0).2), .int (nI a), .int (nI b)] m2 o 0 0 1)
      simp (disch := omega) only [mReq_tt, nI_0a, nI_a0, nI_cl, mIn_ok, lit_add, lit_sub, add_lit, lit_le, le_lit, lit_lt, lt_lit, eq_lit, nI_add, nI_1, nI_leI, nI_ltI, nI_eq, mIn_lit, mIn_0, mIn_1, mIn_2, mIn_3, nI_l0, nI_p0, rf_22, rf_44, rf_60, rf_69, rf_391, rf_7, rf_37, rf_51, rf_230, rf_401, rf_413, rf_496, rf_513, rf_518, sB_2, sB_3, sB_4, sB_5, sB_6, sB_7, sL_2, sL_3, sL_4, sL_5, sL_6, sL_7, not_true_eq_false, not_false_eq_true, false_implies, true_implies, true_and, and_true, eq_self, true_or, or_true, Nat.le_refl, Nat.zero_add, Nat.add_zero, clA hx.2.1]
      rw [hsb.1]
      refine nCi htr (r_sayN hA hx.2 (by omega) hb (by omega)) (by omega) ?_
      intro y m3 hy
      show (x = y → (¬ ((fo (st2 (agQ A) c10 a) b s0).1) = 0 → mWB l g d k_X12_agree Φ 0 0 54 [.ref 0, .int w, .int (((fo (st2 (agQ A) c10 a) b s0).1) + (1 : Int32)), .int ((fo (st2 (agQ A) c10 a) b s0).2), .int (nI a), .int ((nI b) + (1 : Int32))] [] m3 o 0 0) ∧ (((fo (st2 (agQ A) c10 a) b s0).1) = 0 → mWB l g d k_X12_agree Φ 0 0 54 [.ref 0, .int w, .int (((fo (st2 (agQ A) c10 a) b s0).1) + (1 : Int32)), .int (((10 : Int32) * (nI a)) + (nI b)), .int (nI a), .int ((nI b) + (1 : Int32))] [] m3 o 0 0)) ∧ (¬ x = y → mWB l g d k_X12_agree Φ 0 0 54 [.ref 0, .int w, .int ((fo (st2 (agQ A) c10 a) b s0).1), .int ((fo (st2 (agQ A) c10 a) b s0).2), .int (nI a), .int ((nI b) + (1 : Int32))] [] m3 o 0 0)
      rw [nI_1]
      have ihb := ihb (by omega) m3 hy.2
      rw [fo_s] at ihb
      generalize fo (st2 (agQ A) c10 a) b s0 = t at ihb ⊢
      unfold st2 at ihb
      refine ⟨fun q => ?_, fun q => ?_⟩
      · rw [ifp_t ⟨by omega, hx.1.symm.trans (q.trans hy.1)⟩] at ihb
        exact ⟨fun z => by rw [if_neg z] at ihb; exact ihb, fun z => by rw [if_pos z] at ihb; exact ihb⟩
      · rw [ifp_f (fun z => q (hx.1.trans (z.2.trans hy.1.symm)))] at ihb
        exact ihb
    · intro hab m hm
      refine mGoOn (mOk (by decide)) rfl [37,54] 400 ?_
      show ((m 4 2) ≤ (nI (nM A)) → mWB l g d k_X12_agree Φ 0 0 37 [.ref 0, .int w, .int ((fo (st2 (agQ A) c10 a) (nM A) s0).1), .int ((fo (st2 (agQ A) c10 a) (nM A) s0).2), .int ((nI a) + (1 : Int32)), .int (nI (nM A))] [] m o 0 0) ∧ (¬ (m 4 2) ≤ (nI (nM A)) → mReq (mInB ((0 : Int32) + (nI a)) 37) (True ∧ mCal l g d k_X12_agree Φ 0 0 _ 81 k_X12_saysIn false [.ref 0, .ref 494, .int (nI a), .int (m 494 (((0 : Int32) + (nI a)).toNatClampNeg))] [] [.ref 0, .int w, .int ((fo (st2 (agQ A) c10 a) (nM A) s0).1), .int ((fo (st2 (agQ A) c10 a) (nM A) s0).2), .int (nI a), .int (nI (nM A))] m o 0 0 1))
      simp (disch := omega) only [mReq_tt, nI_0a, nI_a0, nI_cl, mIn_ok, lit_add, lit_sub, add_lit, lit_le, le_lit, lit_lt, lt_lit, eq_lit, nI_add, nI_1, nI_leI, nI_ltI, nI_eq, mIn_lit, mIn_0, mIn_1, mIn_2, mIn_3, nI_l0, nI_p0, rf_22, rf_44, rf_60, rf_69, rf_391, rf_7, rf_37, rf_51, rf_230, rf_401, rf_413, rf_496, rf_513, rf_518, sB_2, sB_3, sB_4, sB_5, sB_6, sB_7, sL_2, sL_3, sL_4, sL_5, sL_6, sL_7, not_true_eq_false, not_false_eq_true, false_implies, true_implies, true_and, and_true, eq_self, true_or, or_true, Nat.le_refl, Nat.zero_add, Nat.add_zero, clA hm.1, hN2.1]
      exact mWB_wk (ih m hm) ⟨Or.inr rfl, Or.inr rfl, Or.inr rfl, Or.inr rfl, Or.inr rfl, Or.inl rfl, trivial⟩
  have k1 := key (a + 1) (by omega) (Nat.le_refl _) m hm
  rw [fo_id (st := st2 (agQ A) c10 a) (n := a + 1) (fun k hk s => ifp_f (fun z => by have := z.1; omega))] at k1
  exact k1
theorem r_isCaller (hA : Sv A) (hB : BkOk A) {m : Mm} (hm : cl m = A) (hd : 5 ≤ d) {k : Nat} (hk : k < nM A) (h : Int32) : mHi l g d k_X12_isCaller [.ref 0, .int (nI k), .int h] m (fun x m2 => x = pI (isC A k h) ∧ eqL lK m m2) := by
  have hN := hA.1.1
  have hNB := hB.2.1
  refine nBi 1 rfl rfl rfl (by decide) rfl (fun htr o Φ hΦ => mGoOn (mOk (by decide)) rfl [2] 400 ?_)
  show mWB l g d k_X12_isCaller Φ 0 0 2 [.ref 0, .int (nI k), .int h, .int (0 : Int32)] [] m o 0 0
  refine mLoopQ (Q := clN A k h) (P := fun t => ∀ m', eqL lK m m' → mWB l g d k_X12_isCaller Φ 0 0 2 [.ref 0, .int (nI k), .int h, .int (nI t)] [] m' o 0 0) (N := nB A) (fun hb m' he => mGoOn (mOk (by decide)) rfl [2] 400 ?_) (fun t hi hb ih m' he => mGoOn (mOk (by decide)) rfl [2] 400 ?_) m (eqL_refl _ _)
  · show ((m' 0 35) ≤ (nI (nB A)) → ((1 : Int32) = 0 ∨ (1 : Int32) = 1) ∧ Φ (.inl (some (.int (1 : Int32)))) m' o ∧ 0 ≤ 0 ∧ 0 ≤ 0) ∧ (¬ (m' 0 35) ≤ (nI (nB A)) → mReq (mInB (nI (nB A)) 9) (mReq (mIsB (mRF 391 ((nI (nB A)).toNatClampNeg)) 1) (mReq (mInB (0 : Int32) (mLn (mRF 391 ((nI (nB A)).toNatClampNeg)))) (True ∧ mCal l g d k_X12_isCaller Φ 0 0 _ 25 k_X12_saysAt false [.ref 0, .ref 494, .int (nI k), .int (m' (mRF 391 ((nI (nB A)).toNatClampNeg)) 0), .int h] [] [.ref 0, .int (nI k), .int h, .int (nI (nB A))] m' o 0 0 1))))
    have hm' := eqK_cl he hm
    simp (disch := omega) only [mReq_tt, nI_0a, nI_a0, nI_cl, mIn_ok, lit_add, lit_sub, add_lit, lit_le, le_lit, lit_lt, lt_lit, eq_lit, nI_add, nI_1, nI_leI, nI_ltI, nI_eq, mIn_lit, mIn_0, mIn_1, mIn_2, mIn_3, nI_l0, nI_p0, rf_22, rf_44, rf_60, rf_69, rf_391, rf_7, rf_37, rf_51, rf_230, rf_401, rf_413, rf_496, rf_513, rf_518, sB_2, sB_3, sB_4, sB_5, sB_6, sB_7, sL_2, sL_3, sL_4, sL_5, sL_6, sL_7, not_true_eq_false, not_false_eq_true, false_implies, true_implies, true_and, and_true, eq_self, true_or, or_true, Nat.le_refl, Nat.zero_add, Nat.add_zero, clA hm', clO hm', hB.1]
    exact hΦ _ _ ⟨(pI_t (show isC A k h from hb)).symm, he⟩
  show ((m' 0 35) ≤ (nI t) → ((1 : Int32) = 0 ∨ (1 : Int32) = 1) ∧ Φ (.inl (some (.int (1 : Int32)))) m' o ∧ 0 ≤ 0 ∧ 0 ≤ 0) ∧ (¬ (m' 0 35) ≤ (nI t) → mReq (mInB (nI t) 9) (mReq (mIsB (mRF 391 ((nI t).toNatClampNeg)) 1) (mReq (mInB (0 : Int32) (mLn (mRF 391 ((nI t).toNatClampNeg)))) (True ∧ mCal l g d k_X12_isCaller Φ 0 0 _ 25 k_X12_saysAt false [.ref 0, .ref 494, .int (nI k), .int (m' (mRF 391 ((nI t).toNatClampNeg)) 0), .int h] [] [.ref 0, .int (nI k), .int h, .int (nI t)] m' o 0 0 1))))
  have hm' := eqK_cl he hm
  have hf : ¬ nB A ≤ t := by omega
  simp (disch := omega) only [mReq_tt, nI_0a, nI_a0, nI_cl, mIn_ok, lit_add, lit_sub, add_lit, lit_le, le_lit, lit_lt, lt_lit, eq_lit, nI_add, nI_1, nI_leI, nI_ltI, nI_eq, mIn_lit, mIn_0, mIn_1, mIn_2, mIn_3, nI_l0, nI_p0, rf_22, rf_44, rf_60, rf_69, rf_391, rf_7, rf_37, rf_51, rf_230, rf_401, rf_413, rf_496, rf_513, rf_518, sB_2, sB_3, sB_4, sB_5, sB_6, sB_7, sL_2, sL_3, sL_4, sL_5, sL_6, sL_7, not_true_eq_false, not_false_eq_true, false_implies, true_implies, true_and, and_true, eq_self, true_or, or_true, Nat.le_refl, Nat.zero_add, Nat.add_zero, clA hm', clO hm', hB.1, hf]
  have hs := In_cl (hB.2.2.1 t hi).1 (by omega)
  rw [hs.1]
  refine nCi htr (r_saysAt hA hm' (by omega) row_494 hk (by omega) h) (by omega) ?_
  intro x m2 hx
  have hm2 := eqK_cl hx.2 hm'
  show mReq (mInB (nI t) 9) (mReq (mIsB (mRF 391 ((nI t).toNatClampNeg)) 1) (mReq (mInB (1 : Int32) (mLn (mRF 391 ((nI t).toNatClampNeg)))) ((x = (m2 (mRF 391 ((nI t).toNatClampNeg)) 1) → mWB l g d k_X12_isCaller Φ 0 0 2 [.ref 0, .int (nI k), .int h, .int ((nI t) + (1 : Int32))] [] m2 o 0 0) ∧ (¬ x = (m2 (mRF 391 ((nI t).toNatClampNeg)) 1) → ((0 : Int32) = 0 ∨ (0 : Int32) = 1) ∧ Φ (.inl (some (.int (0 : Int32)))) m2 o ∧ 0 ≤ 0 ∧ 0 ≤ 0))))
  simp (disch := omega) only [mReq_tt, nI_0a, nI_a0, nI_cl, mIn_ok, lit_add, lit_sub, add_lit, lit_le, le_lit, lit_lt, lt_lit, eq_lit, nI_add, nI_1, nI_leI, nI_ltI, nI_eq, mIn_lit, mIn_0, mIn_1, mIn_2, mIn_3, nI_l0, nI_p0, rf_22, rf_44, rf_60, rf_69, rf_391, rf_7, rf_37, rf_51, rf_230, rf_401, rf_413, rf_496, rf_513, rf_518, sB_2, sB_3, sB_4, sB_5, sB_6, sB_7, sL_2, sL_3, sL_4, sL_5, sL_6, sL_7, not_true_eq_false, not_false_eq_true, false_implies, true_implies, true_and, and_true, eq_self, true_or, or_true, Nat.le_refl, Nat.zero_add, Nat.add_zero, clA hm2]
  rw [hx.1, clF hm' (by omega)]
  refine ⟨fun q => ih (fun z => z q) m2 (eqL_trans he hx.2), fun q => ?_⟩
  refine hΦ _ _ ⟨(pI_f ?_).symm, eqL_trans he hx.2⟩
  exact fun z => z t hi q
theorem r_isTold (hB : BkOk A) {m : Mm} (hm : cl m = A) (s : Int32) : mFi l g d k_X12_isTold [.ref 0, .int s] m (pI (isT A s)) m := by
  have hNB := hB.2.1
  refine nFi 1 rfl rfl rfl (by decide) rfl (fun htr o Φ hΦ => mGoOn (mOk (by decide)) rfl [2] 400 ?_)
  show mWB l g d k_X12_isTold Φ 0 0 2 [.ref 0, .int s, .int (0 : Int32)] [] m o 0 0
  refine mLoopQ (Q := fun t => A (392 + t) 0 = s) (P := fun t => mWB l g d k_X12_isTold Φ 0 0 2 [.ref 0, .int s, .int (nI t)] [] m o 0 0) (N := nB A) (fun hb => mGoOn (mOk (by decide)) rfl [2] 400 ?_) (fun t hi hb ih => mGoOn (mOk (by decide)) rfl [2] 400 ?_)
  · show ((m 0 35) ≤ (nI (nB A)) → ((0 : Int32) = 0 ∨ (0 : Int32) = 1) ∧ Φ (.inl (some (.int (0 : Int32)))) m o ∧ 0 ≤ 0 ∧ 0 ≤ 0) ∧ (¬ (m 0 35) ≤ (nI (nB A)) → mReq (mInB (nI (nB A)) 9) (mReq (mIsB (mRF 391 ((nI (nB A)).toNatClampNeg)) 1) (mReq (mInB (0 : Int32) (mLn (mRF 391 ((nI (nB A)).toNatClampNeg)))) ((¬ (m (mRF 391 ((nI (nB A)).toNatClampNeg)) 0) = s → mWB l g d k_X12_isTold Φ 0 0 2 [.ref 0, .int s, .int ((nI (nB A)) + (1 : Int32))] [] m o 0 0) ∧ ((m (mRF 391 ((nI (nB A)).toNatClampNeg)) 0) = s → ((1 : Int32) = 0 ∨ (1 : Int32) = 1) ∧ Φ (.inl (some (.int (1 : Int32)))) m o ∧ 0 ≤ 0 ∧ 0 ≤ 0)))))
    simp (disch := omega) only [mReq_tt, nI_0a, nI_a0, nI_cl, mIn_ok, lit_add, lit_sub, add_lit, lit_le, le_lit, lit_lt, lt_lit, eq_lit, nI_add, nI_1, nI_leI, nI_ltI, nI_eq, mIn_lit, mIn_0, mIn_1, mIn_2, mIn_3, nI_l0, nI_p0, rf_22, rf_44, rf_60, rf_69, rf_391, rf_7, rf_37, rf_51, rf_230, rf_401, rf_413, rf_496, rf_513, rf_518, sB_2, sB_3, sB_4, sB_5, sB_6, sB_7, sL_2, sL_3, sL_4, sL_5, sL_6, sL_7, not_true_eq_false, not_false_eq_true, false_implies, true_implies, true_and, and_true, eq_self, true_or, or_true, Nat.le_refl, Nat.zero_add, Nat.add_zero, clA hm, clO hm, hB.1]
    rw [pI_f (fun ⟨t, h1, h2⟩ => hb t h1 h2)] at hΦ
    exact hΦ
  show ((m 0 35) ≤ (nI t) → ((0 : Int32) = 0 ∨ (0 : Int32) = 1) ∧ Φ (.inl (some (.int (0 : Int32)))) m o ∧ 0 ≤ 0 ∧ 0 ≤ 0) ∧ (¬ (m 0 35) ≤ (nI t) → mReq (mInB (nI t) 9) (mReq (mIsB (mRF 391 ((nI t).toNatClampNeg)) 1) (mReq (mInB (0 : Int32) (mLn (mRF 391 ((nI t).toNatClampNeg)))) ((¬ (m (mRF 391 ((nI t).toNatClampNeg)) 0) = s → mWB l g d k_X12_isTold Φ 0 0 2 [.ref 0, .int s, .int ((nI t) + (1 : Int32))] [] m o 0 0) ∧ ((m (mRF 391 ((nI t).toNatClampNeg)) 0) = s → ((1 : Int32) = 0 ∨ (1 : Int32) = 1) ∧ Φ (.inl (some (.int (1 : Int32)))) m o ∧ 0 ≤ 0 ∧ 0 ≤ 0)))))
  have hf : ¬ nB A ≤ t := by omega
  simp (disch := omega) only [mReq_tt, nI_0a, nI_a0, nI_cl, mIn_ok, lit_add, lit_sub, add_lit, lit_le, le_lit, lit_lt, lt_lit, eq_lit, nI_add, nI_1, nI_leI, nI_ltI, nI_eq, mIn_lit, mIn_0, mIn_1, mIn_2, mIn_3, nI_l0, nI_p0, rf_22, rf_44, rf_60, rf_69, rf_391, rf_7, rf_37, rf_51, rf_230, rf_401, rf_413, rf_496, rf_513, rf_518, sB_2, sB_3, sB_4, sB_5, sB_6, sB_7, sL_2, sL_3, sL_4, sL_5, sL_6, sL_7, not_true_eq_false, not_false_eq_true, false_implies, true_implies, true_and, and_true, eq_self, true_or, or_true, Nat.le_refl, Nat.zero_add, Nat.add_zero, clA hm, clO hm, hB.1, hf]
  refine ⟨fun q => ih q, fun q => ?_⟩
  rw [pI_t ⟨t, hi, q⟩] at hΦ
  exact hΦ
end R15
