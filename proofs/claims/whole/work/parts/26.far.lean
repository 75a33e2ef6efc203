set_option maxRecDepth 100000
/-! HOW FAR THE STREETS ARE -/
def mLe : List Value → List Value → Prop
  | [], _ => True
  | v :: t, w :: s => (v = mJ ∨ v = w) ∧ mLe t s
  | _ :: _, [] => False
theorem mLe_at : ∀ {L' L : List Value}, mLe L' L → ∀ (i : Nat) (v : Value), L'[i]? = some v → v ≠ mJ → L[i]? = some v
  | [], _, _, i, v, h, _ => by simp at h
  | v :: t, w :: s, h, 0, x, hx, hj => by
    simp at hx
    subst hx
    rcases h.1 with q | q
    · exact absurd q hj
    · simp [q]
  | v :: t, w :: s, h, i + 1, x, hx, hj => by
    simp at hx
    simpa using mLe_at h.2 i x hx hj
/-- one may forget what a local holds -/
theorem mWB_wk {l : Launch} {g : mG} {d k : Nat} {Φ : mR → Mm → Int64 → Prop} {MC MS pc : Nat} {L L' S : List Value} {m : Mm} {o : Int64} {c s : Nat} (h : mWB l g d k Φ MC MS pc L' S m o c s) (hl : mLe L' L) : mWB l g d k Φ MC MS pc L S m o c s := by
  intro p e st mi args below meth cd H locs ls hC hP hS hL
  refine h p e st mi args below meth cd H locs ls hC hP hS ⟨hL.1, hL.2.1, fun q hq => hL.2.2 q ?_⟩
  obtain ⟨j, v, h1, h2, h3⟩ := mLv_mem.mp hq
  exact mLv_mem.mpr ⟨j, v, mLe_at hl j v h1 h2, h2, h3⟩
/-- far, after n rounds -/
noncomputable def fl (A : Mm) (op : Int32) (a : Nat) : Nat → Nat → Int32
  | 0 => fun s => ifp (s = a ∧ hB op s) 0 (-1)
  | n + 1 => fun s => ifp (fl A op a n s = -1 ∧ hB op s ∧ ∃ t, t < nS A ∧ fl A op a n t = nI n ∧ Ln A (nI t) (nI s)) (nI (n + 1)) (fl A op a n s)
theorem fl_ne (A : Mm) (op : Int32) (a n t : Nat) (hn : n < 100) : fl A op a (n + 1) t = nI n ↔ fl A op a n t = nI n := by
  show ifp _ _ _ = _ ↔ _
  by_cases h : fl A op a n t = -1 ∧ hB op t ∧ ∃ s, s < nS A ∧ fl A op a n s = nI n ∧ Ln A (nI s) (nI t)
  · rw [ifp_t h, h.1, nI_eq (by omega) (by omega)]
    constructor
    · intro q; omega
    · intro q
      have := congrArg Int32.toInt q
      rw [nI_toInt (by omega)] at this
      have h2 : (-1 : Int32).toInt = -1 := rfl
      omega
  · rw [ifp_f h]
theorem q_has (b : Int32) {k : Nat} (hk : k < 32) (m : Mm) {l : Launch} {g : mG} {d : Nat} : mFi l g d k_X12_has [.int b, .int (nI k)] m (pI (hB b k)) m := by
  have h := @r_has l g d b (nI k) m
  rw [ite_pI, show pI (jshr b (nI k) &&& 1 = 1) = pI (hB b k) from by rw [show (jshr b (nI k) &&& 1 = 1) = hB b k from propext (hB_has hk)]] at h
  exact h
theorem nI_m1 {n : Nat} (h : n < 2 ^ 31) : ¬ nI n = -1 := by
  intro q
  have := congrArg Int32.toInt q
  rw [nI_toInt h] at this
  have h2 : (-1 : Int32).toInt = -1 := rfl
  omega
abbrev lF : List Nat := [517]
theorem sc_F : ∀ a, a ∈ lF → ∀ i, sc a i = true := by
  intro a ha i
  rcases List.mem_cons.mp ha with rfl | ha
  · rfl
  · cases ha
theorem eqF_cl {m m2 A : Mm} (h : eqL lF m m2) (hm : cl m = A) : cl m2 = A := eqL_cl sc_F h hm
theorem eqF_Cn {A m m2 : Mm} (h : eqL lF m m2) (hm : Cn A m) : Cn A m2 := ⟨eqF_cl h hm.1, by rw [h 0 (by decide)]; exact hm.2⟩
section R10
variable {l : Launch} {g : mG} {d : Nat} {A : Mm}
theorem r_laysFar (hA : CtB A) {m : Mm} (hm : cl m = A) (hd : 1 ≤ d) {a : Nat} (ha : a < 9) (op : Int32) : mHv l g d k_X12_laysFar [.ref 0, .int (nI a), .int op] m (fun m2 => eqL lF m m2 ∧ ∀ s, s < nS A → m2 517 s = fl A op a (nS A) s) := by
  have hN := hA.1
  refine nBv 3 rfl rfl rfl (by decide) rfl (fun htr o Φ hΦ => mGoOn (mOk (by decide)) rfl [2] 400 ?_)
  show mWB l g d k_X12_laysFar Φ 0 0 2 [.ref 0, .int (nI a), .int op, .int (0 : Int32), mJ, mJ] [] m o 0 0
  have rounds : ∀ m', eqL lF m m' → (∀ s, s < nS A → m' 517 s = fl A op a 0 s) → mWB l g d k_X12_laysFar Φ 0 0 44 [.ref 0, .int (nI a), .int op, .int (nI 0), mJ, mJ] [] m' o 0 0 := by
    refine mLoopZ (P := fun n => ∀ m', eqL lF m m' → (∀ s, s < nS A → m' 517 s = fl A op a n s) → mWB l g d k_X12_laysFar Φ 0 0 44 [.ref 0, .int (nI a), .int op, .int (nI n), mJ, mJ] [] m' o 0 0) (N := nS A) ?_ ?_
    · intro m' he hf
      have hm' := eqF_cl he hm
      refine mGoOn (mOk (by decide)) rfl [44,57] 400 ?_
      show ((m' 4 0) ≤ (nI (nS A)) → Φ (.inl none) m' o ∧ 0 ≤ 0 ∧ 0 ≤ 0) ∧ (¬ (m' 4 0) ≤ (nI (nS A)) → mWB l g d k_X12_laysFar Φ 0 0 57 [.ref 0, .int (nI a), .int op, .int (nI (nS A)), .int (0 : Int32), mJ] [] m' o 0 0)
      simp (disch := omega) only [mReq_tt, nI_0a, nI_a0, nI_cl, mIn_ok, lit_add, lit_sub, add_lit, lit_le, le_lit, lit_lt, lt_lit, eq_lit, nI_add, nI_1, nI_leI, nI_ltI, nI_eq, mIn_lit, mIn_0, mIn_1, mIn_2, mIn_3, nI_l0, nI_p0, rf_22, rf_44, rf_60, rf_69, rf_391, rf_7, rf_37, rf_51, rf_230, rf_401, rf_413, rf_496, rf_513, rf_518, sB_2, sB_3, sB_4, sB_5, sB_6, sB_7, sL_2, sL_3, sL_4, sL_5, sL_6, sL_7, not_true_eq_false, not_false_eq_true, false_implies, true_implies, true_and, and_true, eq_self, true_or, or_true, Nat.le_refl, Nat.zero_add, Nat.add_zero, clA hm', hN.1]
      exact hΦ _ ⟨he, hf⟩
    · intro n hn ih m' he hf
      have hm' := eqF_cl he hm
      refine mGoOn (mOk (by decide)) rfl [44,57] 400 ?_
      show ((m' 4 0) ≤ (nI n) → Φ (.inl none) m' o ∧ 0 ≤ 0 ∧ 0 ≤ 0) ∧ (¬ (m' 4 0) ≤ (nI n) → mWB l g d k_X12_laysFar Φ 0 0 57 [.ref 0, .int (nI a), .int op, .int (nI n), .int (0 : Int32), mJ] [] m' o 0 0)
      have hfn : ¬ nS A ≤ n := by omega
      simp (disch := omega) only [mReq_tt, nI_0a, nI_a0, nI_cl, mIn_ok, lit_add, lit_sub, add_lit, lit_le, le_lit, lit_lt, lt_lit, eq_lit, nI_add, nI_1, nI_leI, nI_ltI, nI_eq, mIn_lit, mIn_0, mIn_1, mIn_2, mIn_3, nI_l0, nI_p0, rf_22, rf_44, rf_60, rf_69, rf_391, rf_7, rf_37, rf_51, rf_230, rf_401, rf_413, rf_496, rf_513, rf_518, sB_2, sB_3, sB_4, sB_5, sB_6, sB_7, sL_2, sL_3, sL_4, sL_5, sL_6, sL_7, not_true_eq_false, not_false_eq_true, false_implies, true_implies, true_and, and_true, eq_self, true_or, or_true, Nat.le_refl, Nat.zero_add, Nat.add_zero, clA hm', hN.1, hfn]
      refine mLoopZ (P := fun s => ∀ m', eqL lF m m' → (∀ j, j < s → m' 517 j = fl A op a (n + 1) j) → (∀ j, s ≤ j → j < nS A → m' 517 j = fl A op a n j) → mWB l g d k_X12_laysFar Φ 0 0 57 [.ref 0, .int (nI a), .int op, .int (nI n), .int (nI s), mJ] [] m' o 0 0) (N := nS A) ?_ ?_ m' he (fun j hj => by omega) (fun j _ hj => hf j hj)
      · intro m' he h1 _
        have hm' := eqF_cl he hm
        refine mGoOn (mOk (by decide)) rfl [44,57,94] 400 ?_
        show ((m' 4 0) ≤ (nI (nS A)) → mWB l g d k_X12_laysFar Φ 0 0 44 [.ref 0, .int (nI a), .int op, .int ((nI n) + (1 : Int32)), .int (nI (nS A)), mJ] [] m' o 0 0) ∧ (¬ (m' 4 0) ≤ (nI (nS A)) → mReq (mInB (nI (nS A)) 9) ((¬ (m' 517 ((nI (nS A)).toNatClampNeg)) = (-1 : Int32) → mWB l g d k_X12_laysFar Φ 0 0 57 [.ref 0, .int (nI a), .int op, .int (nI n), .int ((nI (nS A)) + (1 : Int32)), mJ] [] m' o 0 0) ∧ ((m' 517 ((nI (nS A)).toNatClampNeg)) = (-1 : Int32) → mCal l g d k_X12_laysFar Φ 0 0 _ 82 k_X12_has false [.int op, .int (nI (nS A))] [] [.ref 0, .int (nI a), .int op, .int (nI n), .int (nI (nS A)), mJ] m' o 0 0 1)))
        simp (disch := omega) only [mReq_tt, nI_0a, nI_a0, nI_cl, mIn_ok, lit_add, lit_sub, add_lit, lit_le, le_lit, lit_lt, lt_lit, eq_lit, nI_add, nI_1, nI_leI, nI_ltI, nI_eq, mIn_lit, mIn_0, mIn_1, mIn_2, mIn_3, nI_l0, nI_p0, rf_22, rf_44, rf_60, rf_69, rf_391, rf_7, rf_37, rf_51, rf_230, rf_401, rf_413, rf_496, rf_513, rf_518, sB_2, sB_3, sB_4, sB_5, sB_6, sB_7, sL_2, sL_3, sL_4, sL_5, sL_6, sL_7, not_true_eq_false, not_false_eq_true, false_implies, true_implies, true_and, and_true, eq_self, true_or, or_true, Nat.le_refl, Nat.zero_add, Nat.add_zero, clA hm', hN.1]
        exact mWB_wk (ih m' he h1) ⟨Or.inr rfl, Or.inr rfl, Or.inr rfl, Or.inr rfl, Or.inl rfl, Or.inl rfl, trivial⟩
      · intro s hs ih2 m' he h1 h2
        have hm' := eqF_cl he hm
        refine mGoOn (mOk (by decide)) rfl [44,57,94] 400 ?_
        show ((m' 4 0) ≤ (nI s) → mWB l g d k_X12_laysFar Φ 0 0 44 [.ref 0, .int (nI a), .int op, .int ((nI n) + (1 : Int32)), .int (nI s), mJ] [] m' o 0 0) ∧ (¬ (m' 4 0) ≤ (nI s) → mReq (mInB (nI s) 9) ((¬ (m' 517 ((nI s).toNatClampNeg)) = (-1 : Int32) → mWB l g d k_X12_laysFar Φ 0 0 57 [.ref 0, .int (nI a), .int op, .int (nI n), .int ((nI s) + (1 : Int32)), mJ] [] m' o 0 0) ∧ ((m' 517 ((nI s).toNatClampNeg)) = (-1 : Int32) → mCal l g d k_X12_laysFar Φ 0 0 _ 82 k_X12_has false [.int op, .int (nI s)] [] [.ref 0, .int (nI a), .int op, .int (nI n), .int (nI s), mJ] m' o 0 0 1)))
        have hfs : ¬ nS A ≤ s := by omega
        simp (disch := omega) only [mReq_tt, nI_0a, nI_a0, nI_cl, mIn_ok, lit_add, lit_sub, add_lit, lit_le, le_lit, lit_lt, lt_lit, eq_lit, nI_add, nI_1, nI_leI, nI_ltI, nI_eq, mIn_lit, mIn_0, mIn_1, mIn_2, mIn_3, nI_l0, nI_p0, rf_22, rf_44, rf_60, rf_69, rf_391, rf_7, rf_37, rf_51, rf_230, rf_401, rf_413, rf_496, rf_513, rf_518, sB_2, sB_3, sB_4, sB_5, sB_6, sB_7, sL_2, sL_3, sL_4, sL_5, sL_6, sL_7, not_true_eq_false, not_false_eq_true, false_implies, true_implies, true_and, and_true, eq_self, true_or, or_true, Nat.le_refl, Nat.zero_add, Nat.add_zero, clA hm', hN.1, hfs]
        have hms := h2 s (Nat.le_refl _) hs
        rw [hms]
        have stay : ¬ (fl A op a n s = -1 ∧ hB op s ∧ ∃ t, t < nS A ∧ fl A op a n t = nI n ∧ Ln A (nI t) (nI s)) → mWB l g d k_X12_laysFar Φ 0 0 57 [.ref 0, .int (nI a), .int op, .int (nI n), .int (nI (s + 1)), mJ] [] m' o 0 0 := fun q => ih2 m' he (fun j hj => by
          by_cases e : j = s
          · subst e
            rw [hms]
            exact (ifp_f q).symm
          · exact h1 j (by omega)) (fun j hj hj2 => h2 j (by omega) hj2)
        refine ⟨fun q => stay (fun z => q z.1), fun q => ?_⟩
        refine fCi htr (q_has op (by omega) m') hd ?_
        show (¬ (pI (hB op s)) = 0 → mWB l g d k_X12_laysFar Φ 0 0 94 [.ref 0, .int (nI a), .int op, .int (nI n), .int (nI s), .int (0 : Int32)] [] m' o 0 0) ∧ ((pI (hB op s)) = 0 → mWB l g d k_X12_laysFar Φ 0 0 57 [.ref 0, .int (nI a), .int op, .int (nI n), .int ((nI s) + (1 : Int32)), mJ] [] m' o 0 0)
        rw [nI_1]
        refine ⟨fun hh => ?_, fun hh => stay (fun z => pI_0.mp hh z.2.1)⟩
        have hop := pI_1.mp hh
        refine mLoopZ (P := fun k => ∀ m', eqL lF m m' → (∀ j, j < s → m' 517 j = fl A op a (n + 1) j) → (∀ j, s < j → j < nS A → m' 517 j = fl A op a n j) → m' 517 s = ifp (∃ t, t < k ∧ fl A op a n t = nI n ∧ Ln A (nI t) (nI s)) (nI (n + 1)) (-1) → mWB l g d k_X12_laysFar Φ 0 0 94 [.ref 0, .int (nI a), .int op, .int (nI n), .int (nI s), .int (nI k)] [] m' o 0 0) (N := nS A) ?_ ?_ m' he h1 (fun j hj hj2 => h2 j (by omega) hj2) (by rw [ifp_f (fun ⟨t, ht, _⟩ => by omega), hms, q])
        · intro m' he h1 h2 h3
          have hm' := eqF_cl he hm
          refine mGoOn (mOk (by decide)) rfl [44,57,94] 400 ?_
          show ((m' 4 0) ≤ (nI (nS A)) → mWB l g d k_X12_laysFar Φ 0 0 57 [.ref 0, .int (nI a), .int op, .int (nI n), .int ((nI s) + (1 : Int32)), .int (nI (nS A))] [] m' o 0 0) ∧ (¬ (m' 4 0) ≤ (nI (nS A)) → mReq (mInB (nI (nS A)) 9) ((¬ (m' 517 ((nI (nS A)).toNatClampNeg)) = (nI n) → mWB l g d k_X12_laysFar Φ 0 0 94 [.ref 0, .int (nI a), .int op, .int (nI n), .int (nI s), .int ((nI (nS A)) + (1 : Int32))] [] m' o 0 0) ∧ ((m' 517 ((nI (nS A)).toNatClampNeg)) = (nI n) → True ∧ mCal l g d k_X12_laysFar Φ 0 0 _ 121 k_X12_isLane false [.ref 0, .int (nI (nS A)), .int (nI s)] [] [.ref 0, .int (nI a), .int op, .int (nI n), .int (nI s), .int (nI (nS A))] m' o 0 0 1)))
          simp (disch := omega) only [mReq_tt, nI_0a, nI_a0, nI_cl, mIn_ok, lit_add, lit_sub, add_lit, lit_le, le_lit, lit_lt, lt_lit, eq_lit, nI_add, nI_1, nI_leI, nI_ltI, nI_eq, mIn_lit, mIn_0, mIn_1, mIn_2, mIn_3, nI_l0, nI_p0, rf_22, rf_44, rf_60, rf_69, rf_391, rf_7, rf_37, rf_51, rf_230, rf_401, rf_413, rf_496, rf_513, rf_518, sB_2, sB_3, sB_4, sB_5, sB_6, sB_7, sL_2, sL_3, sL_4, sL_5, sL_6, sL_7, not_true_eq_false, not_false_eq_true, false_implies, true_implies, true_and, and_true, eq_self, true_or, or_true, Nat.le_refl, Nat.zero_add, Nat.add_zero, clA hm', hN.1]
          refine mWB_wk (ih2 m' he (fun j hj => ?_) (fun j hj hj2 => h2 j (by omega) hj2)) ⟨Or.inr rfl, Or.inr rfl, Or.inr rfl, Or.inr rfl, Or.inr rfl, Or.inl rfl, trivial⟩
          by_cases e : j = s
          · subst e
            rw [h3]
            show _ = ifp _ _ _
            by_cases z : ∃ t, t < nS A ∧ fl A op a n t = nI n ∧ Ln A (nI t) (nI j)
            · rw [ifp_t z, ifp_t ⟨q, hop, z⟩]
            · rw [ifp_f z, ifp_f (fun y => z y.2.2), q]
          · exact h1 j (by omega)
        · intro k hk ih3 m' he h1 h2 h3
          have hm' := eqF_cl he hm
          refine mGoOn (mOk (by decide)) rfl [44,57,94] 400 ?_
          show ((m' 4 0) ≤ (nI k) → mWB l g d k_X12_laysFar Φ 0 0 57 [.ref 0, .int (nI a), .int op, .int (nI n), .int ((nI s) + (1 : Int32)), .int (nI k)] [] m' o 0 0) ∧ (¬ (m' 4 0) ≤ (nI k) → mReq (mInB (nI k) 9) ((¬ (m' 517 ((nI k).toNatClampNeg)) = (nI n) → mWB l g d k_X12_laysFar Φ 0 0 94 [.ref 0, .int (nI a), .int op, .int (nI n), .int (nI s), .int ((nI k) + (1 : Int32))] [] m' o 0 0) ∧ ((m' 517 ((nI k).toNatClampNeg)) = (nI n) → True ∧ mCal l g d k_X12_laysFar Φ 0 0 _ 121 k_X12_isLane false [.ref 0, .int (nI k), .int (nI s)] [] [.ref 0, .int (nI a), .int op, .int (nI n), .int (nI s), .int (nI k)] m' o 0 0 1)))
          have hfk : ¬ nS A ≤ k := by omega
          simp (disch := omega) only [mReq_tt, nI_0a, nI_a0, nI_cl, mIn_ok, lit_add, lit_sub, add_lit, lit_le, le_lit, lit_lt, lt_lit, eq_lit, nI_add, nI_1, nI_leI, nI_ltI, nI_eq, mIn_lit, mIn_0, mIn_1, mIn_2, mIn_3, nI_l0, nI_p0, rf_22, rf_44, rf_60, rf_69, rf_391, rf_7, rf_37, rf_51, rf_230, rf_401, rf_413, rf_496, rf_513, rf_518, sB_2, sB_3, sB_4, sB_5, sB_6, sB_7, sL_2, sL_3, sL_4, sL_5, sL_6, sL_7, not_true_eq_false, not_false_eq_true, false_implies, true_implies, true_and, and_true, eq_self, true_or, or_true, Nat.le_refl, Nat.zero_add, Nat.add_zero, clA hm', hN.1, hfk]
          have hkn : m' 517 k = nI n ↔ fl A op a n k = nI n := by
            by_cases e : k = s
            · subst e
              rw [h3, q]
              refine ⟨fun z => ?_, fun z => absurd z.symm (nI_m1 (by omega))⟩
              by_cases y : ∃ t, t < k ∧ fl A op a n t = nI n ∧ Ln A (nI t) (nI k)
              · rw [ifp_t y, nI_eq (by omega) (by omega)] at z; omega
              · rw [ifp_f y] at z; exact absurd z.symm (nI_m1 (by omega))
            · by_cases e2 : k < s
              · rw [h1 k e2, fl_ne A op a n k (by omega)]
              · rw [h2 k (by omega) hk]
          have skip : ¬ (fl A op a n k = nI n ∧ Ln A (nI k) (nI s)) → mWB l g d k_X12_laysFar Φ 0 0 94 [.ref 0, .int (nI a), .int op, .int (nI n), .int (nI s), .int (nI (k + 1))] [] m' o 0 0 := fun z => ih3 m' he h1 h2 (by
            rw [h3]
            by_cases y : ∃ t, t < k ∧ fl A op a n t = nI n ∧ Ln A (nI t) (nI s)
            · obtain ⟨t, ht, y⟩ := y
              rw [ifp_t ⟨t, ht, y⟩, ifp_t ⟨t, by omega, y⟩]
            · rw [ifp_f y, ifp_f (fun ⟨t, ht, x⟩ => by
                by_cases e : t = k
                · subst e; exact z x
                · exact y ⟨t, by omega, x⟩)])
          refine ⟨fun z => skip (fun y => z (hkn.mpr y.1)), fun z => ?_⟩
          refine fCi htr (r_isLane hA hm' _ _) hd ?_
          show ((pI (Ln A (nI k) (nI s))) = 0 → mWB l g d k_X12_laysFar Φ 0 0 94 [.ref 0, .int (nI a), .int op, .int (nI n), .int (nI s), .int ((nI k) + (1 : Int32))] [] m' o 0 0) ∧ (¬ (pI (Ln A (nI k) (nI s))) = 0 → mReq (mInB (nI s) 9) (mWB l g d k_X12_laysFar Φ 0 0 94 [.ref 0, .int (nI a), .int op, .int (nI n), .int (nI s), .int ((nI k) + (1 : Int32))] [] (mset m' 517 ((nI s).toNatClampNeg) ((nI n) + (1 : Int32))) o 0 0))
          simp (disch := omega) only [mReq_tt, nI_0a, nI_a0, nI_cl, mIn_ok, lit_add, lit_sub, add_lit, lit_le, le_lit, lit_lt, lt_lit, eq_lit, nI_add, nI_1, nI_leI, nI_ltI, nI_eq, mIn_lit, mIn_0, mIn_1, mIn_2, mIn_3, nI_l0, nI_p0, rf_22, rf_44, rf_60, rf_69, rf_391, rf_7, rf_37, rf_51, rf_230, rf_401, rf_413, rf_496, rf_513, rf_518, sB_2, sB_3, sB_4, sB_5, sB_6, sB_7, sL_2, sL_3, sL_4, sL_5, sL_6, sL_7, not_true_eq_false, not_false_eq_true, false_implies, true_implies, true_and, and_true, eq_self, true_or, or_true, Nat.le_refl, Nat.zero_add, Nat.add_zero]
          refine ⟨fun y => skip (fun x => pI_0.mp y x.2), fun y => ?_⟩
          have hy : fl A op a n k = nI n ∧ Ln A (nI k) (nI s) := ⟨hkn.mp z, pI_1.mp y⟩
          refine ih3 _ (eqL_mset he (by simp) _ _) (fun j hj => ?_) (fun j hj hj2 => ?_) ?_
          · rw [mset_eq, pk_un (by omega)]; exact h1 j hj
          · rw [mset_eq, pk_un (by omega)]; exact h2 j hj hj2
          · rw [mset_eq, pk_us, ifp_t ⟨k, by omega, hy⟩]
  refine mLoopZ (P := fun s => ∀ m', eqL lF m m' → (∀ j, j < s → m' 517 j = fl A op a 0 j) → mWB l g d k_X12_laysFar Φ 0 0 2 [.ref 0, .int (nI a), .int op, .int (nI s), mJ, mJ] [] m' o 0 0) (N := nS A) ?_ ?_ m (eqL_refl _ _) (fun j hj => by omega)
  · intro m' he h1
    have hm' := eqF_cl he hm
    refine mGoOn (mOk (by decide)) rfl [2,44] 400 ?_
    show ((m' 4 0) ≤ (nI (nS A)) → mWB l g d k_X12_laysFar Φ 0 0 44 [.ref 0, .int (nI a), .int op, .int (0 : Int32), mJ, mJ] [] m' o 0 0) ∧ (¬ (m' 4 0) ≤ (nI (nS A)) → (¬ (nI (nS A)) = (nI a) → mReq (mInB (nI (nS A)) 9) (mWB l g d k_X12_laysFar Φ 0 0 2 [.ref 0, .int (nI a), .int op, .int ((nI (nS A)) + (1 : Int32)), mJ, mJ] [] (mset m' 517 ((nI (nS A)).toNatClampNeg) (-1 : Int32)) o 0 0)) ∧ ((nI (nS A)) = (nI a) → mCal l g d k_X12_laysFar Φ 0 0 _ 24 k_X12_has false [.int op, .int (nI (nS A))] [.int (nI (nS A)), .ref 517] [.ref 0, .int (nI a), .int op, .int (nI (nS A)), mJ, mJ] m' o 0 0 1))
    simp (disch := omega) only [mReq_tt, nI_0a, nI_a0, nI_cl, mIn_ok, lit_add, lit_sub, add_lit, lit_le, le_lit, lit_lt, lt_lit, eq_lit, nI_add, nI_1, nI_leI, nI_ltI, nI_eq, mIn_lit, mIn_0, mIn_1, mIn_2, mIn_3, nI_l0, nI_p0, rf_22, rf_44, rf_60, rf_69, rf_391, rf_7, rf_37, rf_51, rf_230, rf_401, rf_413, rf_496, rf_513, rf_518, sB_2, sB_3, sB_4, sB_5, sB_6, sB_7, sL_2, sL_3, sL_4, sL_5, sL_6, sL_7, not_true_eq_false, not_false_eq_true, false_implies, true_implies, true_and, and_true, eq_self, true_or, or_true, Nat.le_refl, Nat.zero_add, Nat.add_zero, clA hm', hN.1]
    exact rounds m' he h1
  · intro s hs ih m' he h1
    have hm' := eqF_cl he hm
    refine mGoOn (mOk (by decide)) rfl [2,44] 400 ?_
    show ((m' 4 0) ≤ (nI s) → mWB l g d k_X12_laysFar Φ 0 0 44 [.ref 0, .int (nI a), .int op, .int (0 : Int32), mJ, mJ] [] m' o 0 0) ∧ (¬ (m' 4 0) ≤ (nI s) → (¬ (nI s) = (nI a) → mReq (mInB (nI s) 9) (mWB l g d k_X12_laysFar Φ 0 0 2 [.ref 0, .int (nI a), .int op, .int ((nI s) + (1 : Int32)), mJ, mJ] [] (mset m' 517 ((nI s).toNatClampNeg) (-1 : Int32)) o 0 0)) ∧ ((nI s) = (nI a) → mCal l g d k_X12_laysFar Φ 0 0 _ 24 k_X12_has false [.int op, .int (nI s)] [.int (nI s), .ref 517] [.ref 0, .int (nI a), .int op, .int (nI s), mJ, mJ] m' o 0 0 1))
    have hfs : ¬ nS A ≤ s := by omega
    simp (disch := omega) only [mReq_tt, nI_0a, nI_a0, nI_cl, mIn_ok, lit_add, lit_sub, add_lit, lit_le, le_lit, lit_lt, lt_lit, eq_lit, nI_add, nI_1, nI_leI, nI_ltI, nI_eq, mIn_lit, mIn_0, mIn_1, mIn_2, mIn_3, nI_l0, nI_p0, rf_22, rf_44, rf_60, rf_69, rf_391, rf_7, rf_37, rf_51, rf_230, rf_401, rf_413, rf_496, rf_513, rf_518, sB_2, sB_3, sB_4, sB_5, sB_6, sB_7, sL_2, sL_3, sL_4, sL_5, sL_6, sL_7, not_true_eq_false, not_false_eq_true, false_implies, true_implies, true_and, and_true, eq_self, true_or, or_true, Nat.le_refl, Nat.zero_add, Nat.add_zero, clA hm', hN.1, hfs]
    have nxt : ∀ v, v = fl A op a 0 s → mWB l g d k_X12_laysFar Φ 0 0 2 [.ref 0, .int (nI a), .int op, .int (nI (s + 1)), mJ, mJ] [] (mset m' 517 s v) o 0 0 := fun v hv => ih _ (eqL_mset he (by simp) _ _) (fun j hj => by
      rw [mset_eq]
      by_cases e : j = s
      · rw [e, pk_us, hv]
      · rw [pk_un e]; exact h1 j (by omega))
    refine ⟨fun q => nxt _ (ifp_f (fun z => q z.1)).symm, fun q => ?_⟩
    refine fCi htr (q_has op (by omega) m') hd ?_
    show ((pI (hB op s)) = 0 → mReq (mInB (nI s) 9) (mWB l g d k_X12_laysFar Φ 0 0 2 [.ref 0, .int (nI a), .int op, .int ((nI s) + (1 : Int32)), mJ, mJ] [] (mset m' 517 ((nI s).toNatClampNeg) (-1 : Int32)) o 0 0)) ∧ (¬ (pI (hB op s)) = 0 → mReq (mInB (nI s) 9) (mWB l g d k_X12_laysFar Φ 0 0 2 [.ref 0, .int (nI a), .int op, .int ((nI s) + (1 : Int32)), mJ, mJ] [] (mset m' 517 ((nI s).toNatClampNeg) (0 : Int32)) o 0 0))
    simp (disch := omega) only [mReq_tt, nI_0a, nI_a0, nI_cl, mIn_ok, lit_add, lit_sub, add_lit, lit_le, le_lit, lit_lt, lt_lit, eq_lit, nI_add, nI_1, nI_leI, nI_ltI, nI_eq, mIn_lit, mIn_0, mIn_1, mIn_2, mIn_3, nI_l0, nI_p0, rf_22, rf_44, rf_60, rf_69, rf_391, rf_7, rf_37, rf_51, rf_230, rf_401, rf_413, rf_496, rf_513, rf_518, sB_2, sB_3, sB_4, sB_5, sB_6, sB_7, sL_2, sL_3, sL_4, sL_5, sL_6, sL_7, not_true_eq_false, not_false_eq_true, false_implies, true_implies, true_and, and_true, eq_self, true_or, or_true, Nat.le_refl, Nat.zero_add, Nat.add_zero]
    exact ⟨fun y => nxt _ (ifp_f (fun z => pI_0.mp y z.2)).symm, fun y => nxt _ (ifp_t ⟨q, pI_1.mp y⟩).symm⟩
end R10
