set_option maxRecDepth 100000
/-! A CITY'S TEXT, in the reference: small steps -/
def kdI (k : Nat) : Int32 := if k = 4 then -1 else nI k
section R38
variable {l : Launch} {g : mG} {d : Nat}
theorem r_kindHere {n : Nat} {X : Mm} {p : PS} (hs : X 0 2 = nI n) (hn : n ≤ 600) (hp : p.1 ≤ n) (hf : p.2.1 = 0) (hq : skp (X 1) n p.1 = p.1) (hd : 5 ≤ d) : mFi l g d k_X12_kindHere [.ref 0] (mPS X p) (kdI (kdH (X 1) n p.1)) (mPS X p) := by
  refine nFi 0 rfl rfl rfl (by decide) rfl (fun htr o Φ hΦ => mGoOn (mOk (by decide)) rfl [72] 400 ?_)
  show True ∧ mCal l g d k_X12_kindHere Φ 0 0 _ 11 k_X12_isWord false [.ref 0, .int (19 : Int32), .int (20 : Int32), .int (18 : Int32), .int (5 : Int32), .int (5 : Int32), .int (20 : Int32)] [] [.ref 0] (mPS X p) o 0 0 1
  have h0 := r_isWord (l := l) (g := g) (d := d - 1) X p hs hn hp (by omega) 19 20 18 5 5 20
  have h1 := r_isWord (l := l) (g := g) (d := d - 1) X p hs hn hp (by omega) 12 1 14 5 0 0
  have h2 := r_isWord (l := l) (g := g) (d := d - 1) X p hs hn hp (by omega) 13 1 14 0 0 0
  rw [pIsW_at hf hq] at h0 h1 h2
  have h3 := r_isSleeper (l := l) (g := g) (d := d - 1) X p hs hn hp hq (by omega)
  unfold kdH at hΦ
  refine ⟨trivial, fCi htr h0 (by omega) ?_⟩
  show ((pI (wHere (X 1) n p.1 = wSt)) = 0 → True ∧ mCal l g d k_X12_kindHere Φ 0 0 _ 28 k_X12_isWord false [.ref 0, .int (12 : Int32), .int (1 : Int32), .int (14 : Int32), .int (5 : Int32), .int (0 : Int32), .int (0 : Int32)] [] [.ref 0] (mPS X p) o 0 0 1) ∧ (¬ (pI (wHere (X 1) n p.1 = wSt)) = 0 → Φ (.inl (some (.int (0 : Int32)))) (mPS X p) o ∧ 0 ≤ 0 ∧ 0 ≤ 0)
  refine ⟨fun q0 => ?_, fun q0 => by rw [ifp_t (pI_1.mp q0)] at hΦ; exact eR hΦ⟩
  rw [ifp_f (pI_0.mp q0)] at hΦ
  refine ⟨trivial, fCi htr h1 (by omega) ?_⟩
  show ((pI (wHere (X 1) n p.1 = wLn)) = 0 → True ∧ mCal l g d k_X12_kindHere Φ 0 0 _ 45 k_X12_isWord false [.ref 0, .int (13 : Int32), .int (1 : Int32), .int (14 : Int32), .int (0 : Int32), .int (0 : Int32), .int (0 : Int32)] [] [.ref 0] (mPS X p) o 0 0 1) ∧ (¬ (pI (wHere (X 1) n p.1 = wLn)) = 0 → Φ (.inl (some (.int (1 : Int32)))) (mPS X p) o ∧ 0 ≤ 0 ∧ 0 ≤ 0)
  refine ⟨fun q1 => ?_, fun q1 => by rw [ifp_t (pI_1.mp q1)] at hΦ; exact eR hΦ⟩
  rw [ifp_f (pI_0.mp q1)] at hΦ
  refine ⟨trivial, fCi htr h2 (by omega) ?_⟩
  show ((pI (wHere (X 1) n p.1 = wMn)) = 0 → (¬ ((mPS X p) 0 5) = 0 → mWB l g d k_X12_kindHere Φ 0 0 72 [.ref 0] [.int (-1 : Int32)] (mPS X p) o 0 0) ∧ (((mPS X p) 0 5) = 0 → True ∧ mCal l g d k_X12_kindHere Φ 0 0 _ 61 k_X12_isSleeper false [.ref 0] [] [.ref 0] (mPS X p) o 0 0 1)) ∧ (¬ (pI (wHere (X 1) n p.1 = wMn)) = 0 → Φ (.inl (some (.int (2 : Int32)))) (mPS X p) o ∧ 0 ≤ 0 ∧ 0 ≤ 0)
  refine ⟨fun q2 => ?_, fun q2 => by rw [ifp_t (pI_1.mp q2)] at hΦ; exact eR hΦ⟩
  rw [ifp_f (pI_0.mp q2)] at hΦ
  rw [mPS_5]
  refine ⟨fun y => absurd hf y, fun _ => ⟨trivial, fCi htr h3 (by omega) ?_⟩⟩
  show ((pI (isSl (X 1) n p.1)) = 0 → mWB l g d k_X12_kindHere Φ 0 0 72 [.ref 0] [.int (-1 : Int32)] (mPS X p) o 0 0) ∧ (¬ (pI (isSl (X 1) n p.1)) = 0 → mWB l g d k_X12_kindHere Φ 0 0 72 [.ref 0] [.int (3 : Int32)] (mPS X p) o 0 0)
  refine ⟨fun q3 => ?_, fun q3 => ?_⟩
  · rw [ifp_f (pI_0.mp q3)] at hΦ
    refine mGoOn (mOk (by decide)) rfl [] 400 ?_
    show Φ (.inl (some (.int (-1 : Int32)))) (mPS X p) o ∧ 0 ≤ 0 ∧ 0 ≤ 0
    exact eR hΦ
  · rw [ifp_t (pI_1.mp q3)] at hΦ
    refine mGoOn (mOk (by decide)) rfl [] 400 ?_
    show Φ (.inl (some (.int (3 : Int32)))) (mPS X p) o ∧ 0 ≤ 0 ∧ 0 ≤ 0
    exact eR hΦ
theorem r_mostOf (m : Mm) {k : Nat} (hk : k < 4) : mFi l g d k_X12_mostOf [.int (nI k)] m (nI (most k)) m := by
  refine nFi 0 rfl rfl rfl (by decide) rfl (fun htr o Φ hΦ => mGoOn (mOk (by decide)) rfl [] 400 ?_)
  show (((nI k).toInt = 0 → Φ (.inl (some (.int (9 : Int32)))) m o ∧ 0 ≤ 0 ∧ 0 ≤ 0) ∧ ((nI k).toInt = 1 → Φ (.inl (some (.int (14 : Int32)))) m o ∧ 0 ≤ 0 ∧ 0 ≤ 0) ∧ ((nI k).toInt = 2 → Φ (.inl (some (.int (6 : Int32)))) m o ∧ 0 ≤ 0 ∧ 0 ≤ 0) ∧ True) ∧ ((nI k).toInt < 0 ∨ 2 < (nI k).toInt → Φ (.inl (some (.int (8 : Int32)))) m o ∧ 0 ≤ 0 ∧ 0 ≤ 0)
  rw [nI_toInt (by omega)]
  unfold most at hΦ
  refine ⟨⟨fun h => ?_, fun h => ?_, fun h => ?_, trivial⟩, fun h => ?_⟩
  · rw [if_pos (by omega)] at hΦ; exact eR hΦ
  · rw [if_neg (by omega), if_pos (by omega)] at hΦ; exact eR hΦ
  · rw [if_neg (by omega), if_neg (by omega), if_pos (by omega)] at hΦ; exact eR hΦ
  · rw [if_neg (by omega), if_neg (by omega), if_neg (by omega)] at hΦ; exact eR hΦ
theorem r_readStreet {n N : Nat} {X : Mm} {p : PS} (hs : X 0 2 = nI n) (hn : n ≤ 600) (hp : p.1 ≤ n) (h3 : X 3 0 = nI N) (hd : 4 ≤ d) : mFi l g d k_X12_readStreet [.ref 0] (mPS X p) (pNum (X 1) n 0 (nI N - 1) p).1 (mPS X (pNum (X 1) n 0 (nI N - 1) p).2) := by
  refine nFi 0 rfl rfl rfl (by decide) rfl (fun htr o Φ hΦ => mGoOn (mOk (by decide)) rfl [] 400 ?_)
  show True ∧ mCal l g d k_X12_readStreet Φ 0 0 _ 10 k_X12_number false [.ref 0, .int (0 : Int32), .int (((mPS X p) 3 0) - (1 : Int32))] [] [.ref 0] (mPS X p) o 0 0 1
  rw [mPS_o _ _ (by decide), h3]
  exact ⟨trivial, fCi htr (r_number X p hs hn hp (by omega) 0 (nI N - 1)) (by omega) (eR hΦ)⟩
def rdL (X : Mm) (L : List Ent) : Prop := X 3 1 = nI L.length ∧ ∀ i, i < L.length → X (8 + i) 0 = (eAt L i).1 ∧ X (8 + i) 1 = (eAt L i).2.1
theorem r_isReadLane {X : Mm} {p : PS} {L : List Ent} (hL : rdL X L) (h14 : L.length ≤ 14) (x y : Int32) : mFi l g d k_X12_isReadLane [.ref 0, .int x, .int y] (mPS X p) (pI (lnIn L x y)) (mPS X p) := by
  have hx : ∀ a, a ≠ 0 → mPS X p a = X a := fun a ha => mPS_o X p ha
  refine nFi 1 rfl rfl rfl (by decide) rfl (fun htr o Φ hΦ => mGoOn (mOk (by decide)) rfl [2] 400 ?_)
  show mWB l g d k_X12_isReadLane Φ 0 0 2 [.ref 0, .int x, .int y, .int (0 : Int32)] [] (mPS X p) o 0 0
  have hN := hL.1
  refine mLoop (P := fun e => (∀ j, j < e → ¬ lnE x y (eAt L j)) → mWB l g d k_X12_isReadLane Φ 0 0 2 [.ref 0, .int x, .int y, .int (nI e)] [] (mPS X p) o 0 0) (N := L.length) ?_ ?_ 0 (Nat.zero_le _) (fun j h => by omega)
  · intro e he ih hb
    refine mGoOn (mOk (by decide)) rfl [2] 400 ?_
    show (((mPS X p) 3 1) ≤ (nI e) → ((0 : Int32) = 0 ∨ (0 : Int32) = 1) ∧ Φ (.inl (some (.int (0 : Int32)))) (mPS X p) o ∧ 0 ≤ 0 ∧ 0 ≤ 0) ∧ (¬ ((mPS X p) 3 1) ≤ (nI e) → mReq (mInB (nI e) 14) (mReq (mIsB (mRF 7 ((nI e).toNatClampNeg)) 1) (mReq (mInB (0 : Int32) (mLn (mRF 7 ((nI e).toNatClampNeg)))) ((¬ ((mPS X p) (mRF 7 ((nI e).toNatClampNeg)) 0) = x → mReq (mInB (nI e) 14) (mReq (mIsB (mRF 7 ((nI e).toNatClampNeg)) 1) (mReq (mInB (0 : Int32) (mLn (mRF 7 ((nI e).toNatClampNeg)))) ((¬ ((mPS X p) (mRF 7 ((nI e).toNatClampNeg)) 0) = y → mWB l g d k_X12_isReadLane Φ 0 0 2 [.ref 0, .int x, .int y, .int ((nI e) + (1 : Int32))] [] (mPS X p) o 0 0) ∧ (((mPS X p) (mRF 7 ((nI e).toNatClampNeg)) 0) = y → mReq (mInB (nI e) 14) (mReq (mIsB (mRF 7 ((nI e).toNatClampNeg)) 1) (mReq (mInB (1 : Int32) (mLn (mRF 7 ((nI e).toNatClampNeg)))) ((¬ ((mPS X p) (mRF 7 ((nI e).toNatClampNeg)) 1) = x → mWB l g d k_X12_isReadLane Φ 0 0 2 [.ref 0, .int x, .int y, .int ((nI e) + (1 : Int32))] [] (mPS X p) o 0 0) ∧ (((mPS X p) (mRF 7 ((nI e).toNatClampNeg)) 1) = x → ((1 : Int32) = 0 ∨ (1 : Int32) = 1) ∧ Φ (.inl (some (.int (1 : Int32)))) (mPS X p) o ∧ 0 ≤ 0 ∧ 0 ≤ 0))))))))) ∧ (((mPS X p) (mRF 7 ((nI e).toNatClampNeg)) 0) = x → mReq (mInB (nI e) 14) (mReq (mIsB (mRF 7 ((nI e).toNatClampNeg)) 1) (mReq (mInB (1 : Int32) (mLn (mRF 7 ((nI e).toNatClampNeg)))) ((((mPS X p) (mRF 7 ((nI e).toNatClampNeg)) 1) = y → ((1 : Int32) = 0 ∨ (1 : Int32) = 1) ∧ Φ (.inl (some (.int (1 : Int32)))) (mPS X p) o ∧ 0 ≤ 0 ∧ 0 ≤ 0) ∧ (¬ ((mPS X p) (mRF 7 ((nI e).toNatClampNeg)) 1) = y → mReq (mInB (nI e) 14) (mReq (mIsB (mRF 7 ((nI e).toNatClampNeg)) 1) (mReq (mInB (0 : Int32) (mLn (mRF 7 ((nI e).toNatClampNeg)))) ((¬ ((mPS X p) (mRF 7 ((nI e).toNatClampNeg)) 0) = y → mWB l g d k_X12_isReadLane Φ 0 0 2 [.ref 0, .int x, .int y, .int ((nI e) + (1 : Int32))] [] (mPS X p) o 0 0) ∧ (((mPS X p) (mRF 7 ((nI e).toNatClampNeg)) 0) = y → mReq (mInB (nI e) 14) (mReq (mIsB (mRF 7 ((nI e).toNatClampNeg)) 1) (mReq (mInB (1 : Int32) (mLn (mRF 7 ((nI e).toNatClampNeg)))) ((¬ ((mPS X p) (mRF 7 ((nI e).toNatClampNeg)) 1) = x → mWB l g d k_X12_isReadLane Φ 0 0 2 [.ref 0, .int x, .int y, .int ((nI e) + (1 : Int32))] [] (mPS X p) o 0 0) ∧ (((mPS X p) (mRF 7 ((nI e).toNatClampNeg)) 1) = x → ((1 : Int32) = 0 ∨ (1 : Int32) = 1) ∧ Φ (.inl (some (.int (1 : Int32)))) (mPS X p) o ∧ 0 ≤ 0 ∧ 0 ≤ 0)))))))))))))))))
    have hf : ¬ L.length ≤ e := by omega
    have hr1 := (hL.2 e he).1
    have hr2 := (hL.2 e he).2
    have e3 := hx 3 (by decide)
    have e8 := hx (8 + e) (by omega)
    simp (disch := omega) only [mReq_tt, nI_0a, nI_a0, nI_cl, mIn_ok, lit_add, lit_sub, add_lit, lit_le, le_lit, lit_lt, lt_lit, eq_lit, nI_add, nI_1, nI_leI, nI_ltI, nI_eq, mIn_lit, mIn_0, mIn_1, mIn_2, mIn_3, nI_l0, nI_p0, rf_22, rf_44, rf_60, rf_69, rf_391, rf_7, rf_37, rf_51, rf_230, rf_401, rf_413, rf_496, rf_513, rf_518, sB_2, sB_3, sB_4, sB_5, sB_6, sB_7, sL_2, sL_3, sL_4, sL_5, sL_6, sL_7, not_true_eq_false, not_false_eq_true, false_implies, true_implies, true_and, and_true, eq_self, true_or, or_true, Nat.le_refl, Nat.zero_add, Nat.add_zero, sB_2, sL_2, e3, e8, hr1, hr2, hN, hf]
    have hk : ¬ lnE x y (eAt L e) → mWB l g d k_X12_isReadLane Φ 0 0 2 [.ref 0, .int x, .int y, .int (nI (e + 1))] [] (mPS X p) o 0 0 := fun q => ih (fun j hj => by
      rcases Nat.lt_or_eq_of_le (Nat.le_of_lt_succ hj) with h | h
      · exact hb j h
      · rw [h]; exact q)
    have hr : lnE x y (eAt L e) → Φ (.inl (some (.int 1))) (mPS X p) o := fun q => by
      rw [pI_t (show lnIn L x y from ⟨e, he, q⟩)] at hΦ
      exact hΦ
    unfold lnE at hk hr
    grind
  · intro hb
    refine mGoOn (mOk (by decide)) rfl [2] 400 ?_
    show (((mPS X p) 3 1) ≤ (nI L.length) → ((0 : Int32) = 0 ∨ (0 : Int32) = 1) ∧ Φ (.inl (some (.int (0 : Int32)))) (mPS X p) o ∧ 0 ≤ 0 ∧ 0 ≤ 0) ∧ (¬ ((mPS X p) 3 1) ≤ (nI L.length) → mReq (mInB (nI L.length) 14) (mReq (mIsB (mRF 7 ((nI L.length).toNatClampNeg)) 1) (mReq (mInB (0 : Int32) (mLn (mRF 7 ((nI L.length).toNatClampNeg)))) ((¬ ((mPS X p) (mRF 7 ((nI L.length).toNatClampNeg)) 0) = x → mReq (mInB (nI L.length) 14) (mReq (mIsB (mRF 7 ((nI L.length).toNatClampNeg)) 1) (mReq (mInB (0 : Int32) (mLn (mRF 7 ((nI L.length).toNatClampNeg)))) ((¬ ((mPS X p) (mRF 7 ((nI L.length).toNatClampNeg)) 0) = y → mWB l g d k_X12_isReadLane Φ 0 0 2 [.ref 0, .int x, .int y, .int ((nI L.length) + (1 : Int32))] [] (mPS X p) o 0 0) ∧ (((mPS X p) (mRF 7 ((nI L.length).toNatClampNeg)) 0) = y → mReq (mInB (nI L.length) 14) (mReq (mIsB (mRF 7 ((nI L.length).toNatClampNeg)) 1) (mReq (mInB (1 : Int32) (mLn (mRF 7 ((nI L.length).toNatClampNeg)))) ((¬ ((mPS X p) (mRF 7 ((nI L.length).toNatClampNeg)) 1) = x → mWB l g d k_X12_isReadLane Φ 0 0 2 [.ref 0, .int x, .int y, .int ((nI L.length) + (1 : Int32))] [] (mPS X p) o 0 0) ∧ (((mPS X p) (mRF 7 ((nI L.length).toNatClampNeg)) 1) = x → ((1 : Int32) = 0 ∨ (1 : Int32) = 1) ∧ Φ (.inl (some (.int (1 : Int32)))) (mPS X p) o ∧ 0 ≤ 0 ∧ 0 ≤ 0))))))))) ∧ (((mPS X p) (mRF 7 ((nI L.length).toNatClampNeg)) 0) = x → mReq (mInB (nI L.length) 14) (mReq (mIsB (mRF 7 ((nI L.length).toNatClampNeg)) 1) (mReq (mInB (1 : Int32) (mLn (mRF 7 ((nI L.length).toNatClampNeg)))) ((((mPS X p) (mRF 7 ((nI L.length).toNatClampNeg)) 1) = y → ((1 : Int32) = 0 ∨ (1 : Int32) = 1) ∧ Φ (.inl (some (.int (1 : Int32)))) (mPS X p) o ∧ 0 ≤ 0 ∧ 0 ≤ 0) ∧ (¬ ((mPS X p) (mRF 7 ((nI L.length).toNatClampNeg)) 1) = y → mReq (mInB (nI L.length) 14) (mReq (mIsB (mRF 7 ((nI L.length).toNatClampNeg)) 1) (mReq (mInB (0 : Int32) (mLn (mRF 7 ((nI L.length).toNatClampNeg)))) ((¬ ((mPS X p) (mRF 7 ((nI L.length).toNatClampNeg)) 0) = y → mWB l g d k_X12_isReadLane Φ 0 0 2 [.ref 0, .int x, .int y, .int ((nI L.length) + (1 : Int32))] [] (mPS X p) o 0 0) ∧ (((mPS X p) (mRF 7 ((nI L.length).toNatClampNeg)) 0) = y → mReq (mInB (nI L.length) 14) (mReq (mIsB (mRF 7 ((nI L.length).toNatClampNeg)) 1) (mReq (mInB (1 : Int32) (mLn (mRF 7 ((nI L.length).toNatClampNeg)))) ((¬ ((mPS X p) (mRF 7 ((nI L.length).toNatClampNeg)) 1) = x → mWB l g d k_X12_isReadLane Φ 0 0 2 [.ref 0, .int x, .int y, .int ((nI L.length) + (1 : Int32))] [] (mPS X p) o 0 0) ∧ (((mPS X p) (mRF 7 ((nI L.length).toNatClampNeg)) 1) = x → ((1 : Int32) = 0 ∨ (1 : Int32) = 1) ∧ Φ (.inl (some (.int (1 : Int32)))) (mPS X p) o ∧ 0 ≤ 0 ∧ 0 ≤ 0)))))))))))))))))
    have e3 := hx 3 (by decide)
    simp (disch := omega) only [mReq_tt, nI_0a, nI_a0, nI_cl, mIn_ok, lit_add, lit_sub, add_lit, lit_le, le_lit, lit_lt, lt_lit, eq_lit, nI_add, nI_1, nI_leI, nI_ltI, nI_eq, mIn_lit, mIn_0, mIn_1, mIn_2, mIn_3, nI_l0, nI_p0, rf_22, rf_44, rf_60, rf_69, rf_391, rf_7, rf_37, rf_51, rf_230, rf_401, rf_413, rf_496, rf_513, rf_518, sB_2, sB_3, sB_4, sB_5, sB_6, sB_7, sL_2, sL_3, sL_4, sL_5, sL_6, sL_7, not_true_eq_false, not_false_eq_true, false_implies, true_implies, true_and, and_true, eq_self, true_or, or_true, Nat.le_refl, Nat.zero_add, Nat.add_zero, e3, hN]
    rw [pI_f (show ¬ lnIn L x y from fun ⟨e, he, q⟩ => hb e he q)] at hΦ
    exact hΦ
end R38
