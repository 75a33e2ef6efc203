set_option maxRecDepth 100000
/-! A LAW'S TEXT, in the reference -/
def cAt (cs : List (Nat × Nat)) (i : Nat) : Nat × Nat := cs.getD i (0, 0)
theorem cAt_app {cs : List (Nat × Nat)} {c : Nat × Nat} {i : Nat} (h : i < cs.length) : cAt (cs ++ [c]) i = cAt cs i := by
  unfold cAt
  rw [List.getD_eq_getElem?_getD, List.getD_eq_getElem?_getD, List.getElem?_append_left h]
theorem cAt_new {cs : List (Nat × Nat)} {c : Nat × Nat} : cAt (cs ++ [c]) cs.length = c := by
  unfold cAt
  rw [List.getD_eq_getElem?_getD, List.getElem?_append_right (Nat.le_refl _), Nat.sub_self]
  rfl
def RLw (X0 : Mm) (k : Nat) (cs : List (Nat × Nat)) (X : Mm) : Prop := (∀ a, a ≠ 0 → a < 231 ∨ 390 < a → X a = X0 a) ∧ (∀ i, i ≠ 8 → i ≠ 22 → X 0 i = X0 0 i) ∧ X 0 8 = nI k ∧ X 0 22 = nI cs.length ∧ ∀ i, i < cs.length → X (231 + i) 0 = nI (cAt cs i).1 ∧ X (231 + i) 1 = nI (cAt cs i).2
theorem RLw_k {X0 X : Mm} {k k' : Nat} {cs : List (Nat × Nat)} (h : RLw X0 k cs X) : RLw X0 k' cs (mset X 0 8 (nI k')) := by
  refine ⟨fun a h1 h2 => ?_, fun i h1 h2 => ?_, ?_, ?_, fun i hi => ?_⟩
  · rw [mset_ne _ _ _ h1]; exact h.1 a h1 h2
  · rw [mset_eq, pk_un h1]; exact h.2.1 i h1 h2
  · rw [mset_eq, pk_us]
  · rw [mset_eq, pk_un (by decide)]; exact h.2.2.2.1
  · rw [mset_ne _ _ _ (by omega)]; exact h.2.2.2.2 i hi
theorem RLw_nt {X0 X : Mm} {k a b : Nat} {s : QS} (h : RLw X0 k s.2 X) (hl : s.2.length < 160) : RLw X0 k (lNt a b s).2 (if s.1.2.1 = 0 then lNote X s.2.length (nI a) (nI b) else X) := by
  by_cases q : s.1.2.1 = 0
  · have e : lNt a b s = (s.1, s.2 ++ [(a, b)]) := ifp_t q
    rw [e, if_pos q]
    unfold lNote
    have hlen : (s.2 ++ [(a, b)]).length = s.2.length + 1 := by rw [List.length_append]; rfl
    refine ⟨fun x h1 h2 => ?_, fun i h1 h2 => ?_, ?_, ?_, fun i hi => ?_⟩
    · rw [mset_ne _ _ _ h1, mset_ne _ _ _ (by omega), mset_ne _ _ _ (by omega)]; exact h.1 x h1 h2
    · rw [mset_eq, pk_un h2, mset_ne _ _ _ (by omega), mset_ne _ _ _ (by omega)]; exact h.2.1 i h1 h2
    · rw [mset_eq, pk_un (by decide), mset_ne _ _ _ (by omega), mset_ne _ _ _ (by omega)]; exact h.2.2.1
    · rw [mset_eq, pk_us]; show _ = nI (s.2 ++ [(a, b)]).length; rw [hlen]
    · have hi2 : i < (s.2 ++ [(a, b)]).length := hi
      rw [hlen] at hi2
      show _ = nI (cAt (s.2 ++ [(a, b)]) i).1 ∧ _ = nI (cAt (s.2 ++ [(a, b)]) i).2
      rw [mset_ne _ _ _ (by omega)]
      by_cases z : i = s.2.length
      · subst z
        rw [cAt_new, mset_eq, mset_eq, pk_un (by decide), pk_us, pk_us]
        exact ⟨rfl, rfl⟩
      · rw [cAt_app (by omega), mset_ne _ _ _ (by omega), mset_ne _ _ _ (by omega)]
        exact h.2.2.2.2 i (by omega)
  · have e : lNt a b s = s := ifp_f q
    rw [e, if_neg q]
    exact h
theorem lNt_1 (a b : Nat) (s : QS) : (lNt a b s).1 = s.1 := by
  unfold lNt
  by_cases q : s.1.2.1 = 0
  · rw [ifp_t q]
  · rw [ifp_f q]
section RK
variable {T : Nat → Int32} {n : Nat}
theorem pIsW_at {w : Int32} {p : PS} (hf : p.2.1 = 0) (hq : skp T n p.1 = p.1) : pIsW T n w p = (pI (wHere T n p.1 = w), p) := by
  unfold pIsW pBl
  rw [if_pos hf, hq]
theorem pTk_at {w : Int32} {p : PS} (hf : p.2.1 = 0) (hq : skp T n p.1 = p.1) : pTk T n w p = (pI (wHere T n p.1 = w), if wHere T n p.1 = w then (swd T n (n - p.1) p.1, p.2) else p) := by
  unfold pTk
  rw [pIsW_at hf hq]
  by_cases z : wHere T n p.1 = w
  · rw [pI_t z, if_pos z]; rfl
  · rw [pI_f z, if_neg z]; rfl
theorem pKn_at {p : PS} (hf : p.2.1 = 0) (hq : skp T n p.1 = p.1) : ∀ (ws : List Int32) (i : Nat), (∃ j, j < ws.length ∧ wHere T n p.1 = ws.getD j 0 ∧ pKn T n ws i p = (nI (i + j), (swd T n (n - p.1) p.1, p.2))) ∨ ((∀ j, j < ws.length → wHere T n p.1 ≠ ws.getD j 0) ∧ pKn T n ws i p = (-1, p))
  | [], i => Or.inr ⟨fun j h => absurd h (Nat.not_lt_zero _), rfl⟩
  | w :: ws, i => by
    have e : pKn T n (w :: ws) i p = if (pTk T n w p).1 = 0 then pKn T n ws (i + 1) (pTk T n w p).2 else (nI i, (pTk T n w p).2) := rfl
    rw [pTk_at hf hq] at e
    by_cases z : wHere T n p.1 = w
    · rw [if_pos z, pI_t z] at e
      exact Or.inl ⟨0, Nat.succ_pos _, z, by rw [e]; rfl⟩
    · rw [if_neg z, pI_f z] at e
      have e2 : pKn T n (w :: ws) i p = pKn T n ws (i + 1) p := e
      rw [e2]
      rcases pKn_at hf hq ws (i + 1) with ⟨j, h1, h2, h3⟩ | ⟨h1, h2⟩
      · exact Or.inl ⟨j + 1, Nat.succ_lt_succ h1, h2, by rw [h3, show i + 1 + j = i + (j + 1) by omega]⟩
      · refine Or.inr ⟨fun j hj => ?_, h2⟩
        cases j with
        | zero => exact z
        | succ j => exact h1 j (Nat.lt_of_succ_lt_succ hj)
theorem pTks_at {c : Int32} {p : PS} (hf : p.2.1 = 0) : pTks T n c p = if bAt T n (skp T n p.1) = c then (1, (skp T n p.1 + 1, p.2)) else (0, pBl T n p) := if_pos hf
end RK
section R32
variable {l : Launch} {g : mG} {d : Nat}
theorem r_one_f {X : Mm} {p : PS} {Q : Mm → Prop} (hq : Q (mPS X p)) (h : p.2.1 ≠ 0) : mHv l g d k_X12_one [.ref 0] (mPS X p) Q := by
  refine nBv 2 rfl rfl rfl (by decide) rfl (fun htr o Φ hΦ => mGoOn (mOk (by decide)) rfl [56] 400 ?_)
  show (((mPS X p) 0 5) = 0 → True ∧ mCal l g d k_X12_one Φ 0 0 _ 9 k_X12_blanks false [.ref 0] [] [.ref 0, mJ, mJ] (mPS X p) o 0 0 0) ∧ (¬ ((mPS X p) 0 5) = 0 → Φ (.inl none) (mPS X p) o ∧ 0 ≤ 0 ∧ 0 ≤ 0)
  rw [mPS_5]
  exact ⟨fun q => absurd q h, fun _ => eR (hΦ _ hq)⟩
theorem r_prod_f {X : Mm} {p : PS} {Q : Mm → Prop} (hq : Q (mPS X p)) (h : p.2.1 ≠ 0) (hd : 1 ≤ d) : mHv l g d k_X12_product [.ref 0] (mPS X p) Q := by
  refine nBv 1 rfl rfl rfl (by decide) rfl (fun htr o Φ hΦ => mGoOn (mOk (by decide)) rfl [4] 400 ?_)
  show True ∧ mCal l g d k_X12_product Φ 0 0 _ 1 k_X12_one false [.ref 0] [] [.ref 0, mJ] (mPS X p) o 0 0 0
  refine ⟨trivial, nCv htr (r_one_f (Q := fun m2 => m2 = mPS X p) rfl h) (by omega) ?_⟩
  rintro _ rfl
  refine mGoOn (mOk (by decide)) rfl [52] 400 ?_
  show (¬ ((mPS X p) 0 5) = 0 → Φ (.inl none) (mPS X p) o ∧ 0 ≤ 0 ∧ 0 ≤ 0) ∧ (((mPS X p) 0 5) = 0 → True ∧ mCal l g d k_X12_product Φ 0 0 _ 14 k_X12_takesSign false [.ref 0, .int (42 : Int32)] [] [.ref 0, mJ] (mPS X p) o 0 0 1)
  rw [mPS_5]
  exact ⟨fun _ => eR (hΦ _ hq), fun q => absurd q h⟩
theorem r_sum_f {X : Mm} {p : PS} {Q : Mm → Prop} (hq : Q (mPS X p)) (h : p.2.1 ≠ 0) (hd : 2 ≤ d) : mHv l g d k_X12_sum [.ref 0] (mPS X p) Q := by
  refine nBv 1 rfl rfl rfl (by decide) rfl (fun htr o Φ hΦ => mGoOn (mOk (by decide)) rfl [4] 400 ?_)
  show True ∧ mCal l g d k_X12_sum Φ 0 0 _ 1 k_X12_product false [.ref 0] [] [.ref 0, mJ] (mPS X p) o 0 0 0
  refine ⟨trivial, nCv htr (r_prod_f (Q := fun m2 => m2 = mPS X p) rfl h (by omega)) (by omega) ?_⟩
  rintro _ rfl
  refine mGoOn (mOk (by decide)) rfl [38] 400 ?_
  show (¬ ((mPS X p) 0 5) = 0 → Φ (.inl none) (mPS X p) o ∧ 0 ≤ 0 ∧ 0 ≤ 0) ∧ (((mPS X p) 0 5) = 0 → True ∧ mCal l g d k_X12_sum Φ 0 0 _ 14 k_X12_takesSign false [.ref 0, .int (43 : Int32)] [] [.ref 0, mJ] (mPS X p) o 0 0 1)
  rw [mPS_5]
  exact ⟨fun _ => eR (hΦ _ hq), fun q => absurd q h⟩
end R32
