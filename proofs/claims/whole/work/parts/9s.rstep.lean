set_option maxRecDepth 100000
/-! A WORK'S TEXT, in the reference -/
def sHI (k : Nat) : Int32 := if k = 5 then -1 else nI k
def rowW (X : Mm) (i : Nat) (e : W5) : Prop := X (414 + i) 0 = nI e.1 ∧ (e.1 < 3 ∨ e.1 = 4 → X (414 + i) 1 = nI e.2.1) ∧ (e.1 = 0 → X (414 + i) 2 = nI e.2.2.1) ∧ (e.2.2.2.1 ≠ 0 → X (414 + i) 3 = nI e.2.2.2.1)
/-- the reference's row of steps; g: nothing is wrong yet -/
def RWk (X0 : Mm) (k : Nat) (a : WA) (g : Prop) (X : Mm) : Prop := (∀ x, x ≠ 0 → x < 414 ∨ 493 < x → X x = X0 x) ∧ (∀ i, i ≠ 8 → i ≠ 30 → X 0 i = X0 0 i) ∧ X 0 8 = nI k ∧ (g → X 0 30 = nI a.1 ∧ ∀ i, i < a.1 → rowW X i (a.2 i))
section R44
variable {l : Launch} {g : mG} {d : Nat}
theorem r_stepHere {n : Nat} {X : Mm} {p : PS} (hs : X 0 2 = nI n) (hn : n ≤ 600) (hp : p.1 ≤ n) (hf : p.2.1 = 0) (hq : skp (X 1) n p.1 = p.1) (hd : 5 ≤ d) : mFi l g d k_X12_stepHere [.ref 0] (mPS X p) (sHI (stH (X 1) n p.1)) (mPS X p) := by
  refine nFi 0 rfl rfl rfl (by decide) rfl (fun htr o Φ hΦ => mGoOn (mOk (by decide)) rfl [19,91] 400 ?_)
  show (¬ ((mPS X p) 0 5) = 0 → mWB l g d k_X12_stepHere Φ 0 0 19 [.ref 0] [] (mPS X p) o 0 0) ∧ (((mPS X p) 0 5) = 0 → True ∧ mCal l g d k_X12_stepHere Φ 0 0 _ 8 k_X12_wordHere false [.ref 0] [] [.ref 0] (mPS X p) o 0 0 1)
  have h0 := r_wordHere (l := l) (g := g) (d := d - 1) X p hs hn hp (by omega)
  have h1 := r_isWord (l := l) (g := g) (d := d - 1) X p hs hn hp (by omega) 3 1 12 12 0 0
  have h2 := r_isWord (l := l) (g := g) (d := d - 1) X p hs hn hp (by omega) 2 5 4 0 0 0
  have h3 := r_isWord (l := l) (g := g) (d := d - 1) X p hs hn hp (by omega) 8 15 21 18 0 0
  have h4 := r_isWord (l := l) (g := g) (d := d - 1) X p hs hn hp (by omega) 1 7 1 9 14 0
  rw [pIsW_at hf hq] at h1 h2 h3 h4
  have ep : pBl (X 1) n p = p := by unfold pBl; rw [hq]
  rw [ep, hq] at h0
  unfold stH at hΦ
  rw [mPS_5]
  refine ⟨fun y => absurd hf y, fun _ => ⟨trivial, fCi htr h0 (by omega) ?_⟩⟩
  show (¬ (wHere (X 1) n p.1) = (204 : Int32) → mWB l g d k_X12_stepHere Φ 0 0 19 [.ref 0] [] (mPS X p) o 0 0) ∧ ((wHere (X 1) n p.1) = (204 : Int32) → Φ (.inl (some (.int (0 : Int32)))) (mPS X p) o ∧ 0 ≤ 0 ∧ 0 ≤ 0)
  refine ⟨fun q0 => ?_, fun q0 => by rw [ifp_t q0] at hΦ; exact eR hΦ⟩
  rw [ifp_f q0] at hΦ
  refine mGoOn (mOk (by decide)) rfl [91] 400 ?_
  show True ∧ mCal l g d k_X12_stepHere Φ 0 0 _ 28 k_X12_isWord false [.ref 0, .int (3 : Int32), .int (1 : Int32), .int (12 : Int32), .int (12 : Int32), .int (0 : Int32), .int (0 : Int32)] [] [.ref 0] (mPS X p) o 0 0 1
  refine ⟨trivial, fCi htr h1 (by omega) ?_⟩
  show ((pI (wHere (X 1) n p.1 = wCa)) = 0 → True ∧ mCal l g d k_X12_stepHere Φ 0 0 _ 43 k_X12_isWord false [.ref 0, .int (2 : Int32), .int (5 : Int32), .int (4 : Int32), .int (0 : Int32), .int (0 : Int32), .int (0 : Int32)] [] [.ref 0] (mPS X p) o 0 0 1) ∧ (¬ (pI (wHere (X 1) n p.1 = wCa)) = 0 → Φ (.inl (some (.int (1 : Int32)))) (mPS X p) o ∧ 0 ≤ 0 ∧ 0 ≤ 0)
  refine ⟨fun q1 => ?_, fun q1 => by rw [ifp_t (pI_1.mp q1)] at hΦ; exact eR hΦ⟩
  rw [ifp_f (pI_0.mp q1)] at hΦ
  refine ⟨trivial, fCi htr h2 (by omega) ?_⟩
  show ((pI (wHere (X 1) n p.1 = wBe)) = 0 → True ∧ mCal l g d k_X12_stepHere Φ 0 0 _ 62 k_X12_isWord false [.ref 0, .int (8 : Int32), .int (15 : Int32), .int (21 : Int32), .int (18 : Int32), .int (0 : Int32), .int (0 : Int32)] [] [.ref 0] (mPS X p) o 0 0 1) ∧ (¬ (pI (wHere (X 1) n p.1 = wBe)) = 0 → Φ (.inl (some (.int (2 : Int32)))) (mPS X p) o ∧ 0 ≤ 0 ∧ 0 ≤ 0)
  refine ⟨fun q2 => ?_, fun q2 => by rw [ifp_t (pI_1.mp q2)] at hΦ; exact eR hΦ⟩
  rw [ifp_f (pI_0.mp q2)] at hΦ
  refine ⟨trivial, fCi htr h3 (by omega) ?_⟩
  show ((pI (wHere (X 1) n p.1 = wHo)) = 0 → True ∧ mCal l g d k_X12_stepHere Φ 0 0 _ 80 k_X12_isWord false [.ref 0, .int (1 : Int32), .int (7 : Int32), .int (1 : Int32), .int (9 : Int32), .int (14 : Int32), .int (0 : Int32)] [] [.ref 0] (mPS X p) o 0 0 1) ∧ (¬ (pI (wHere (X 1) n p.1 = wHo)) = 0 → Φ (.inl (some (.int (3 : Int32)))) (mPS X p) o ∧ 0 ≤ 0 ∧ 0 ≤ 0)
  refine ⟨fun q3 => ?_, fun q3 => by rw [ifp_t (pI_1.mp q3)] at hΦ; exact eR hΦ⟩
  rw [ifp_f (pI_0.mp q3)] at hΦ
  refine ⟨trivial, fCi htr h4 (by omega) ?_⟩
  show ((pI (wHere (X 1) n p.1 = wAg)) = 0 → mWB l g d k_X12_stepHere Φ 0 0 91 [.ref 0] [.int (-1 : Int32)] (mPS X p) o 0 0) ∧ (¬ (pI (wHere (X 1) n p.1 = wAg)) = 0 → mWB l g d k_X12_stepHere Φ 0 0 91 [.ref 0] [.int (4 : Int32)] (mPS X p) o 0 0)
  refine ⟨fun q4 => ?_, fun q4 => ?_⟩
  · rw [ifp_f (pI_0.mp q4)] at hΦ
    refine mGoOn (mOk (by decide)) rfl [] 400 ?_
    show Φ (.inl (some (.int (-1 : Int32)))) (mPS X p) o ∧ 0 ≤ 0 ∧ 0 ≤ 0
    exact eR hΦ
  · rw [ifp_t (pI_1.mp q4)] at hΦ
    refine mGoOn (mOk (by decide)) rfl [] 400 ?_
    show Φ (.inl (some (.int (4 : Int32)))) (mPS X p) o ∧ 0 ≤ 0 ∧ 0 ≤ 0
    exact eR hΦ
/-- a cell of a step's row is set -/
theorem RWk_set {X0 X : Mm} {k : Nat} {a : WA} {gd : Prop} (h : RWk X0 k a gd X) {i : Nat} (hi : i < 80) (j : Nat) (v : Int32) (hg : gd → a.1 ≤ i) : RWk X0 k a gd (mset X (414 + i) j v) := by
  refine ⟨fun x h1 h2 => ?_, fun x h1 h2 => ?_, ?_, fun y => ⟨?_, fun t ht => ?_⟩⟩
  · rw [mset_ne _ _ _ (by omega)]; exact h.1 x h1 h2
  · rw [mset_ne _ _ _ (by omega)]; exact h.2.1 x h1 h2
  · rw [mset_ne _ _ _ (by omega)]; exact h.2.2.1
  · rw [mset_ne _ _ _ (by omega)]; exact (h.2.2.2 y).1
  · have := hg y
    unfold rowW
    rw [mset_ne _ _ _ (by omega)]; exact (h.2.2.2 y).2 t ht
end R44
