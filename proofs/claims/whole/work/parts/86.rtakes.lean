set_option maxRecDepth 100000
noncomputable def pTk (T : Nat → Int32) (n : Nat) (w : Int32) (p : PS) : Int32 × PS := ((pIsW T n w p).1, if (pIsW T n w p).1 = 0 then (pIsW T n w p).2 else pSkw T n (pIsW T n w p).2)
theorem pIsW_in {T : Nat → Int32} {n : Nat} {w : Int32} {p : PS} (hp : p.1 ≤ n) : (pIsW T n w p).2.1 ≤ n ∧ ((pIsW T n w p).1 = 0 ∨ (pIsW T n w p).1 = 1) := by
  unfold pIsW
  by_cases q : p.2.1 = 0
  · rw [if_pos q]
    exact ⟨skp_in hp, pI_01 _⟩
  · rw [if_neg q]
    exact ⟨hp, Or.inl rfl⟩
section R30
variable {l : Launch} {g : mG} {d : Nat}
theorem r_takes {n : Nat} (X : Mm) (p : PS) (hs : X 0 2 = nI n) (hn : n ≤ 600) (hi2 : p.1 ≤ n) (hd : 5 ≤ d) (a b c e f h : Int32) : mFi l g d k_X12_takes [.ref 0, .int a, .int b, .int c, .int e, .int f, .int h] (mPS X p) (pTk (X 1) n (six6 a b c e f h) p).1 (mPS X (pTk (X 1) n (six6 a b c e f h) p).2) := by
  refine nFi 1 rfl rfl rfl (by decide) rfl (fun htr o Φ hΦ => mGoOn (mOk (by decide)) rfl [] 400 ?_)
  show True ∧ mCal l g d k_X12_takes Φ 0 0 _ 10 k_X12_isWord false [.ref 0, .int a, .int b, .int c, .int e, .int f, .int h] [] [.ref 0, .int a, .int b, .int c, .int e, .int f, .int h, mJ] (mPS X p) o 0 0 1
  have hin := pIsW_in (T := X 1) (n := n) (w := six6 a b c e f h) hi2
  refine ⟨trivial, fCi htr (r_isWord X p hs hn hi2 (by omega) a b c e f h) (by omega) ?_⟩
  unfold pTk at hΦ
  generalize pIsW (X 1) n (six6 a b c e f h) p = r at hin hΦ ⊢
  show (r.1 = 0 → (r.1 = 0 ∨ r.1 = 1) ∧ Φ (.inl (some (.int r.1))) (mPS X r.2) o ∧ 0 ≤ 0 ∧ 0 ≤ 0) ∧ (¬ r.1 = 0 → True ∧ mCal l g d k_X12_takes Φ 0 0 _ 21 k_X12_skipWord false [.ref 0] [] [.ref 0, .int a, .int b, .int c, .int e, .int f, .int h, .int r.1] (mPS X r.2) o 0 0 0)
  refine ⟨fun q => ?_, fun q => ⟨trivial, fCv htr (r_skipWord X r.2 hs hn hin.1 (by omega)) (by omega) ?_⟩⟩
  · rw [if_pos q] at hΦ
    exact ⟨hin.2, eR hΦ⟩
  · rw [if_neg q] at hΦ
    exact ⟨hin.2, eR hΦ⟩
end R30
