set_option maxRecDepth 100000
/-- what the reference's reading of a piece owes -/
def rC (l : Launch) (g : mG) (n : Nat) (X0 : Mm) (km md D N : Nat) : Prop := ∀ (d k : Nat) (s : LS) (X : Mm), 3 * (6 - k) + D ≤ d → k ≤ 6 → (s.1.2.1 = 0 → 5 * (n - s.1.1) + md < N) → s.1.1 ≤ n → s.2.length ≤ s.1.1 → okL s.2 0 → RLw X0 k s.2 X → mHv l g d km [.ref 0] (mPS X s.1) (fun m2 => ∃ s' X', Lw (X0 1) n N md k s s' ∧ m2 = mPS X' s'.1 ∧ RLw X0 k s'.2 X')
section R33
variable {l : Launch} {g : mG} {n : Nat} {X0 : Mm}
theorem r_oneN (hn : n ≤ 150) (h2 : X0 0 2 = nI n) {N : Nat} (IH : rC l g n X0 k_X12_sum 4 10 N) : rC l g n X0 k_X12_one 0 8 (N + 1) := by
  intro d k s X hd hk6 hN hs hlen hok hR
  have eX2 : X 0 2 = nI n := by rw [hR.2.1 2 (by decide) (by decide)]; exact h2
  have eX1 : X 1 = X0 1 := hR.1 1 (by decide) (by omega)
  by_cases hf : s.1.2.1 = 0
  · have hN0 := hN hf
    have hqn := skp_in (T := X0 1) hs
    have hqq := skp_skp (T := X0 1) hs
    have hge := skp_ge (T := X0 1) hs
    refine nBv 2 rfl rfl rfl (by decide) rfl (fun htr o Φ hΦ => mGoOn (mOk (by decide)) rfl [56] 400 ?_)
    show (((mPS X s.1) 0 5) = 0 → True ∧ mCal l g d k_X12_one Φ 0 0 _ 9 k_X12_blanks false [.ref 0] [] [.ref 0, mJ, mJ] (mPS X s.1) o 0 0 0) ∧ (¬ ((mPS X s.1) 0 5) = 0 → Φ (.inl none) (mPS X s.1) o ∧ 0 ≤ 0 ∧ 0 ≤ 0)
    rw [mPS_5]
    refine ⟨fun _ => ?_, fun z => absurd hf z⟩
    have hbl := q_blanks (l := l) (g := g) (d := d - 1) X s.1 eX2 (by omega) (by omega) (by omega)
    rw [eX1] at hbl
    refine ⟨trivial, fCv htr hbl (by omega) ?_⟩
    have hpq : pBl (X0 1) n s.1 = (skp (X0 1) n s.1.1, s.1.2) := rfl
    rw [hpq]
    generalize hq : skp (X0 1) n s.1.1 = q at *
    have hΦA : ∀ s' X', LA (X0 1) n (Lw (X0 1) n N 4) k s s' → RLw X0 k s'.2 X' → Φ (.inl none) (mPS X' s'.1) o := fun s' X' a b => hΦ _ ⟨s', X', Or.inr ⟨hf, Or.inl ⟨rfl, Or.inl a⟩⟩, rfl, b⟩
    trace_state
    sorry
  · exact r_one_f ⟨s, X, Lw_f hf, rfl, hR⟩ hf
end R33
