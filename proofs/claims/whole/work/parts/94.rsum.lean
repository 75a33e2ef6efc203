set_option maxRecDepth 100000
section R35
variable {l : Launch} {g : mG} {n : Nat} {X0 : Mm}
theorem r_prodN {N : Nat} (IH0 : rC l g n X0 k_X12_one 0 8 N) (IH1 : rLP l g n X0 N) : rC l g n X0 k_X12_product 2 9 (N + 1) := by
  intro d k s X hd hk6 hN hs hlen hok hR
  by_cases hf : s.1.2.1 = 0
  · have hN0 := hN hf
    refine nBv 1 rfl rfl rfl (by decide) rfl (fun htr o Φ hΦ => mGoOn (mOk (by decide)) rfl [4] 400 ?_)
    show True ∧ mCal l g d k_X12_product Φ 0 0 _ 1 k_X12_one false [.ref 0] [] [.ref 0, mJ] (mPS X s.1) o 0 0 0
    refine ⟨trivial, nCv htr (IH0 (d - 1) k s X (by omega) hk6 (fun _ => by omega) hs hlen hok hR) (by omega) ?_⟩
    rintro _ ⟨s1, X1, L1, rfl, R1⟩
    have B := Lw_ok _ _ _ _ _ L1 hs hok (fun z => by omega)
    have B2 : s.1.1 ≤ s1.1.1 := B.1.2
    have B3 : s1.2.length + s.1.1 ≤ s1.1.1 + s.2.length := B.2.2.1
    exact IH1 htr d k s1 X1 o Φ hd hk6 (fun _ => by omega) B.1.1 (by omega) B.2.2.2.1 (fun q => by rw [B.2.2.2.2 q]; exact Nat.le_add_left _ _) R1 (fun s' X' L' R' => hΦ _ ⟨s', X', Or.inr ⟨hf, Or.inr (Or.inr (Or.inl ⟨rfl, s1, L1, L'⟩))⟩, rfl, R'⟩)
  · exact r_prod_f ⟨s, X, Lw_f hf, rfl, hR⟩ hf (by omega)
theorem r_sumN {N : Nat} (IH0 : rC l g n X0 k_X12_product 2 9 N) (IH1 : rLS l g n X0 N) : rC l g n X0 k_X12_sum 4 10 (N + 1) := by
  intro d k s X hd hk6 hN hs hlen hok hR
  by_cases hf : s.1.2.1 = 0
  · have hN0 := hN hf
    refine nBv 1 rfl rfl rfl (by decide) rfl (fun htr o Φ hΦ => mGoOn (mOk (by decide)) rfl [4] 400 ?_)
    show True ∧ mCal l g d k_X12_sum Φ 0 0 _ 1 k_X12_product false [.ref 0] [] [.ref 0, mJ] (mPS X s.1) o 0 0 0
    refine ⟨trivial, nCv htr (IH0 (d - 1) k s X (by omega) hk6 (fun _ => by omega) hs hlen hok hR) (by omega) ?_⟩
    rintro _ ⟨s1, X1, L1, rfl, R1⟩
    have B := Lw_ok _ _ _ _ _ L1 hs hok (fun z => by omega)
    have B2 : s.1.1 ≤ s1.1.1 := B.1.2
    have B3 : s1.2.length + s.1.1 ≤ s1.1.1 + s.2.length := B.2.2.1
    exact IH1 htr d k s1 X1 o Φ hd hk6 (fun _ => by omega) B.1.1 (by omega) B.2.2.2.1 (fun q => by rw [B.2.2.2.2 q]; exact Nat.le_add_left _ _) R1 (fun s' X' L' R' => hΦ _ ⟨s', X', Or.inr ⟨hf, Or.inr (Or.inr (Or.inr (Or.inr ⟨rfl, s1, L1, L'⟩)))⟩, rfl, R'⟩)
  · exact r_sum_f ⟨s, X, Lw_f hf, rfl, hR⟩ hf (by omega)
theorem r_allN (hn : n ≤ 150) (h2 : X0 0 2 = nI n) : ∀ N, rC l g n X0 k_X12_one 0 8 N ∧ rLP l g n X0 N ∧ rC l g n X0 k_X12_product 2 9 N ∧ rLS l g n X0 N ∧ rC l g n X0 k_X12_sum 4 10 N
  | 0 => by
    refine ⟨fun d k s X hd hk6 hN hs hlen hok hR => ?_, fun htr d k s X o Φ hd hk6 hN hs hlen hok hhg hR hΦ => ?_, fun d k s X hd hk6 hN hs hlen hok hR => ?_, fun htr d k s X o Φ hd hk6 hN hs hlen hok hhg hR hΦ => ?_, fun d k s X hd hk6 hN hs hlen hok hR => ?_⟩
    · have hf : s.1.2.1 ≠ 0 := fun z => by have := hN z; omega
      exact r_one_f ⟨s, X, Lw_f hf, rfl, hR⟩ hf
    · have hf : s.1.2.1 ≠ 0 := fun z => by have := hN z; omega
      refine mGoOn (mOk (by decide)) rfl [52] 400 ?_
      show (¬ ((mPS X s.1) 0 5) = 0 → Φ (.inl none) (mPS X s.1) o ∧ 0 ≤ 0 ∧ 0 ≤ 0) ∧ (((mPS X s.1) 0 5) = 0 → True ∧ mCal l g d k_X12_product Φ 0 0 _ 14 k_X12_takesSign false [.ref 0, .int (42 : Int32)] [] [.ref 0, mJ] (mPS X s.1) o 0 0 1)
      rw [mPS_5]
      exact ⟨fun _ => eR (hΦ s X (Lw_f hf) hR), fun q => absurd q hf⟩
    · have hf : s.1.2.1 ≠ 0 := fun z => by have := hN z; omega
      exact r_prod_f ⟨s, X, Lw_f hf, rfl, hR⟩ hf (by omega)
    · have hf : s.1.2.1 ≠ 0 := fun z => by have := hN z; omega
      refine mGoOn (mOk (by decide)) rfl [38] 400 ?_
      show (¬ ((mPS X s.1) 0 5) = 0 → Φ (.inl none) (mPS X s.1) o ∧ 0 ≤ 0 ∧ 0 ≤ 0) ∧ (((mPS X s.1) 0 5) = 0 → True ∧ mCal l g d k_X12_sum Φ 0 0 _ 14 k_X12_takesSign false [.ref 0, .int (43 : Int32)] [] [.ref 0, mJ] (mPS X s.1) o 0 0 1)
      rw [mPS_5]
      exact ⟨fun _ => eR (hΦ s X (Lw_f hf) hR), fun q => absurd q hf⟩
    · have hf : s.1.2.1 ≠ 0 := fun z => by have := hN z; omega
      exact r_sum_f ⟨s, X, Lw_f hf, rfl, hR⟩ hf (by omega)
  | N + 1 => by
    obtain ⟨i0, i1, i2, i3, i4⟩ := r_allN hn h2 N
    exact ⟨r_oneN hn h2 i4, r_prodL hn h2 i0 i1, r_prodN i0 i1, r_sumL hn h2 i2 i3, r_sumN i2 i3⟩
/-- a whole sum, from the beginning of a text -/
theorem r_sum {d : Nat} (hd : 28 ≤ d) (hn : n ≤ 150) (h2 : X0 0 2 = nI n) {p : PS} (hp : p.1 ≤ n) (h8 : X0 0 8 = 0) (h22 : X0 0 22 = 0) : mHv l g d k_X12_sum [.ref 0] (mPS X0 p) (fun m2 => ∃ s' X', Lw (X0 1) n (5 * n + 5) 4 0 (p, []) s' ∧ m2 = mPS X' s'.1 ∧ RLw X0 0 s'.2 X') :=
  (r_allN hn h2 (5 * n + 5)).2.2.2.2 d 0 (p, []) X0 hd (by decide) (fun _ => by show 5 * (n - p.1) + 4 < _; omega) hp (Nat.zero_le _) trivial ⟨fun _ _ _ => rfl, fun _ _ _ => rfl, h8, h22, fun i hi => absurd hi (Nat.not_lt_zero _)⟩
end R35
