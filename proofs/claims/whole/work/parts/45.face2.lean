set_option maxRecDepth 100000
/-! THE CLASS'S QUERIES, on -/
section X4
variable {l : Launch} {g : mG} {d : Nat} {A : Mm}
theorem x_told (hQ : Qr A) {m : Mm} (hm : cl m = A) (hd : 8 ≤ d) (w : Int32) : xS l g d k_X11_told [.ref 586, .int w] m A (qTld A w) := by
  have hA := hQ.1.1
  have hC := hQ.2.2.2.2.1
  have hN := nrNow hQ hm
  have h6 := hA.2.2.1.2
  refine nBx 2 rfl rfl rfl (by decide) rfl (fun htr o Φ hΦ => mGoOn (mOk (by decide)) rfl [] 400 ?_)
  show ((w.toInt = 0 → Φ (.inl (some (.int (m 590 0)))) m o ∧ 0 ≤ 4 ∧ 0 ≤ 24) ∧ (w.toInt = 1 → Φ (.inl (some (.int (m 590 1)))) m o ∧ 0 ≤ 4 ∧ 0 ≤ 24) ∧ (w.toInt = 2 → Φ (.inl (some (.int (m 590 2)))) m o ∧ 0 ≤ 4 ∧ 0 ≤ 24) ∧ (w.toInt = 3 → Φ (.inl (some (.int (m 590 3)))) m o ∧ 0 ≤ 4 ∧ 0 ≤ 24) ∧ (w.toInt = 4 → Φ (.inl (some (.int (m 626 0)))) m o ∧ 0 ≤ 4 ∧ 0 ≤ 24) ∧ (w.toInt = 5 → Φ (.inl (some (.int (m 626 1)))) m o ∧ 0 ≤ 4 ∧ 0 ≤ 24) ∧ (w.toInt = 6 → Φ (.inl (some (.int (m 626 2)))) m o ∧ 0 ≤ 4 ∧ 0 ≤ 24) ∧ (w.toInt = 7 → Φ (.inl (some (.int (m 626 3)))) m o ∧ 0 ≤ 4 ∧ 0 ≤ 24) ∧ (w.toInt = 8 → Φ (.inl (some (.int (m 617 1)))) m o ∧ 0 ≤ 4 ∧ 0 ≤ 24) ∧ (w.toInt = 9 → Φ (.inl (some (.int (m 586 14)))) m o ∧ 0 ≤ 4 ∧ 0 ≤ 24) ∧ (w.toInt = 10 → True ∧ mCal l g d k_X11_told Φ 4 24 _ 130 k_X5_allCalls false [.ref 626] [] [.ref 586, .int w, .ref 590, .ref 626] m o 0 0 1) ∧ True) ∧ (w.toInt < 0 ∨ 10 < w.toInt → True ∧ mCal l g d k_X11_told Φ 4 24 _ 135 k_X11_refuseArgument false [.ref 586] [] [.ref 586, .int w, .ref 590, .ref 626] m o 0 0 1)
  unfold qTld at hΦ
  have hv : ∀ n : Nat, n < 11 → w.toInt = (n : Int) → ∀ v m2, cl m2 = A → v = vTld A n → Φ (.inl (some (.int v))) m2 o := by
    intro n hn hw v m2 h2 hv
    have := toI_nI hw (by omega)
    subst this
    rw [ifp_t ⟨n, hn, rfl⟩, nI_cl (by omega)] at hΦ
    exact hΦ _ _ (xk_v h2 hv)
  refine ⟨⟨?_, ?_, ?_, ?_, ?_, ?_, ?_, ?_, ?_, ?_, ?_, trivial⟩, fun h => ?_⟩
  · exact fun h => e4 (hv 0 (by decide) h _ _ hm (by rw [ar hm 590 0, hC.1.1]; exact hA.1.1.symm))
  · exact fun h => e4 (hv 1 (by decide) h _ _ hm (by rw [ar hm 590 1, hC.1.2.1]; exact hA.2.1.1.symm))
  · exact fun h => e4 (hv 2 (by decide) h _ _ hm (by rw [ar hm 590 2, hC.1.2.2.1]; exact hA.2.2.1.1.symm))
  · exact fun h => e4 (hv 3 (by decide) h _ _ hm (by rw [ar hm 590 3, hC.1.2.2.2]; exact hA.2.2.2.1.symm))
  · exact fun h => e4 (hv 4 (by decide) h _ _ hm (by exact hN.1))
  · exact fun h => e4 (hv 5 (by decide) h _ _ hm (by exact hN.2.1))
  · exact fun h => e4 (hv 6 (by decide) h _ _ hm (by exact hN.2.2.1))
  · exact fun h => e4 (hv 7 (by decide) h _ _ hm (by exact hN.2.2.2.1))
  · exact fun h => e4 (hv 8 (by decide) h _ _ hm (by rw [ar hm 617 1, hQ.2.2.2.2.2.2.1.1]; rfl))
  · exact fun h => e4 (hv 9 (by decide) h _ _ hm (by rw [ar hm 586 14, hQ.2.2.2.2.2.2.2.2]; rfl))
  · refine fun h => ⟨trivial, gCi htr (x_allCalls rfl (by omega)) (by omega) (e4 (hv 10 (by decide) h _ _ hm ?_))⟩
    show sm (fun k => m 628 k) 6 = sm (fun k => A 494 (6 + k)) (nM A)
    rw [sm_cong (g := fun k => A 494 (6 + k)) (fun k hk => hN.2.2.2.2.2.1 k hk)]
    have z := sm_0 (f := fun k => A 494 (6 + k)) (a := nM A) (6 - nM A) (fun k h1 h2 => hQ.2.2.2.1.2.2.2.2.2 k h1 (by omega))
    rwa [show nM A + (6 - nM A) = 6 by omega] at z
  · rw [ifp_f (nIn_of (by omega) (by decide))] at hΦ
    exact ⟨trivial, cRefA htr rfl (by omega) (by decide) (by decide) (hΦ _ _ (xk_a hm (by decide)))⟩
theorem x_street (hQ : Qr A) {m : Mm} (hm : cl m = A) (hd : 8 ≤ d) (e w : Int32) : xS l g d k_X11_street [.ref 586, .int e, .int w] m A (qStr A e w) := by
  have hA := hQ.1.1
  have hC := hQ.2.2.2.2.1
  have hN := nrNow hQ hm
  have h9 := hA.1.2
  have h6 := hA.2.2.1.2
  have h8 := hA.2.2.2.2
  refine nBx 1 rfl rfl rfl (by decide) rfl (fun htr o Φ hΦ => mGoOn (mOk (by decide)) rfl [] 400 ?_)
  show True ∧ mCal l g d k_X11_street Φ 4 24 _ 11 k_X1_hasStreet false [.ref 590, .int e] [.ref 586] [.ref 586, .int e, .int w, .ref 590] m o 0 0 1
  unfold qStr at hΦ
  refine ⟨trivial, gCi htr (x_hasStreet hA hC (csim_of hm) e) (by omega) ?_⟩
  show True ∧ mCal l g d k_X11_street Φ 4 24 _ 14 k_X11_needElement false [.ref 586, .int (pI (In e (nS A)))] [] [.ref 586, .int e, .int w, .ref 590] m o 0 0 0
  refine ⟨trivial, cNeedE htr rfl (by omega) (by decide) (by decide) (fun h => ?_) (fun h => by
    replace h := pI_0.mp h
    rw [ifp_f (h)] at hΦ
    exact hΦ _ _ (xk_n hm))⟩
  replace h := pI_1.mp h
  rw [ifp_t (h)] at hΦ
  obtain ⟨s, hs, rfl⟩ := h
  rw [nI_cl (by omega)] at hΦ
  show ((w.toInt = 0 → mCal l g d k_X11_street Φ 4 24 _ 57 k_X11_at false [.ref 591, .int (nI s)] [] [.ref 586, .int (nI s), .int w, .ref 590] m o 1 6 1) ∧ (w.toInt = 1 → mCal l g d k_X11_street Φ 4 24 _ 66 k_X11_at false [.ref 592, .int (nI s)] [] [.ref 586, .int (nI s), .int w, .ref 590] m o 1 6 1) ∧ (w.toInt = 2 → mCal l g d k_X11_street Φ 4 24 _ 85 k_X11_places false [.ref 627, .int (m 590 2), .int (nI s)] [] [.ref 586, .int (nI s), .int w, .ref 590] m o 1 6 1) ∧ (w.toInt = 3 → mCal l g d k_X11_street Φ 4 24 _ 98 k_X11_places false [.ref 598, .int (m 590 3), .int (nI s)] [] [.ref 586, .int (nI s), .int w, .ref 590] m o 1 6 1) ∧ (w.toInt = 4 → True ∧ mCal l g d k_X11_street Φ 4 24 _ 110 k_X5_heardIn false [.ref 626, .int (nI s)] [] [.ref 586, .int (nI s), .int w, .ref 590] m o 1 6 1) ∧ True) ∧ (w.toInt < 0 ∨ 4 < w.toInt → True ∧ mCal l g d k_X11_street Φ 4 24 _ 135 k_X11_refuseArgument false [.ref 586] [] [.ref 586, .int (nI s), .int w, .ref 590] m o 1 6 1)
  have hv : ∀ n : Nat, n < 5 → w.toInt = (n : Int) → ∀ v m2, cl m2 = A → v = vStr A s n → Φ (.inl (some (.int v))) m2 o := by
    intro n hn hw v m2 h2 hv
    have := toI_nI hw (by omega)
    subst this
    rw [ifp_t ⟨n, hn, rfl⟩, nI_cl (by omega)] at hΦ
    exact hΦ _ _ (xk_v h2 hv)
  refine ⟨⟨fun h => ?_, fun h => ?_, fun h => ?_, fun h => ?_, fun h => ?_, trivial⟩, fun h => ?_⟩
  · exact gCi htr (x_at m (a := 591) (n := 9) rfl rfl (by decide) (by omega)) (by omega) (e4 (hv 0 (by decide) h _ _ hm (by rw [ar hm 591 s, hC.2.1 s hs]; rfl)))
  · exact gCi htr (x_at m (a := 592) (n := 9) rfl rfl (by decide) (by omega)) (by omega) (e4 (hv 1 (by decide) h _ _ hm (by rw [ar hm 592 s, hC.2.2.1 s hs]; rfl)))
  · rw [ar hm 590 2, hC.1.2.2.1]
    exact gCi htr (x_places m (a := 627) (n := 6) rfl rfl (by decide) h6 (by omega) _) (by omega) (e4 (hv 2 (by decide) h _ _ hm (by
      rw [msk_cong (Q := fun k => A 494 k = nI s) (fun k hk => by rw [hN.2.2.2.2.1 k hk])]; rfl)))
  · rw [ar hm 590 3, hC.1.2.2.2]
    exact gCi htr (x_places m (a := 598) (n := 8) rfl rfl (by decide) h8 (by omega) _) (by omega) (e4 (hv 3 (by decide) h _ _ hm (by
      rw [msk_cong (Q := fun p => A (61 + p) 0 = nI s) (fun p hp => by rw [ar hm 598 p, (hC.2.2.2.2.2 p hp).1])]; rfl)))
  · refine ⟨trivial, gCi htr (x_heardIn (N := 626) rfl (by omega) (by omega)) (by omega) ?_⟩
    show (¬ (m 629 s) = (24 : Int32) → True ∧ mCal l g d k_X11_street Φ 4 24 _ 130 k_X5_heardIn false [.ref 626, .int (nI s)] [] [.ref 586, .int (nI s), .int w, .ref 590] m o 1 6 1) ∧ ((m 629 s) = (24 : Int32) → Φ (.inl (some (.int (-1 : Int32)))) m o ∧ 1 ≤ 4 ∧ 6 ≤ 24)
    have e1 : m 629 s = A 494 (18 + s) := hN.2.2.2.2.2.2 s (by omega) hs
    refine ⟨fun q => ⟨trivial, gCi htr (x_heardIn (N := 626) rfl (by omega) (by omega)) (by omega) ?_⟩, fun q => e4 (hv 4 (by decide) h _ _ hm ?_)⟩
    · refine e4 (hv 4 (by decide) h _ _ hm ?_)
      show m 629 s = hrd A s
      rw [e1] at q ⊢
      unfold hrd
      rw [if_neg q]
    · show -1 = hrd A s
      rw [e1] at q
      unfold hrd
      rw [if_pos q]
  · rw [ifp_f (nIn_of (by omega) (by decide))] at hΦ
    exact ⟨trivial, cRefA htr rfl (by omega) (by decide) (by decide) (hΦ _ _ (xk_a hm (by decide)))⟩
theorem x_man (hQ : Qr A) {m : Mm} (hm : cl m = A) (hd : 8 ≤ d) (e w : Int32) : xS l g d k_X11_man [.ref 586, .int e, .int w] m A (qMan A e w) := by
  have hA := hQ.1.1
  have hC := hQ.2.2.2.2.1
  have hN := nrNow hQ hm
  have h6 := hA.2.2.1.2
  refine nBx 2 rfl rfl rfl (by decide) rfl (fun htr o Φ hΦ => mGoOn (mOk (by decide)) rfl [] 400 ?_)
  show True ∧ mCal l g d k_X11_man Φ 4 24 _ 20 k_X1_hasMan false [.ref 590, .int e] [.ref 586] [.ref 586, .int e, .int w, .ref 590, .ref 626] m o 0 0 1
  unfold qMan at hΦ
  refine ⟨trivial, gCi htr (x_hasMan hA hC (csim_of hm) e) (by omega) ?_⟩
  show True ∧ mCal l g d k_X11_man Φ 4 24 _ 23 k_X11_needElement false [.ref 586, .int (pI (In e (nM A)))] [] [.ref 586, .int e, .int w, .ref 590, .ref 626] m o 0 0 0
  refine ⟨trivial, cNeedE htr rfl (by omega) (by decide) (by decide) (fun h => ?_) (fun h => by
    replace h := pI_0.mp h
    rw [ifp_f (h)] at hΦ
    exact hΦ _ _ (xk_n hm))⟩
  replace h := pI_1.mp h
  rw [ifp_t (h)] at hΦ
  obtain ⟨k, hk, rfl⟩ := h
  rw [nI_cl (by omega)] at hΦ
  show ((w.toInt = 0 → mCal l g d k_X11_man Φ 4 24 _ 66 k_X11_at false [.ref 627, .int (nI k)] [] [.ref 586, .int (nI k), .int w, .ref 590, .ref 626] m o 1 6 1) ∧ (w.toInt = 1 → mCal l g d k_X11_man Φ 4 24 _ 75 k_X11_at false [.ref 596, .int (nI k)] [] [.ref 586, .int (nI k), .int w, .ref 590, .ref 626] m o 1 6 1) ∧ (w.toInt = 2 → mCal l g d k_X11_man Φ 4 24 _ 84 k_X11_at false [.ref 597, .int (nI k)] [] [.ref 586, .int (nI k), .int w, .ref 590, .ref 626] m o 1 6 1) ∧ (w.toInt = 3 → mCal l g d k_X11_man Φ 4 24 _ 94 k_X11_at false [.ref 628, .int (nI k)] [] [.ref 586, .int (nI k), .int w, .ref 590, .ref 626] m o 1 6 1) ∧ (w.toInt = 4 → True ∧ mCal l g d k_X11_man Φ 4 24 _ 101 k_X5_isUp false [.ref 626, .int (nI k)] [] [.ref 586, .int (nI k), .int w, .ref 590, .ref 626] m o 1 6 1) ∧ True) ∧ (w.toInt < 0 ∨ 4 < w.toInt → True ∧ mCal l g d k_X11_man Φ 4 24 _ 114 k_X11_refuseArgument false [.ref 586] [] [.ref 586, .int (nI k), .int w, .ref 590, .ref 626] m o 1 6 1)
  have hv : ∀ n : Nat, n < 5 → w.toInt = (n : Int) → ∀ v m2, cl m2 = A → v = vMan A k n → Φ (.inl (some (.int v))) m2 o := by
    intro n hn hw v m2 h2 hv
    have := toI_nI hw (by omega)
    subst this
    rw [ifp_t ⟨n, hn, rfl⟩, nI_cl (by omega)] at hΦ
    exact hΦ _ _ (xk_v h2 hv)
  refine ⟨⟨fun h => ?_, fun h => ?_, fun h => ?_, fun h => ?_, fun h => ?_, trivial⟩, fun h => ?_⟩
  · exact gCi htr (x_at m (a := 627) (n := 6) rfl rfl (by decide) (by omega)) (by omega) (e4 (hv 0 (by decide) h _ _ hm (by rw [hN.2.2.2.2.1 k hk]; rfl)))
  · exact gCi htr (x_at m (a := 596) (n := 6) rfl rfl (by decide) (by omega)) (by omega) (e4 (hv 1 (by decide) h _ _ hm (by rw [ar hm 596 k, (hC.2.2.2.2.1 k hk).2.1]; rfl)))
  · exact gCi htr (x_at m (a := 597) (n := 6) rfl rfl (by decide) (by omega)) (by omega) (e4 (hv 2 (by decide) h _ _ hm (by rw [ar hm 597 k, (hC.2.2.2.2.1 k hk).2.2]; rfl)))
  · exact gCi htr (x_at m (a := 628) (n := 6) rfl rfl (by decide) (by omega)) (by omega) (e4 (hv 3 (by decide) h _ _ hm (by rw [hN.2.2.2.2.2.1 k (by omega)]; rfl)))
  · refine ⟨trivial, gCi htr (x_isUp rfl hN hA (by omega) hk) (by omega) ?_⟩
    show ((pI (A 494 (12 + k) = 0)) = 0 → Φ (.inl (some (.int (0 : Int32)))) m o ∧ 1 ≤ 4 ∧ 6 ≤ 24) ∧ (¬ (pI (A 494 (12 + k) = 0)) = 0 → Φ (.inl (some (.int (1 : Int32)))) m o ∧ 1 ≤ 4 ∧ 6 ≤ 24)
    obtain ⟨b, hb, eb⟩ := hQ.2.2.2.1.2.1 k (by omega)
    refine ⟨fun q => e4 (hv 4 (by decide) h _ _ hm ?_), fun q => e4 (hv 4 (by decide) h _ _ hm ?_)⟩
    · show 0 = 1 - A 494 (12 + k)
      have q := pI_0.mp q
      have : b = 1 := by
        rcases (show b = 0 ∨ b = 1 by omega) with z | z
        · exact absurd (by rw [eb, z]; rfl) q
        · exact z
      rw [eb, this]
      rfl
    · show 1 = 1 - A 494 (12 + k)
      rw [pI_1.mp q]
      rfl
  · rw [ifp_f (nIn_of (by omega) (by decide))] at hΦ
    exact ⟨trivial, cRefA htr rfl (by omega) (by decide) (by decide) (hΦ _ _ (xk_a hm (by decide)))⟩
theorem x_sleeper (hQ : Qr A) {m : Mm} (hm : cl m = A) (hd : 8 ≤ d) (e w : Int32) : xS l g d k_X11_sleeper [.ref 586, .int e, .int w] m A (qSlp A e w) := by
  have hA := hQ.1.1
  have hC := hQ.2.2.2.2.1
  have hN := nrNow hQ hm
  have h8 := hA.2.2.2.2
  refine nBx 1 rfl rfl rfl (by decide) rfl (fun htr o Φ hΦ => mGoOn (mOk (by decide)) rfl [] 400 ?_)
  show True ∧ mCal l g d k_X11_sleeper Φ 4 24 _ 11 k_X1_hasSleeper false [.ref 590, .int e] [.ref 586] [.ref 586, .int e, .int w, .ref 590] m o 0 0 1
  unfold qSlp at hΦ
  refine ⟨trivial, gCi htr (x_hasSleeper hA hC (csim_of hm) e) (by omega) ?_⟩
  show True ∧ mCal l g d k_X11_sleeper Φ 4 24 _ 14 k_X11_needElement false [.ref 586, .int (pI (In e (nP A)))] [] [.ref 586, .int e, .int w, .ref 590] m o 0 0 0
  refine ⟨trivial, cNeedE htr rfl (by omega) (by decide) (by decide) (fun h => ?_) (fun h => by
    replace h := pI_0.mp h
    rw [ifp_f (h)] at hΦ
    exact hΦ _ _ (xk_n hm))⟩
  replace h := pI_1.mp h
  rw [ifp_t (h)] at hΦ
  obtain ⟨p, hp, rfl⟩ := h
  rw [nI_cl (by omega)] at hΦ
  show ((w.toInt = 0 → mCal l g d k_X11_sleeper Φ 4 24 _ 49 k_X11_at false [.ref 598, .int (nI p)] [] [.ref 586, .int (nI p), .int w, .ref 590] m o 1 6 1) ∧ (w.toInt = 1 → mCal l g d k_X11_sleeper Φ 4 24 _ 58 k_X11_at false [.ref 599, .int (nI p)] [] [.ref 586, .int (nI p), .int w, .ref 590] m o 1 6 1) ∧ (w.toInt = 2 → mCal l g d k_X11_sleeper Φ 4 24 _ 73 k_X11_hasBit false [.int (m 626 3), .int (nI p)] [] [.ref 586, .int (nI p), .int w, .ref 590] m o 1 6 1) ∧ True) ∧ (w.toInt < 0 ∨ 2 < w.toInt → True ∧ mCal l g d k_X11_sleeper Φ 4 24 _ 86 k_X11_refuseArgument false [.ref 586] [] [.ref 586, .int (nI p), .int w, .ref 590] m o 1 6 1)
  have hv : ∀ n : Nat, n < 3 → w.toInt = (n : Int) → ∀ v m2, cl m2 = A → v = vSlp A p n → Φ (.inl (some (.int v))) m2 o := by
    intro n hn hw v m2 h2 hv
    have := toI_nI hw (by omega)
    subst this
    rw [ifp_t ⟨n, hn, rfl⟩, nI_cl (by omega)] at hΦ
    exact hΦ _ _ (xk_v h2 hv)
  refine ⟨⟨fun h => ?_, fun h => ?_, fun h => ?_, trivial⟩, fun h => ?_⟩
  · exact gCi htr (x_at m (a := 598) (n := 8) rfl rfl (by decide) (by omega)) (by omega) (e4 (hv 0 (by decide) h _ _ hm (by rw [ar hm 598 p, (hC.2.2.2.2.2 p hp).1]; rfl)))
  · exact gCi htr (x_at m (a := 599) (n := 8) rfl rfl (by decide) (by omega)) (by omega) (e4 (hv 1 (by decide) h _ _ hm (by rw [ar hm 599 p, (hC.2.2.2.2.2 p hp).2]; rfl)))
  · refine gCi htr (x_hasBit m _ (by omega)) (by omega) ?_
    show ((pI (hB (m 626 3) p)) = 0 → Φ (.inl (some (.int (0 : Int32)))) m o ∧ 1 ≤ 4 ∧ 6 ≤ 24) ∧ (¬ (pI (hB (m 626 3) p)) = 0 → Φ (.inl (some (.int (1 : Int32)))) m o ∧ 1 ≤ 4 ∧ 6 ≤ 24)
    obtain ⟨b, hb, eb⟩ := hQ.2.2.2.1.2.2.2.1 p (by omega)
    have hbit : hB (m 626 3) p ↔ A 494 (27 + p) = 1 := by
      rw [hN.2.2.2.1, hB_msk (by omega) (by omega)]
      exact ⟨fun q => q.2, fun q => ⟨hp, q⟩⟩
    refine ⟨fun q => e4 (hv 2 (by decide) h _ _ hm ?_), fun q => e4 (hv 2 (by decide) h _ _ hm ?_)⟩
    · show 0 = A 494 (27 + p)
      have q := fun z => pI_0.mp q (hbit.mpr z)
      have : b = 0 := by
        rcases (show b = 0 ∨ b = 1 by omega) with z | z
        · exact z
        · exact absurd (by rw [eb, z]; rfl) q
      rw [eb, this]
      rfl
    · show 1 = A 494 (27 + p)
      exact (hbit.mp (pI_1.mp q)).symm
  · rw [ifp_f (nIn_of (by omega) (by decide))] at hΦ
    exact ⟨trivial, cRefA htr rfl (by omega) (by decide) (by decide) (hΦ _ _ (xk_a hm (by decide)))⟩
theorem x_fault (hR : Rl A) {m : Mm} (hm : cl m = A) : xS l g d k_X11_fault [.ref 586] m A (0, 0, A 0 3) := by
  refine nBx 0 rfl rfl rfl (by decide) rfl (fun htr o Φ hΦ => mGoOn (mOk (by decide)) rfl [] 400 ?_)
  show Φ (.inl (some (.int (m 587 3)))) m o ∧ 0 ≤ 4 ∧ 0 ≤ 24
  rw [ar hm 587 3, hR.2.2.2.2.2]
  exact e4 (hΦ _ _ (xk_v hm rfl))
theorem x_count (hR : Rl A) {m : Mm} (hm : cl m = A) (w : Int32) : xS l g d k_X11_count [.ref 586, .int w] m A (0, 0, if w = 0 then A 0 38 else if w = 1 then A 0 1 else if w = 2 then A 0 36 else -1) := by
  refine nBx 0 rfl rfl rfl (by decide) rfl (fun htr o Φ hΦ => mGoOn (mOk (by decide)) rfl [] 400 ?_)
  show ((w.toInt = 0 → Φ (.inl (some (.int (m 586 13)))) m o ∧ 0 ≤ 4 ∧ 0 ≤ 24) ∧ (w.toInt = 1 → Φ (.inl (some (.int (m 587 1)))) m o ∧ 0 ≤ 4 ∧ 0 ≤ 24) ∧ (w.toInt = 2 → Φ (.inl (some (.int (m 625 2)))) m o ∧ 0 ≤ 4 ∧ 0 ≤ 24) ∧ True) ∧ (w.toInt < 0 ∨ 2 < w.toInt → Φ (.inl (some (.int (-1 : Int32)))) m o ∧ 0 ≤ 4 ∧ 0 ≤ 24)
  rw [ar hm 586 13, ar hm 587 1, ar hm 625 2, hR.2.2.1.2.2.1, hR.2.2.2.2.1.2.2.1, hR.2.1.2.2.1, ← hR.2.2.1.2.1, ← hR.2.2.2.2.1.2.1, ← hR.2.1.1]
  refine ⟨⟨fun h => ?_, fun h => ?_, fun h => ?_, trivial⟩, fun h => ?_⟩
  · have := toI_nI (n := 0) h (by decide)
    subst this
    exact e4 (hΦ _ _ (xk_v hm rfl))
  · have := toI_nI (n := 1) h (by decide)
    subst this
    exact e4 (hΦ _ _ (xk_v hm rfl))
  · have := toI_nI (n := 2) h (by decide)
    subst this
    exact e4 (hΦ _ _ (xk_v hm rfl))
  · refine e4 (hΦ _ _ (xk_v hm ?_))
    rw [if_neg (fun q => by rw [q] at h; revert h; decide), if_neg (fun q => by rw [q] at h; revert h; decide), if_neg (fun q => by rw [q] at h; revert h; decide)]
theorem x_status (hR : Rl A) {m : Mm} (hm : cl m = A) (w : Int32) : xS l g d k_X11_status [.ref 586, .int w] m A (0, 0, vSta A w) := by
  refine nBx 0 rfl rfl rfl (by decide) rfl (fun htr o Φ hΦ => mGoOn (mOk (by decide)) rfl [] 400 ?_)
  show (¬ w = 0 → (¬ w = (1 : Int32) → Φ (.inl (some (.int (-1 : Int32)))) m o ∧ 0 ≤ 4 ∧ 0 ≤ 24) ∧ (w = (1 : Int32) → Φ (.inl (some (.int (m 586 16)))) m o ∧ 0 ≤ 4 ∧ 0 ≤ 24)) ∧ (w = 0 → Φ (.inl (some (.int (m 586 15)))) m o ∧ 0 ≤ 4 ∧ 0 ≤ 24)
  rw [ar hm 586 15, ar hm 586 16, hR.2.2.2.1.1, hR.2.2.2.1.2]
  unfold vSta at hΦ
  refine ⟨fun h => ⟨fun h2 => ?_, fun h2 => ?_⟩, fun h => ?_⟩
  · rw [ifp_f (by
      rintro ⟨k, hk, rfl⟩
      rcases (show k = 0 ∨ k = 1 by omega) with rfl | rfl
      · exact h rfl
      · exact h2 rfl)] at hΦ
    exact e4 (hΦ _ _ (xk_v hm rfl))
  · subst h2
    rw [ifp_t ⟨1, by decide, rfl⟩] at hΦ
    exact e4 (hΦ _ _ (xk_v hm rfl))
  · subst h
    rw [ifp_t ⟨0, by decide, rfl⟩] at hΦ
    exact e4 (hΦ _ _ (xk_v hm rfl))
end X4
