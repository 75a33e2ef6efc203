set_option maxRecDepth 100000
def xLo (l : Launch) (g : mG) (T : Nat → Int32) (n M S : Nat) (z : Int32) (f : Nat) : Prop := l.stackTraces = false → ∀ (d k i : Nat) (s s' : QW) (t : XS) (m : Mm) (o : Int64) (Φ : mR → Mm → Int64 → Prop), 3 * (6 - k) + 10 ≤ d → k ≤ 6 → i ≤ 151 → Wk T n M S f 1 k s s' → (s.1.2.1 = 0 → i ≤ s.1.1) → xR T n s.1 t → (s.1.2.1 = 0 → 2 * s.2.1 ≤ s.1.1) → tx T n z t m → (s.1.2.1 = 0 → dWk s.2 m) → m 590 2 = nI M → m 590 0 = nI S → (∀ m2, xQw T n z s' m m2 → Φ (.inl none) m2 o) → mWB l g d k_X9_readSteps Φ 0 0 3 [.ref 621, .ref 587, .ref 590, .int (nI k), .int (nI i)] [] m o 0 0
section XWl
variable {l : Launch} {g : mG} {T : Nat → Int32} {n M S : Nat} {z : Int32}
theorem xSq_of {f : Nat} (h : xLo l g T n M S z f) : xSq l g T n M S z f := by
  intro d k s s' t m hd hk hL hx hc ht hD h2 h0
  refine nBv 1 rfl rfl rfl (by decide) rfl (fun htr o Φ hΦ => mGoOn (mOk (by decide)) rfl [3] 400 ?_)
  show mWB l g d k_X9_readSteps Φ 0 0 3 [.ref 621, .ref 587, .ref 590, .int (nI k), .int (0 : Int32)] [] m o 0 0
  exact h htr d k 0 s s' t m o Φ hd hk (by decide) hL (fun _ => Nat.zero_le _) hx hc ht hD h2 h0 hΦ
theorem x_wlo (hn : n ≤ 150) (hM : M ≤ 6) (hS : S ≤ 9) {f : Nat} (IH : ∀ f', f' < f → xLo l g T n M S z f') : xLo l g T n M S z f := by
  intro htr d k i s s' t m o Φ hd hk hi hL hip hx hc h hD hm2 hm0 hΦ
  have hs := hx.1.1
  refine mGoOn (mOk (by decide)) rfl [3,36,56] 400 ?_
  show ((150 : Int32) < (nI i) → mWB l g d k_X9_readSteps Φ 0 0 56 [.ref 621, .ref 587, .ref 590, .int (nI k), .int (nI i)] [] m o 0 0) ∧ (¬ (150 : Int32) < (nI i) → True ∧ mCal l g d k_X9_readSteps Φ 0 0 _ 12 k_X7_good false [.ref 587] [] [.ref 621, .ref 587, .ref 590, .int (nI k), .int (nI i)] m o 0 0 1)
  rw [show (150 : Int32) = nI 150 from rfl, nI_ltI (by decide) (by omega)]
  by_cases hf : s.1.2.1 = 0
  · obtain ⟨t1, t2, t3⟩ := xR_at hx hf
    have hi0 := hip hf
    have hc0 := hc hf
    have hqn := skp_in (T := T) hs
    have hqq := skp_skp (T := T) hs
    have hge := skp_ge (T := T) hs
    refine ⟨fun y => absurd y (by omega), fun _ => ⟨trivial, fCi htr (x_good h) (by omega) ?_⟩⟩
    show ((pI (t.2.2.1 = 0)) = 0 → mWB l g d k_X9_readSteps Φ 0 0 56 [.ref 621, .ref 587, .ref 590, .int (nI k), .int (nI i)] [] m o 0 0) ∧ (¬ (pI (t.2.2.1 = 0)) = 0 → True ∧ mCal l g d k_X9_readSteps Φ 0 0 _ 19 k_X7_look false [.ref 587] [] [.ref 621, .ref 587, .ref 590, .int (nI k), .int (nI i)] m o 0 0 1)
    refine ⟨fun y => absurd t1 (pI_0.mp y), fun _ => ⟨trivial, nCi htr (x_look h (by omega) hx.1.2 (by omega)) (by omega) ?_⟩⟩
    rintro x m1 ⟨rfl, e1, h1⟩
    rw [t3]
    have hQ : ∃ f', f = f' + 1 ∧ WQ1 T n (Wk T n M S f' 0) (Wk T n M S f' 1) k s s' := by
      cases f with
      | zero => exact absurd hf hL.1
      | succ f' =>
        rcases hL with q | ⟨_, ⟨q, _⟩ | ⟨_, q⟩⟩
        · exact absurd hf q.1
        · exact absurd q (by decide)
        · exact ⟨f', rfl, q⟩
    obtain ⟨f', ef, hQ⟩ := hQ
    have hstop : stp k (bAt T n (skp T n s.1.1)) → Φ (.inl none) m1 o := by
      intro q
      rcases hQ with ⟨_, rfl⟩ | ⟨y, _⟩
      · exact hΦ m1 ⟨_, xR_bl (xR_lk hx), eWk_T e1, h1, fun _ => dWk_T (hD hf) e1⟩
      · exact absurd q y
    have k36 : ¬ stp k (bAt T n (skp T n s.1.1)) → mWB l g d k_X9_readSteps Φ 0 0 36 [.ref 621, .ref 587, .ref 590, .int (nI k), .int (nI i)] [] m1 o 0 0 := by
      intro q
      rcases hQ with ⟨y, _⟩ | ⟨_, s1, L0, L1⟩
      · exact absurd y q
      have hW : ∃ f2, f' = f2 + 1 ∧ WS1 T n M S (Wk T n M S f2 1) k ((skp T n s.1.1, s.1.2), s.2) s1 := by
        cases f' with
        | zero => exact absurd hf L0.1
        | succ f2 =>
          rcases L0 with q | ⟨_, ⟨_, q⟩ | ⟨q, _⟩⟩
          · exact absurd hf q.1
          · exact ⟨f2, rfl, q⟩
          · exact absurd q (by decide)
      obtain ⟨f2, ef2, hW⟩ := hW
      have B := Wk_ok hM hS _ _ _ _ _ L0 hqn hk
      rw [if_pos rfl] at B
      refine mGoOn (mOk (by decide)) rfl [3] 400 ?_
      show True ∧ mCal l g d k_X9_readSteps Φ 0 0 _ 40 k_X9_readStep false [.ref 621, .ref 587, .ref 590, .int (nI k)] [] [.ref 621, .ref 587, .ref 590, .int (nI k), .int (nI i)] m1 o 0 0 0
      have xl : xR T n (skp T n s.1.1, s.1.2) (xLk T n t) := xR_bl (xR_lk hx)
      refine ⟨trivial, nCv htr (x_wstep hn hM hS (xSq_of (IH f2 (by omega))) (s := ((skp T n s.1.1, s.1.2), s.2)) (by omega) hk hW hf hqq xl (by show 2 * s.2.1 ≤ skp T n s.1.1; omega) h1 (dWk_T (hD hf) e1) (by rw [e1 590 (by decide)]; exact hm2) (by rw [e1 590 (by decide)]; exact hm0)) (by omega) ?_⟩
      rintro m2 ⟨p', t', a1, a2, a3, a4, a5⟩
      show True ∧ mCal l g d k_X9_readSteps Φ 0 0 _ 46 k_X7_needSign false [.ref 587, .int (59 : Int32)] [] [.ref 621, .ref 587, .ref 590, .int (nI k), .int (nI i)] m2 o 0 0 1
      refine ⟨trivial, nCi htr (x_needSign a4 (by omega) a2.1.2 59 (by omega)) (by omega) ?_⟩
      rintro x m3 ⟨rfl, e3, h3⟩
      have x3 := xR_sg a2 (c := 59) (by decide)
      rw [← a1] at x3
      have h59 := pSgn_ok (T := T) (n := n) (c := 59) (by decide) a2.1.1
      rw [← a1] at h59
      have E3 : eWk m m3 := eWk_trans (eWk_T e1) (eWk_trans a3 (eWk_T e3))
      show (Value.int (pI ((xSg T n 59 t').2.2.1 = 0))).category = 1 ∧ (mWB l g d k_X9_readSteps Φ 0 0 3 [.ref 621, .ref 587, .ref 590, .int (nI k), .int ((nI i) + (1 : Int32))] [] m3 o 0 0)
      rw [nI_1]
      refine ⟨rfl, IH f' (by omega) htr d k (i + 1) s1 s' (xSg T n 59 t') m3 o Φ hd hk (by omega) L1 (fun u => ?_) x3 (fun u => ?_) h3 (fun u => dWk_T (a5 (h59.2 u).1) e3) (by rw [E3 590 (by decide) (by omega)]; exact hm2) (by rw [E3 590 (by decide) (by omega)]; exact hm0) (fun m4 h4 => hΦ m4 ?_)⟩
      · have b2 : skp T n s.1.1 + 1 ≤ s1.1.1 := (B.2 u).2.1
        omega
      · have b3 : 2 * s1.2.1 + skp T n s.1.1 ≤ s1.1.1 + 2 * s.2.1 := (B.2 u).2.2.1
        omega
      · obtain ⟨t4, c1, c2, c3, c4⟩ := h4
        exact ⟨t4, c1, eWk_trans E3 c2, c3, c4⟩
    show (¬ (nI k) = 0 → (¬ (bAt T n (skp T n s.1.1)) = (93 : Int32) → mWB l g d k_X9_readSteps Φ 0 0 36 [.ref 621, .ref 587, .ref 590, .int (nI k), .int (nI i)] [] m1 o 0 0) ∧ ((bAt T n (skp T n s.1.1)) = (93 : Int32) → Φ (.inl none) m1 o ∧ 0 ≤ 0 ∧ 0 ≤ 0)) ∧ ((nI k) = 0 → (¬ (bAt T n (skp T n s.1.1)) = (-1 : Int32) → mWB l g d k_X9_readSteps Φ 0 0 36 [.ref 621, .ref 587, .ref 590, .int (nI k), .int (nI i)] [] m1 o 0 0) ∧ ((bAt T n (skp T n s.1.1)) = (-1 : Int32) → Φ (.inl none) m1 o ∧ 0 ≤ 0 ∧ 0 ≤ 0))
    have hs0 : stp k (bAt T n (skp T n s.1.1)) ↔ (if k = 0 then bAt T n (skp T n s.1.1) = -1 else bAt T n (skp T n s.1.1) = 93) := Iff.rfl
    refine ⟨fun y => ?_, fun y => ?_⟩
    · have hk0 : k ≠ 0 := fun e => y (by rw [e]; rfl)
      rw [if_neg hk0] at hs0
      exact ⟨fun q => k36 (fun u => q (hs0.mp u)), fun q => eR (hstop (hs0.mpr q))⟩
    · have hk0 : k = 0 := by
        have y1 : nI k = nI 0 := y
        rw [nI_eq (by omega) (by decide)] at y1
        exact y1
      rw [if_pos hk0] at hs0
      exact ⟨fun q => k36 (fun u => q (hs0.mp u)), fun q => eR (hstop (hs0.mpr q))⟩
  · have hw := Wk_fe hf hL
    have t1 : t.2.2.1 ≠ 0 := fun y => hf ((xR_kd hx).mpr y)
    have hfin : Φ (.inl none) m o := by
      refine hΦ m ⟨t, ?_, eWk_refl m, h, fun y => absurd (by rw [hw.2.1] at y; exact y) hf⟩
      rcases hx.2.1 with ⟨u, _⟩ | ⟨_, u2, u3⟩
      · exact absurd u hf
      · refine ⟨⟨hw.2.2, hx.1.2⟩, Or.inr ⟨by rw [hw.2.1]; exact hf, by rw [hw.2.1]; exact u2, by rw [hw.2.1]; exact u3⟩, hx.2.2⟩
    have k56 : mWB l g d k_X9_readSteps Φ 0 0 56 [.ref 621, .ref 587, .ref 590, .int (nI k), .int (nI i)] [] m o 0 0 := by
      refine mGoOn (mOk (by decide)) rfl [] 400 ?_
      show Φ (.inl none) m o ∧ 0 ≤ 0 ∧ 0 ≤ 0
      exact eR hfin
    refine ⟨fun _ => k56, fun _ => ⟨trivial, fCi htr (x_good h) (by omega) ?_⟩⟩
    show ((pI (t.2.2.1 = 0)) = 0 → mWB l g d k_X9_readSteps Φ 0 0 56 [.ref 621, .ref 587, .ref 590, .int (nI k), .int (nI i)] [] m o 0 0) ∧ (¬ (pI (t.2.2.1 = 0)) = 0 → True ∧ mCal l g d k_X9_readSteps Φ 0 0 _ 19 k_X7_look false [.ref 587] [] [.ref 621, .ref 587, .ref 590, .int (nI k), .int (nI i)] m o 0 0 1)
    exact ⟨fun _ => k56, fun y => absurd (pI_1.mp y) t1⟩
theorem x_wloA (hn : n ≤ 150) (hM : M ≤ 6) (hS : S ≤ 9) : ∀ f f', f' < f → xLo l g T n M S z f'
  | 0, f', h => absurd h (Nat.not_lt_zero _)
  | f + 1, f', h => by
    by_cases q : f' < f
    · exact x_wloA hn hM hS f f' q
    · have e : f' = f := by omega
      rw [e]
      exact x_wlo hn hM hS (fun f2 h2 => x_wloA hn hM hS f f2 h2)
theorem x_wread {d : Nat} (hn : n ≤ 150) (hM : M ≤ 6) (hS : S ≤ 9) {s' : QW} {m : Mm} (hL : wkS T n M S s') (h : tx T n z (0, 0, 0, -1) m) (hm2 : m 590 2 = nI M) (hm0 : m 590 0 = nI S) (hd : 29 ≤ d) : mHv l g d k_X9_read [.ref 621, .ref 587, .ref 590] m (xQw T n z s' m) := by
  refine nBv 0 rfl rfl rfl (by decide) rfl (fun htr o Φ hΦ => mGoOn (mOk (by decide)) rfl [] 400 ?_)
  show True ∧ mCal l g d k_X9_read Φ 0 0 _ 9 k_X9_readSteps false [.ref 621, .ref 587, .ref 590, .int (0 : Int32)] [] [.ref 621, .ref 587, .ref 590] (mset m 621 3 (0 : Int32)) o 0 0 0
  have h0 : tx T n z (0, 0, 0, -1) (mset m 621 3 0) := tx_eq h (mset_ne _ _ _ (by decide)) (mset_ne _ _ _ (by decide))
  have hx0 : xR T n (skp T n 0, 0, -1) (0, 0, 0, -1) := ⟨⟨skp_in (Nat.zero_le _), Nat.zero_le _⟩, Or.inl ⟨rfl, rfl, skp_skp (Nat.zero_le _)⟩, fun _ => rfl⟩
  have hsq := xSq_of (x_wloA (l := l) (g := g) (T := T) (z := z) hn hM hS (2 * n + 2 + 1) (2 * n + 2) (Nat.lt_succ_self _)) (d - 1) 0 ((skp T n 0, 0, -1), wk0) s' (0, 0, 0, -1) (mset m 621 3 0) (by omega) (by decide) hL hx0 (fun _ => Nat.zero_le _) h0 (fun _ => ⟨by rw [mset_eq, pk_us]; rfl, fun i hi => absurd hi (Nat.not_lt_zero _)⟩) (by rw [mset_ne _ _ _ (by decide)]; exact hm2) (by rw [mset_ne _ _ _ (by decide)]; exact hm0)
  refine ⟨trivial, nCv htr hsq (by omega) ?_⟩
  rintro m1 ⟨t1, x1, e1, h1, d1⟩
  exact eR (hΦ _ ⟨t1, x1, eWk_trans (fun a _ a2 => mset_ne _ _ _ (by omega)) e1, h1, d1⟩)
end XWl
