set_option maxRecDepth 100000
theorem dg_ns {c : Int32} (h : isDg c) : ¬ isSm c ∧ c ≠ 40 := by
  obtain ⟨e, he, rfl⟩ := dg_of h
  refine ⟨fun q => ?_, fun q => ?_⟩
  · have h1 := (fa_le _ _).mp q.1
    rw [nI_toInt (by omega)] at h1
    have e1 : (97 : Int32).toInt = 97 := rfl
    omega
  · rw [show (40 : Int32) = nI 40 from rfl, nI_eq (by omega) (by decide)] at q
    omega
theorem s40 : ¬ isSm 40 := by unfold isSm; decide
section XU
variable {l : Launch} {g : mG} {T : Nat → Int32} {n : Nat} {z : Int32}
theorem x_unitF (d k : Nat) (s : QS) (t : XS) (m : Mm) (hd : 4 * (6 - k) + 10 ≤ d) (hf : s.1.2.1 ≠ 0) (hx : xR T n s.1 t) (h : tx T n z t m) : mHv l g d k_X4_readUnit [.ref 614, .ref 587, .int (nI k)] m (xQ T n z s m) := by
  refine nBv 1 rfl rfl rfl (by decide) rfl (fun htr o Φ hΦ => mGoOn (mOk (by decide)) rfl [56] 400 ?_)
  show True ∧ mCal l g d k_X4_readUnit Φ 0 0 _ 1 k_X7_good false [.ref 587] [] [.ref 614, .ref 587, .int (nI k), mJ] m o 0 0 1
  refine ⟨trivial, fCi htr (x_good h) (by omega) ?_⟩
  show (¬ (pI (t.2.2.1 = 0)) = 0 → True ∧ mCal l g d k_X4_readUnit Φ 0 0 _ 9 k_X7_look false [.ref 587] [] [.ref 614, .ref 587, .int (nI k), mJ] m o 0 0 1) ∧ ((pI (t.2.2.1 = 0)) = 0 → Φ (.inl none) m o ∧ 0 ≤ 0 ∧ 0 ≤ 0)
  have t1 : t.2.2.1 ≠ 0 := fun y => hf ((xR_kd hx).mpr y)
  exact ⟨fun y => absurd (pI_1.mp y) t1, fun _ => eR (hΦ m ⟨t, hx, eLw_refl m, h, fun y => absurd y hf⟩)⟩
theorem x_unitN (hn : n ≤ 150) {f : Nat} (IH : xC l g T n z k_X4_readSum 4 12 f) : xC l g T n z k_X4_readUnit 0 10 (f + 1) := by
  intro d k s s' t m hd hk hL hx hlen hok h hD
  by_cases hf : s.1.2.1 = 0
  · obtain ⟨t1, t2, t3⟩ := xR_at hx hf
    have hqn := skp_in (T := T) hx.1.1
    have hqq := skp_skp (T := T) hx.1.1
    have hge := skp_ge (T := T) hx.1.1
    have hA : Aft n 1 s s' := Lw_ok _ _ _ _ _ hL hx.1.1 hok (fun z => by omega)
    have hL' : LO T n (Lw T n f 4) k s s' := by
      rcases hL with ⟨q, _⟩ | ⟨_, ⟨q, L⟩ | ⟨q, _⟩ | ⟨q, _⟩ | ⟨q, _⟩ | ⟨q, _⟩⟩
      · exact absurd hf q
      all_goals first | exact L | exact absurd q (by decide)
    clear hL
    refine nBv 1 rfl rfl rfl (by decide) rfl (fun htr o Φ hΦ => mGoOn (mOk (by decide)) rfl [56] 400 ?_)
    show True ∧ mCal l g d k_X4_readUnit Φ 0 0 _ 1 k_X7_good false [.ref 587] [] [.ref 614, .ref 587, .int (nI k), mJ] m o 0 0 1
    refine ⟨trivial, fCi htr (x_good h) (by omega) ?_⟩
    show (¬ (pI (t.2.2.1 = 0)) = 0 → True ∧ mCal l g d k_X4_readUnit Φ 0 0 _ 9 k_X7_look false [.ref 587] [] [.ref 614, .ref 587, .int (nI k), mJ] m o 0 0 1) ∧ ((pI (t.2.2.1 = 0)) = 0 → Φ (.inl none) m o ∧ 0 ≤ 0 ∧ 0 ≤ 0)
    refine ⟨fun _ => ?_, fun y => absurd t1 (pI_0.mp y)⟩
    refine ⟨trivial, nCi htr (x_look h (by omega) hx.1.2 (by omega)) (by omega) ?_⟩
    rintro x m1 ⟨rfl, e1, h1⟩
    rw [t3]
    have D1 := dLw_T e1 (hD hf)
    have hnw : ¬ isSm (bAt T n (skp T n s.1.1)) → wHere T n (skp T n s.1.1) = 0 := fun q => Classical.byContradiction (fun y => q (wH_pos hqn y).1)
    show mCal l g d k_X4_readUnit Φ 0 0 _ 14 k_X7_isDigit false [.int (bAt T n (skp T n s.1.1))] [] [.ref 614, .ref 587, .int (nI k), .int (bAt T n (skp T n s.1.1))] m1 o 0 0 1
    refine fCi htr (x_isDigit m1 _) (by omega) ?_
    show ((pI (isDg (bAt T n (skp T n s.1.1)))) = 0 → (¬ (bAt T n (skp T n s.1.1)) = (40 : Int32) → True ∧ mCal l g d k_X4_readUnit Φ 0 0 _ 53 k_X4_readWord false [.ref 614, .ref 587, .int (nI k)] [] [.ref 614, .ref 587, .int (nI k), .int (bAt T n (skp T n s.1.1))] m1 o 0 0 0) ∧ ((bAt T n (skp T n s.1.1)) = (40 : Int32) → True ∧ mCal l g d k_X4_readUnit Φ 0 0 _ 44 k_X4_readInner false [.ref 614, .ref 587, .int (nI k)] [] [.ref 614, .ref 587, .int (nI k), .int (bAt T n (skp T n s.1.1))] m1 o 0 0 0)) ∧ (¬ (pI (isDg (bAt T n (skp T n s.1.1)))) = 0 → True ∧ mCal l g d k_X4_readUnit Φ 0 0 _ 26 k_X7_number false [.ref 587, .int (0 : Int32), .int (999 : Int32)] [.ref 614] [.ref 614, .ref 587, .int (nI k), .int (bAt T n (skp T n s.1.1))] m1 o 0 0 1)
    refine ⟨fun y => ?_, fun y => ?_⟩
    · replace y := pI_0.mp y
      refine ⟨fun n40 => ?_, fun y40 => ?_⟩
      · have hL2 : LA T n (Lw T n f 4) k s s' ∨ ((wHere T n (skp T n s.1.1) ≠ wLe ∧ wHere T n (skp T n s.1.1) ≠ wMo) ∧ (LC T n s s' ∨ LD T n s s')) := by
          rcases hL' with q | ⟨q, q2 | ⟨_, q2⟩⟩
          · exact Or.inl q
          · exact absurd q2.1 n40
          · exact Or.inr ⟨q, q2⟩
        refine ⟨trivial, nCv htr (x_wordN hn IH (by omega) hk hL2 hA y hf (xR_lk hx) hlen hok h1 D1) (by omega) ?_⟩
        intro m2 h2
        refine mGoOn (mOk (by decide)) rfl [] 400 ?_
        show Φ (.inl none) m2 o ∧ 0 ≤ 0 ∧ 0 ≤ 0
        exact eR (hΦ m2 (xQ_tr (eLw_T e1) h2))
      · have hw : wHere T n (skp T n s.1.1) = 0 := hnw (by rw [y40]; exact s40)
        have hL2 : LB T n (Lw T n f 4) k s s' := by
          rcases hL' with ⟨b, q, _⟩ | ⟨q, q2 | ⟨q2, _⟩⟩
          · rw [hw] at q
            rcases q with ⟨_, q⟩ | ⟨_, q⟩
            · exact absurd q.symm wLe_0.1
            · exact absurd q.symm wLe_0.2.1
          · exact q2
          · exact absurd y40 q2
        refine ⟨trivial, nCv htr (x_innerN hn IH (by omega) hk hL2 hf hx hlen hok h1 D1) (by omega) ?_⟩
        intro m2 h2
        refine mGoOn (mOk (by decide)) rfl [] 400 ?_
        show Φ (.inl none) m2 o ∧ 0 ≤ 0 ∧ 0 ≤ 0
        exact eR (hΦ m2 (xQ_tr (eLw_T e1) h2))
    · replace y := pI_1.mp y
      have hw : wHere T n (skp T n s.1.1) = 0 := hnw (dg_ns y).1
      have hL2 : LD T n s s' := by
        rcases hL' with ⟨b, q, _⟩ | ⟨q, q2 | ⟨q2, ⟨i, hi, q3, _⟩ | q3⟩⟩
        · rw [hw] at q
          rcases q with ⟨_, q⟩ | ⟨_, q⟩
          · exact absurd q.symm wLe_0.1
          · exact absurd q.symm wLe_0.2.1
        · exact absurd q2.1 (dg_ns y).2
        · rw [hw] at q3
          exact absurd q3.symm (kwA_0 i hi).1
        · exact q3
      obtain ⟨_, j, hj, ej, rfl⟩ := hL2
      have hxl := xR_bl (xR_lk hx)
      have hxl' : xR T n (skp T n s.1.1, s.1.2) (xLk T n t) := hxl
      have r := xR_nm hxl' 0 (hi := 999) (by decide)
      refine ⟨trivial, nCi htr (x_number h1 (by omega) (skp_in hx.1.2) 0 999 (by omega)) (by omega) ?_⟩
      rintro x m2 ⟨rfl, e2, h2⟩
      rw [← r.1, ej]
      show True ∧ mCal l g d k_X4_readUnit Φ 0 0 _ 29 k_X4_add false [.ref 614, .int (nI j)] [] [.ref 614, .ref 587, .int (nI k), .int (bAt T n (skp T n s.1.1))] m2 o 0 0 0
      refine ⟨trivial, nCv htr (x_add m2 _ (by omega)) (by omega) ?_⟩
      intro m3 h3
      refine mGoOn (mOk (by decide)) rfl [] 400 ?_
      show Φ (.inl none) m3 o ∧ 0 ≤ 0 ∧ 0 ≤ 0
      exact eR (hΦ m3 (xQ_add (a := 0) (b := j) (s1 := ((pNum T n 0 999 (skp T n s.1.1, s.1.2)).2, s.2)) r.2 h2 (eLw_trans (eLw_T e1) (eLw_T e2)) (fun _ => dLw_T e2 D1) (fun q => by
        have a1 := (pNum_ok (T := T) (n := n) (lo := 0) (hi := 999) (p := (skp T n s.1.1, s.1.2)) hqn).1
        have a2 := ((pNum_ok (T := T) (n := n) (lo := 0) (hi := 999) (p := (skp T n s.1.1, s.1.2)) hqn).2.1 q).2.2
        have a3 : skp T n s.1.1 < (pNum T n 0 999 (skp T n s.1.1, s.1.2)).2.1 := a2
        show s.2.length < 150
        omega) (fun _ => rfl) h3))
  · have e := Lw_fe hf hL
    subst e
    exact x_unitF d k s' t m hd hf hx h
theorem x_allN (hn : n ≤ 150) : ∀ f, xC l g T n z k_X4_readUnit 0 10 f ∧ xLP l g T n z f ∧ xC l g T n z k_X4_readProduct 2 11 f ∧ xLS l g T n z f ∧ xC l g T n z k_X4_readSum 4 12 f := by
  have hpF : ∀ (d k : Nat) (s : QS) (t : XS) (m : Mm), 4 * (6 - k) + 11 ≤ d → s.1.2.1 ≠ 0 → xR T n s.1 t → tx T n z t m → mHv l g d k_X4_readProduct [.ref 614, .ref 587, .int (nI k)] m (xQ T n z s m) := by
    intro d k s t m hd hf hx h
    refine nBv 2 rfl rfl rfl (by decide) rfl (fun htr o Φ hΦ => mGoOn (mOk (by decide)) rfl [8] 400 ?_)
    show True ∧ mCal l g d k_X4_readProduct Φ 0 0 _ 3 k_X4_readUnit false [.ref 614, .ref 587, .int (nI k)] [] [.ref 614, .ref 587, .int (nI k), mJ, mJ] m o 0 0 0
    refine ⟨trivial, nCv htr (x_unitF (d - 1) k s t m (by omega) hf hx h) (by omega) ?_⟩
    rintro m1 ⟨t1', x1, e1, h1, d1⟩
    show mWB l g d k_X4_readProduct Φ 0 0 8 [.ref 614, .ref 587, .int (nI k), .int (0 : Int32), mJ] [] m1 o 0 0
    refine mGoOn (mOk (by decide)) rfl [43,50] 400 ?_
    show ((150 : Int32) ≤ (0 : Int32) → Φ (.inl none) m1 o ∧ 0 ≤ 0 ∧ 0 ≤ 0) ∧ (¬ (150 : Int32) ≤ (0 : Int32) → True ∧ mCal l g d k_X4_readProduct Φ 0 0 _ 16 k_X7_good false [.ref 587] [] [.ref 614, .ref 587, .int (nI k), .int (0 : Int32), mJ] m1 o 0 0 1)
    have t2 : t1'.2.2.1 ≠ 0 := fun y => hf ((xR_kd x1).mpr y)
    refine ⟨fun q => eR (hΦ m1 ⟨t1', x1, e1, h1, d1⟩), fun q => ⟨trivial, fCi htr (x_good h1) (by omega) ?_⟩⟩
    show ((pI (t1'.2.2.1 = 0)) = 0 → Φ (.inl none) m1 o ∧ 0 ≤ 0 ∧ 0 ≤ 0) ∧ (¬ (pI (t1'.2.2.1 = 0)) = 0 → True ∧ mCal l g d k_X4_readProduct Φ 0 0 _ 23 k_X7_look false [.ref 587] [] [.ref 614, .ref 587, .int (nI k), .int (0 : Int32), mJ] m1 o 0 0 1)
    exact ⟨fun _ => eR (hΦ m1 ⟨t1', x1, e1, h1, d1⟩), fun y => absurd (pI_1.mp y) t2⟩
  have hsF : ∀ (d k : Nat) (s : QS) (t : XS) (m : Mm), 4 * (6 - k) + 12 ≤ d → s.1.2.1 ≠ 0 → xR T n s.1 t → tx T n z t m → mHv l g d k_X4_readSum [.ref 614, .ref 587, .int (nI k)] m (xQ T n z s m) := by
    intro d k s t m hd hf hx h
    refine nBv 2 rfl rfl rfl (by decide) rfl (fun htr o Φ hΦ => mGoOn (mOk (by decide)) rfl [8] 400 ?_)
    show True ∧ mCal l g d k_X4_readSum Φ 0 0 _ 3 k_X4_readProduct false [.ref 614, .ref 587, .int (nI k)] [] [.ref 614, .ref 587, .int (nI k), mJ, mJ] m o 0 0 0
    refine ⟨trivial, nCv htr (hpF (d - 1) k s t m (by omega) hf hx h) (by omega) ?_⟩
    rintro m1 ⟨t1', x1, e1, h1, d1⟩
    show mWB l g d k_X4_readSum Φ 0 0 8 [.ref 614, .ref 587, .int (nI k), .int (0 : Int32), mJ] [] m1 o 0 0
    refine mGoOn (mOk (by decide)) rfl [43,50] 400 ?_
    show ((150 : Int32) ≤ (0 : Int32) → Φ (.inl none) m1 o ∧ 0 ≤ 0 ∧ 0 ≤ 0) ∧ (¬ (150 : Int32) ≤ (0 : Int32) → True ∧ mCal l g d k_X4_readSum Φ 0 0 _ 16 k_X7_good false [.ref 587] [] [.ref 614, .ref 587, .int (nI k), .int (0 : Int32), mJ] m1 o 0 0 1)
    have t2 : t1'.2.2.1 ≠ 0 := fun y => hf ((xR_kd x1).mpr y)
    refine ⟨fun q => eR (hΦ m1 ⟨t1', x1, e1, h1, d1⟩), fun q => ⟨trivial, fCi htr (x_good h1) (by omega) ?_⟩⟩
    show ((pI (t1'.2.2.1 = 0)) = 0 → Φ (.inl none) m1 o ∧ 0 ≤ 0 ∧ 0 ≤ 0) ∧ (¬ (pI (t1'.2.2.1 = 0)) = 0 → True ∧ mCal l g d k_X4_readSum Φ 0 0 _ 23 k_X7_look false [.ref 587] [] [.ref 614, .ref 587, .int (nI k), .int (0 : Int32), mJ] m1 o 0 0 1)
    exact ⟨fun _ => eR (hΦ m1 ⟨t1', x1, e1, h1, d1⟩), fun y => absurd (pI_1.mp y) t2⟩
  intro f
  induction f with
  | zero =>
    refine ⟨fun d k s s' t m hd hk hL hx hlen hok h hD => ?_, fun htr d k s s' t m o Φ i hd hk hL hi hx hlen hok hhg h hD hΦ => ?_, fun d k s s' t m hd hk hL hx hlen hok h hD => ?_, fun htr d k s s' t m o Φ i hd hk hL hi hx hlen hok hhg h hD hΦ => ?_, fun d k s s' t m hd hk hL hx hlen hok h hD => ?_⟩
    · rw [hL.2]; exact x_unitF d k s t m hd hL.1 hx h
    · have hf := hL.1
      have hfin := hΦ m ⟨t, by rw [hL.2]; exact hx, eLw_refl m, h, fun y => absurd (by rw [hL.2] at y; exact y) hf⟩
      refine mGoOn (mOk (by decide)) rfl [43,50] 400 ?_
      show ((150 : Int32) ≤ (nI i) → Φ (.inl none) m o ∧ 0 ≤ 0 ∧ 0 ≤ 0) ∧ (¬ (150 : Int32) ≤ (nI i) → True ∧ mCal l g d k_X4_readProduct Φ 0 0 _ 16 k_X7_good false [.ref 587] [] [.ref 614, .ref 587, .int (nI k), .int (nI i), mJ] m o 0 0 1)
      have t2 : t.2.2.1 ≠ 0 := fun y => hf ((xR_kd hx).mpr y)
      refine ⟨fun q => eR hfin, fun q => ⟨trivial, fCi htr (x_good h) (by omega) ?_⟩⟩
      show ((pI (t.2.2.1 = 0)) = 0 → Φ (.inl none) m o ∧ 0 ≤ 0 ∧ 0 ≤ 0) ∧ (¬ (pI (t.2.2.1 = 0)) = 0 → True ∧ mCal l g d k_X4_readProduct Φ 0 0 _ 23 k_X7_look false [.ref 587] [] [.ref 614, .ref 587, .int (nI k), .int (nI i), mJ] m o 0 0 1)
      exact ⟨fun _ => eR hfin, fun y => absurd (pI_1.mp y) t2⟩
    · rw [hL.2]; exact hpF d k s t m hd hL.1 hx h
    · have hf := hL.1
      have hfin := hΦ m ⟨t, by rw [hL.2]; exact hx, eLw_refl m, h, fun y => absurd (by rw [hL.2] at y; exact y) hf⟩
      refine mGoOn (mOk (by decide)) rfl [43,50] 400 ?_
      show ((150 : Int32) ≤ (nI i) → Φ (.inl none) m o ∧ 0 ≤ 0 ∧ 0 ≤ 0) ∧ (¬ (150 : Int32) ≤ (nI i) → True ∧ mCal l g d k_X4_readSum Φ 0 0 _ 16 k_X7_good false [.ref 587] [] [.ref 614, .ref 587, .int (nI k), .int (nI i), mJ] m o 0 0 1)
      have t2 : t.2.2.1 ≠ 0 := fun y => hf ((xR_kd hx).mpr y)
      refine ⟨fun q => eR hfin, fun q => ⟨trivial, fCi htr (x_good h) (by omega) ?_⟩⟩
      show ((pI (t.2.2.1 = 0)) = 0 → Φ (.inl none) m o ∧ 0 ≤ 0 ∧ 0 ≤ 0) ∧ (¬ (pI (t.2.2.1 = 0)) = 0 → True ∧ mCal l g d k_X4_readSum Φ 0 0 _ 23 k_X7_look false [.ref 587] [] [.ref 614, .ref 587, .int (nI k), .int (nI i), mJ] m o 0 0 1)
      exact ⟨fun _ => eR hfin, fun y => absurd (pI_1.mp y) t2⟩
    · rw [hL.2]; exact hsF d k s t m hd hL.1 hx h
  | succ f IH =>
    obtain ⟨i0, i1, i2, i3, i4⟩ := IH
    exact ⟨x_unitN hn i4, x_prodL hn i0 i1, x_prodN i0 i1 x_unitF, x_sumL hn i2 i3, x_sumN i2 i3 hpF⟩
/-- a whole sum -/
theorem x_readSum {d f : Nat} (hd : 36 ≤ d) (hn : n ≤ 150) {s' : QS} {t : XS} {m : Mm} {p : PS} (hL : Lw T n f 4 0 (p, []) s') (hx : xR T n p t) (h : tx T n z t m) (h0 : m 614 2 = 0) : mHv l g d k_X4_readSum [.ref 614, .ref 587, .int 0] m (xQ T n z s' m) :=
  (x_allN hn f).2.2.2.2 d 0 (p, []) s' t m hd (by decide) hL hx (Nat.zero_le _) trivial h (fun _ => ⟨h0, fun i hi => absurd hi (Nat.not_lt_zero _)⟩)
end XU
