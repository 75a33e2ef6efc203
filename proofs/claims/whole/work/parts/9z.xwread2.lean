set_option maxRecDepth 100000
section XWs
variable {l : Launch} {g : mG} {T : Nat → Int32} {n M S : Nat} {z : Int32}
theorem x_wstep (hn : n ≤ 150) (hM : M ≤ 6) (hS : S ≤ 9) {f : Nat} (IH : xSq l g T n M S z f) {d k : Nat} {s s' : QW} {t : XS} {m : Mm} (hd : 3 * (6 - k) + 9 ≤ d) (hk : k ≤ 6) (hL : WS1 T n M S (Wk T n M S f 1) k s s') (hf : s.1.2.1 = 0) (hq : skp T n s.1.1 = s.1.1) (hx : xR T n s.1 t) (hc : 2 * s.2.1 ≤ s.1.1) (h : tx T n z t m) (hD : dWk s.2 m) (hm2 : m 590 2 = nI M) (hm0 : m 590 0 = nI S) : mHv l g d k_X9_readStep [.ref 621, .ref 587, .ref 590, .int (nI k)] m (xQs T n z s' m) := by
  have hs := hx.1.1
  obtain ⟨t1, t2, t3⟩ := xR_at hx hf
  rw [hq] at t3
  have hpos := stH_pos (T := T) (n := n) hs
  refine nBv 1 rfl rfl rfl (by decide) rfl (fun htr o Φ hΦ => mGoOn (mOk (by decide)) rfl [148] 400 ?_)
  show True ∧ mCal l g d k_X9_readStep Φ 0 0 _ 1 k_X7_word false [.ref 587] [] [.ref 621, .ref 587, .ref 590, .int (nI k), mJ] m o 0 0 0
  refine ⟨trivial, nCv htr (x_word h (by omega) hx.1.2 (by omega)) (by omega) ?_⟩
  rintro m1 ⟨e1, h1⟩
  show True ∧ mCal l g d k_X9_readStep Φ 0 0 _ 7 k_X7_isWord false [.ref 587, .ref 1000015] [] [.ref 621, .ref 587, .ref 590, .int (nI k), mJ] m1 o 0 0 1
  obtain ⟨c0, c1, c2, c3, c4⟩ := wc_wk
  have w0 := x_isW (l := l) (g := g) (d := d - 1) h1 (by omega) hx.1.2 (i := 14) (by decide) c0.1 (w := 204) c0.2 (by omega)
  have w1 := x_isW (l := l) (g := g) (d := d - 1) h1 (by omega) hx.1.2 (i := 15) (by decide) c1.1 (w := wCa) c1.2 (by omega)
  have w2 := x_isW (l := l) (g := g) (d := d - 1) h1 (by omega) hx.1.2 (i := 16) (by decide) c2.1 (w := wBe) c2.2 (by omega)
  have w3 := x_isW (l := l) (g := g) (d := d - 1) h1 (by omega) hx.1.2 (i := 6) (by decide) c3.1 (w := wHo) c3.2 (by omega)
  have w4 := x_isW (l := l) (g := g) (d := d - 1) h1 (by omega) hx.1.2 (i := 17) (by decide) c4.1 (w := wAg) c4.2 (by omega)
  rw [t3] at w0 w1 w2 w3 w4
  have D1 := dWk_T hD e1
  have hWn := (xWd_mk (T := T) (t := t) hx.1.2).1
  have hW1 : (xWd T n t).1 = swd T n (n - s.1.1) s.1.1 := by show swd T n (n - skp T n t.1) (skp T n t.1) = _; rw [t3]
  have hW2 : (xWd T n t).2.1 = s.1.1 := t3
  have hWk : (xWd T n t).2.2.1 = 0 := t1
  have hWp : (xWd T n t).2.2.2 = -1 := t2
  generalize xWd T n t = u at h1 hW1 hW2 hWn hWk hWp
  have x0 : xR T n (swd T n (n - s.1.1) s.1.1, s.1.2) u := xR_mk (by rw [← hW1]; exact hWn) hf hW1 hWk hWp
  have g2 : m1 590 2 = nI M := by rw [e1 590 (by decide)]; exact hm2
  have g0 : m1 590 0 = nI S := by rw [e1 590 (by decide)]; exact hm0
  unfold WS1 at hL
  have hst : stH T n s.1.1 = ifp (wHere T n s.1.1 = 204) 0 (ifp (wHere T n s.1.1 = wCa) 1 (ifp (wHere T n s.1.1 = wBe) 2 (ifp (wHere T n s.1.1 = wHo) 3 (ifp (wHere T n s.1.1 = wAg) 4 5)))) := rfl
  have k148 : ∀ m2, xQs T n z s' m1 m2 → mWB l g d k_X9_readStep Φ 0 0 148 [.ref 621, .ref 587, .ref 590, .int (nI k), mJ] [] m2 o 0 0 := by
    rintro m2 ⟨p', t', a1, a2, a3, a4, a5⟩
    refine mGoOn (mOk (by decide)) rfl [] 400 ?_
    show Φ (.inl none) m2 o ∧ 0 ≤ 0 ∧ 0 ≤ 0
    exact eR (hΦ _ ⟨p', t', a1, a2, eWk_trans (eWk_T e1) a3, a4, a5⟩)
  have kB : ∀ kd, stH T n s.1.1 = kd → kd < 4 → s' = (pSgn T n 59 (wB T n M S kd (swd T n (n - s.1.1) s.1.1, s.1.2)).1, wAdd s.2 (kd, (wB T n M S kd (swd T n (n - s.1.1) s.1.1, s.1.2)).2.1, (wB T n M S kd (swd T n (n - s.1.1) s.1.1, s.1.2)).2.2, s.2.1 + 1, k)) := by
    intro kd ekd h4
    rw [ekd] at hL
    rcases hL with ⟨_, q⟩ | ⟨q, _⟩ | ⟨q, _⟩
    · exact q
    · omega
    · omega
  have kAdd : ∀ (kd : Nat) (p' : PS) (t' : XS) (m2 m3 : Mm) (fv sv : Int32) (a b : Nat), kd < 4 → s' = (pSgn T n 59 p', wAdd s.2 (kd, a, b, s.2.1 + 1, k)) → xR T n p' t' → eT m1 m2 → tx T n z t' m2 → fv = nI a → (kd = 0 → sv = nI b) → adW m2 m3 (nI kd) fv sv → mWB l g d k_X9_readStep Φ 0 0 148 [.ref 621, .ref 587, .ref 590, .int (nI k), mJ] [] m3 o 0 0 := by
    intro kd p' t' m2 m3 fv sv a b hkd es x' e2 h2 ef ev hA
    rw [es] at k148
    exact k148 m3 ⟨p', t', rfl, x', eWk_trans (eWk_T e2) (adW_e hA), adW_tx hA h2, fun _ => dWk_add (dWk_T D1 e2) (by omega) hA rfl ef ev (fun y => absurd (show kd = 4 from y) (by omega))⟩
  refine ⟨trivial, fCi htr w0 (by omega) ?_⟩
  show ((pI (wHere T n s.1.1 = 204)) = 0 → True ∧ mCal l g d k_X9_readStep Φ 0 0 _ 50 k_X7_isWord false [.ref 587, .ref 1000016] [] [.ref 621, .ref 587, .ref 590, .int (nI k), mJ] m1 o 0 0 1) ∧ (¬ (pI (wHere T n s.1.1 = 204)) = 0 → True ∧ mCal l g d k_X9_readStep Φ 0 0 _ 21 k_X7_number false [.ref 587, .int (0 : Int32), .int ((m1 590 2) - (1 : Int32))] [] [.ref 621, .ref 587, .ref 590, .int (nI k), mJ] m1 o 0 0 1)
  refine ⟨fun n0 => ?_, fun y => ?_⟩
  rotate_left
  · have ekd : stH T n s.1.1 = 0 := by rw [hst, ifp_t (pI_1.mp y)]
    have es := kB 0 ekd (by decide)
    have p2 := (hpos (by omega)).2
    have ewB : wB T n M S 0 (swd T n (n - s.1.1) s.1.1, s.1.2) = ((pNum T n 0 (nI S - 1) (pNum T n 0 (nI M - 1) (swd T n (n - s.1.1) s.1.1, s.1.2)).2).2, nv (pNum T n 0 (nI M - 1) (swd T n (n - s.1.1) s.1.1, s.1.2)).1, nv (pNum T n 0 (nI S - 1) (pNum T n 0 (nI M - 1) (swd T n (n - s.1.1) s.1.1, s.1.2)).2).1) := rfl
    rw [ewB] at es
    clear ewB
    rw [g2]
    refine ⟨trivial, nCi htr (x_number h1 (by omega) hWn 0 (nI M - 1) (by omega)) (by omega) ?_⟩
    rintro x m2 ⟨rfl, e2, h2⟩
    have r := xR_nm x0 0 (hi_1000 (show M ≤ 9 by omega))
    rw [← r.1]
    have v1 := (num_nv (T := T) (n := n) (N := M) (by omega) (p := (swd T n (n - s.1.1) s.1.1, s.1.2)) p2).1
    have r2 := r.2
    generalize pNum T n 0 (nI M - 1) (swd T n (n - s.1.1) s.1.1, s.1.2) = a1 at es v1 r2 ⊢
    generalize (xNm T n 0 (nI M - 1) u).2 = u2 at h2 r2
    show True ∧ mCal l g d k_X9_readStep Φ 0 0 _ 38 k_X7_number false [.ref 587, .int (0 : Int32), .int ((m2 590 0) - (1 : Int32))] [.int a1.1, .int (0 : Int32), .ref 621] [.ref 621, .ref 587, .ref 590, .int (nI k), .int a1.1] m2 o 0 0 1
    have g0' : m2 590 0 = nI S := by rw [e2 590 (by decide)]; exact g0
    rw [g0']
    refine ⟨trivial, nCi htr (x_number h2 (by omega) r2.1.2 0 (nI S - 1) (by omega)) (by omega) ?_⟩
    rintro x m3 ⟨rfl, e3, h3⟩
    have q := xR_nm r2 0 (hi_1000 hS)
    rw [← q.1]
    have v2 := (num_nv (T := T) (n := n) (N := S) (by omega) (p := a1.2) r2.1.1).1
    have q2 := q.2
    generalize pNum T n 0 (nI S - 1) a1.2 = a2 at es v2 q2 ⊢
    generalize (xNm T n 0 (nI S - 1) u2).2 = u3 at h3 q2
    show True ∧ mCal l g d k_X9_readStep Φ 0 0 _ 41 k_X9_add false [.ref 621, .int (0 : Int32), .int a1.1, .int a2.1] [] [.ref 621, .ref 587, .ref 590, .int (nI k), .int a1.1] m3 o 0 0 0
    refine ⟨trivial, nCv htr (x_wadd m3 0 a1.1 a2.1 (by omega)) (by omega) ?_⟩
    intro m4 hA
    exact mWB_wk (kAdd 0 a2.2 u3 m3 m4 a1.1 a2.1 _ _ (by decide) es q2 (eT_trans e2 e3) h3 v1 (fun _ => v2) hA) ⟨Or.inr rfl, Or.inr rfl, Or.inr rfl, Or.inr rfl, Or.inl rfl, trivial⟩
  replace n0 := pI_0.mp n0
  have one : ∀ (kd : Nat) (m3 : Mm) (w1 : Int32 × PS) (u2 : XS) (m2 : Mm), (kd = 1 ∨ kd = 2) → stH T n s.1.1 = kd → w1 = pNum T n 0 (nI M - 1) (swd T n (n - s.1.1) s.1.1, s.1.2) → xR T n w1.2 u2 → eT m1 m2 → tx T n z u2 m2 → adW m2 m3 (nI kd) w1.1 0 → mWB l g d k_X9_readStep Φ 0 0 148 [.ref 621, .ref 587, .ref 590, .int (nI k), mJ] [] m3 o 0 0 := by
    intro kd m3 w1 u2 m2 hkd ekd ew x2 e2 h2 hA
    have es := kB kd ekd (by omega)
    have p2 := (hpos (by omega)).2
    have ewB : wB T n M S kd (swd T n (n - s.1.1) s.1.1, s.1.2) = (w1.2, nv w1.1, 0) := by
      unfold wB w1n
      rw [if_neg (by omega), if_pos (by omega), ew]
    rw [ewB] at es
    refine kAdd kd w1.2 u2 m2 m3 w1.1 0 (nv w1.1) 0 (by omega) es x2 e2 h2 ?_ (fun y => by omega) hA
    rw [ew]
    exact (num_nv (T := T) (n := n) (N := M) (by omega) (p := (swd T n (n - s.1.1) s.1.1, s.1.2)) p2).1
  refine ⟨trivial, fCi htr w1 (by omega) ?_⟩
  show ((pI (wHere T n s.1.1 = wCa)) = 0 → True ∧ mCal l g d k_X9_readStep Φ 0 0 _ 79 k_X7_isWord false [.ref 587, .ref 1000017] [] [.ref 621, .ref 587, .ref 590, .int (nI k), mJ] m1 o 0 0 1) ∧ (¬ (pI (wHere T n s.1.1 = wCa)) = 0 → True ∧ mCal l g d k_X9_readStep Φ 0 0 _ 66 k_X7_number false [.ref 587, .int (0 : Int32), .int ((m1 590 2) - (1 : Int32))] [.int (1 : Int32), .ref 621] [.ref 621, .ref 587, .ref 590, .int (nI k), mJ] m1 o 0 0 1)
  refine ⟨fun n1 => ?_, fun y => ?_⟩
  rotate_left
  · have ekd : stH T n s.1.1 = 1 := by rw [hst, ifp_f n0, ifp_t (pI_1.mp y)]
    rw [g2]
    refine ⟨trivial, nCi htr (x_number h1 (by omega) hWn 0 (nI M - 1) (by omega)) (by omega) ?_⟩
    rintro x m2 ⟨rfl, e2, h2⟩
    have r := xR_nm x0 0 (hi_1000 (show M ≤ 9 by omega))
    rw [← r.1]
    show True ∧ mCal l g d k_X9_readStep Φ 0 0 _ 70 k_X9_add false [.ref 621, .int (1 : Int32), .int ((pNum T n 0 (nI M - 1) (swd T n (n - s.1.1) s.1.1, s.1.2)).1), .int (0 : Int32)] [] [.ref 621, .ref 587, .ref 590, .int (nI k), mJ] m2 o 0 0 0
    refine ⟨trivial, nCv htr (x_wadd m2 1 _ 0 (by omega)) (by omega) ?_⟩
    intro m3 hA
    exact one 1 m3 _ _ m2 (Or.inl rfl) ekd rfl r.2 e2 h2 hA
  replace n1 := pI_0.mp n1
  refine ⟨trivial, fCi htr w2 (by omega) ?_⟩
  show ((pI (wHere T n s.1.1 = wBe)) = 0 → True ∧ mCal l g d k_X9_readStep Φ 0 0 _ 108 k_X7_isWord false [.ref 587, .ref 1000007] [] [.ref 621, .ref 587, .ref 590, .int (nI k), mJ] m1 o 0 0 1) ∧ (¬ (pI (wHere T n s.1.1 = wBe)) = 0 → True ∧ mCal l g d k_X9_readStep Φ 0 0 _ 95 k_X7_number false [.ref 587, .int (0 : Int32), .int ((m1 590 2) - (1 : Int32))] [.int (2 : Int32), .ref 621] [.ref 621, .ref 587, .ref 590, .int (nI k), mJ] m1 o 0 0 1)
  refine ⟨fun n2 => ?_, fun y => ?_⟩
  rotate_left
  · have ekd : stH T n s.1.1 = 2 := by rw [hst, ifp_f n0, ifp_f n1, ifp_t (pI_1.mp y)]
    rw [g2]
    refine ⟨trivial, nCi htr (x_number h1 (by omega) hWn 0 (nI M - 1) (by omega)) (by omega) ?_⟩
    rintro x m2 ⟨rfl, e2, h2⟩
    have r := xR_nm x0 0 (hi_1000 (show M ≤ 9 by omega))
    rw [← r.1]
    show True ∧ mCal l g d k_X9_readStep Φ 0 0 _ 99 k_X9_add false [.ref 621, .int (2 : Int32), .int ((pNum T n 0 (nI M - 1) (swd T n (n - s.1.1) s.1.1, s.1.2)).1), .int (0 : Int32)] [] [.ref 621, .ref 587, .ref 590, .int (nI k), mJ] m2 o 0 0 0
    refine ⟨trivial, nCv htr (x_wadd m2 2 _ 0 (by omega)) (by omega) ?_⟩
    intro m3 hA
    exact one 2 m3 _ _ m2 (Or.inr rfl) ekd rfl r.2 e2 h2 hA
  replace n2 := pI_0.mp n2
  refine ⟨trivial, fCi htr w3 (by omega) ?_⟩
  show ((pI (wHere T n s.1.1 = wHo)) = 0 → True ∧ mCal l g d k_X9_readStep Φ 0 0 _ 127 k_X7_isWord false [.ref 587, .ref 1000018] [] [.ref 621, .ref 587, .ref 590, .int (nI k), mJ] m1 o 0 0 1) ∧ (¬ (pI (wHere T n s.1.1 = wHo)) = 0 → True ∧ mCal l g d k_X9_readStep Φ 0 0 _ 118 k_X9_add false [.ref 621, .int (3 : Int32), .int (0 : Int32), .int (0 : Int32)] [] [.ref 621, .ref 587, .ref 590, .int (nI k), mJ] m1 o 0 0 0)
  refine ⟨fun n3 => ?_, fun y => ?_⟩
  rotate_left
  · have ekd : stH T n s.1.1 = 3 := by rw [hst, ifp_f n0, ifp_f n1, ifp_f n2, ifp_t (pI_1.mp y)]
    have es := kB 3 ekd (by decide)
    have ewB : wB T n M S 3 (swd T n (n - s.1.1) s.1.1, s.1.2) = ((swd T n (n - s.1.1) s.1.1, s.1.2), 0, 0) := rfl
    rw [ewB] at es
    refine ⟨trivial, nCv htr (x_wadd m1 3 0 0 (by omega)) (by omega) ?_⟩
    intro m3 hA
    exact kAdd 3 _ u m1 m3 0 0 0 0 (by decide) es x0 (eT_refl m1) h1 rfl (fun _ => rfl) hA
  replace n3 := pI_0.mp n3
  refine ⟨trivial, fCi htr w4 (by omega) ?_⟩
  show ((pI (wHere T n s.1.1 = wAg)) = 0 → True ∧ mCal l g d k_X9_readStep Φ 0 0 _ 145 k_X7_refuse false [.ref 587, .int (1 : Int32)] [] [.ref 621, .ref 587, .ref 590, .int (nI k), mJ] m1 o 0 0 0) ∧ (¬ (pI (wHere T n s.1.1 = wAg)) = 0 → True ∧ mCal l g d k_X9_readStep Φ 0 0 _ 137 k_X9_readAgain false [.ref 621, .ref 587, .ref 590, .int (nI k)] [] [.ref 621, .ref 587, .ref 590, .int (nI k), mJ] m1 o 0 0 0)
  refine ⟨fun n4 => ?_, fun y => ?_⟩
  rotate_left
  · have ekd : stH T n s.1.1 = 4 := by rw [hst, ifp_f n0, ifp_f n1, ifp_f n2, ifp_f n3, ifp_t (pI_1.mp y)]
    have hp4 := hpos (by omega)
    rw [ekd] at hL
    have hL4 : (k < 6 ∧ ∃ s1, Wk T n M S f 1 (k + 1) (pSgn T n 91 (pNum T n 0 60 (swd T n (n - s.1.1) s.1.1, s.1.2)).2, wAdd s.2 (4, nv (pNum T n 0 60 (swd T n (n - s.1.1) s.1.1, s.1.2)).1, 0, 0, k)) s1 ∧ s' = (pSgn T n 59 (pSgn T n 93 s1.1), wEnd s1.2 s.2.1)) ∨ (¬ k < 6 ∧ s' = ((s.1.1, 3, nI s.1.1), s.2)) := by
      rcases hL with ⟨q, _⟩ | ⟨_, q⟩ | ⟨q, _⟩
      · omega
      · exact q
      · omega
    refine ⟨trivial, nCv htr (x_wagain hn hM hS IH (by omega) hk hf hs hp4 hc hL4 x0 hW2 h1 D1 g2 g0) (by omega) ?_⟩
    intro m2 h2
    exact mWB_wk (k148 m2 h2) ⟨Or.inr rfl, Or.inr rfl, Or.inr rfl, Or.inr rfl, Or.inl rfl, trivial⟩
  have ekd : stH T n s.1.1 = 5 := by rw [hst, ifp_f n0, ifp_f n1, ifp_f n2, ifp_f n3, ifp_f (pI_0.mp n4)]
  rw [ekd] at hL
  have es : s' = ((s.1.1, 1, nI s.1.1), s.2) := by
    rcases hL with ⟨q, _⟩ | ⟨q, _⟩ | ⟨_, q⟩
    · omega
    · omega
    · exact q
  refine ⟨trivial, nCv htr (x_refuse h1 1) (by omega) ?_⟩
  rintro m2 ⟨e2, h2⟩
  rw [xRf_at hWk, hW2] at h2
  have e59 : ((s.1.1, 1, nI s.1.1) : PS) = pSgn T n 59 (s.1.1, 1, nI s.1.1) := (pSgn_f (p := (s.1.1, 1, nI s.1.1)) (show (1 : Int32) ≠ 0 by decide)).symm
  rw [es] at k148
  exact k148 m2 ⟨(s.1.1, 1, nI s.1.1), (u.1, s.1.1, 1, nI s.1.1), e59, xR_ft hs hWn (by decide) rfl rfl, eWk_T e2, h2, fun y => absurd (show (1 : Int32) = 0 from y) (by decide)⟩
end XWs
