set_option maxRecDepth 100000
section XW
variable {l : Launch} {g : mG} {T : Nat → Int32} {n : Nat} {z : Int32}
theorem pNum_nd {p : PS} (hf : p.2.1 = 0) (hq : skp T n p.1 = p.1) (hd : ¬ isDg (bAt T n p.1)) : pNum T n 0 999 p = (0, (p.1, 1, nI p.1)) := by
  have e : pNum T n 0 999 p = pFin 0 999 (skp T n p.1) (@ite PS (isDg (bAt T n (skp T n p.1))) (Classical.propDecidable _) (pBl T n p) (pWr 1 (nI (skp T n p.1)) (pBl T n p))).2 (dgs T n (n - skp T n p.1) (skp T n p.1) 0) := if_pos hf
  rw [e, hq, dgs_no hd, if_neg hd]
  have e2 : pWr 1 (nI p.1) (pBl T n p) = (skp T n p.1, 1, nI p.1) := if_pos hf
  rw [e2]
  unfold pFin
  have e3 : (0 : Int32) ≤ 0 ∧ (0 : Int32) ≤ 999 := by decide
  simp only [if_pos e3]
  rfl
theorem x_wordN (hn : n ≤ 150) {f : Nat} (IH : xC l g T n z k_X4_readSum 4 12 f) {d k : Nat} {s s' : QS} {t : XS} {m : Mm} (hd : 4 * (6 - k) + 9 ≤ d) (hk : k ≤ 6) (hL : LA T n (Lw T n f 4) k s s' ∨ ((wHere T n (skp T n s.1.1) ≠ wLe ∧ wHere T n (skp T n s.1.1) ≠ wMo) ∧ (LC T n s s' ∨ LD T n s s'))) (hA : Aft n 1 s s') (hnd : ¬ isDg (bAt T n (skp T n s.1.1))) (hf : s.1.2.1 = 0) (hx : xR T n s.1 t) (hlen : s.2.length ≤ s.1.1) (hok : okL s.2 0) (h : tx T n z t m) (hD : dLw s.2 m) : mHv l g d k_X4_readWord [.ref 614, .ref 587, .int (nI k)] m (xQ T n z s' m) := by
  obtain ⟨t1, t2, t3⟩ := xR_at hx hf
  have hqn := skp_in (T := T) hx.1.1
  have hqq := skp_skp (T := T) hx.1.1
  have hge := skp_ge (T := T) hx.1.1
  obtain ⟨_, _, _, _, _, _, _, _, _, _, _, _, _, _, _, _, w12, c12, w13, c13⟩ := wc_all
  refine nBv 2 rfl rfl rfl (by decide) rfl (fun htr o Φ hΦ => mGoOn (mOk (by decide)) rfl [54,121] 400 ?_)
  show True ∧ mCal l g d k_X4_readWord Φ 0 0 _ 1 k_X7_word false [.ref 587] [] [.ref 614, .ref 587, .int (nI k), mJ, mJ] m o 0 0 0
  refine ⟨trivial, nCv htr (x_word h (by omega) hx.1.2 (by omega)) (by omega) ?_⟩
  rintro m1 ⟨e1, h1⟩
  show mCal l g d k_X4_readWord Φ 0 0 _ 5 k_X4_nameOf false [.ref 587] [] [.ref 614, .ref 587, .int (nI k), mJ, mJ] m1 o 0 0 1
  have hnm := x_nameOf (l := l) (g := g) (d := d - 1) h1 (by omega) hx.1.2 (by omega)
  have hle := x_isW (l := l) (g := g) (d := d - 1) h1 (by omega) hx.1.2 (i := 12) (by decide) w12 (w := wLe) c12 (by omega)
  have hmo := x_isW (l := l) (g := g) (d := d - 1) h1 (by omega) hx.1.2 (i := 13) (by decide) w13 (w := wMo) c13 (by omega)
  rw [t3] at hnm hle hmo
  refine fCi htr hnm (by omega) ?_
  have D1 := dLw_T e1 hD
  have hW1 : (xWd T n t).1 = swd T n (n - skp T n s.1.1) (skp T n s.1.1) := by show swd T n (n - skp T n t.1) (skp T n t.1) = _; rw [t3]
  have hW2 : (xWd T n t).2.1 = skp T n s.1.1 := t3
  have hWn := (xWd_mk (T := T) (t := t) hx.1.2).1
  have hWk : (xWd T n t).2.2.1 = 0 := t1
  have hWp : (xWd T n t).2.2.2 = -1 := t2
  generalize hw : wHere T n (skp T n s.1.1) = w at hL hnm hle hmo
  generalize xWd T n t = u at h1 hW1 hW2 hWn hWk hWp
  show ((nmR w) = (-1 : Int32) → True ∧ mCal l g d k_X4_readWord Φ 0 0 _ 27 k_X7_isWord false [.ref 587, .ref 1000013] [] [.ref 614, .ref 587, .int (nI k), .int (nmR w), mJ] m1 o 0 0 1) ∧ (¬ (nmR w) = (-1 : Int32) → True ∧ mCal l g d k_X4_readWord Φ 0 0 _ 20 k_X4_add false [.ref 614, .int ((1000 : Int32) + (nmR w))] [] [.ref 614, .ref 587, .int (nI k), .int (nmR w), mJ] m1 o 0 0 0)
  rcases hL with ⟨b, hb, hL⟩ | ⟨⟨n1, n2⟩, ⟨i, hi, ew, rfl⟩ | ⟨hno, j, hj, ej, rfl⟩⟩
  · -- least or most
    rw [hw] at hb
    have hw0 : w ≠ 0 := by
      rcases hb with ⟨_, e⟩ | ⟨_, e⟩
      · rw [e]; exact wLe_0.1
      · rw [e]; exact wLe_0.2.1
    have hr : nmR w = -1 := by
      rcases nmR_at (w := w) with ⟨i, hi, e, _⟩ | ⟨_, e⟩
      · rcases hb with ⟨_, e2⟩ | ⟨_, e2⟩
        · exact absurd (e.symm.trans e2) (kwA_0 i hi).2.1
        · exact absurd (e.symm.trans e2) (kwA_0 i hi).2.2.1
      · exact e
    obtain ⟨_, p1, p2, p3⟩ := wH_pos (T := T) hqn (by rw [hw]; exact hw0)
    rw [hr]
    have k54 : ∀ v, v = pI (w = wLe) → mWB l g d k_X4_readWord Φ 0 0 54 [.ref 614, .ref 587, .int (nI k), .int (-1 : Int32), .int v] [] m1 o 0 0 := by
      rintro v hv
      have hb8 : (v = 0 → b = 8) ∧ (v ≠ 0 → b = 7) := by
        rw [hv]
        rcases hb with ⟨e, e2⟩ | ⟨e, e2⟩
        · rw [pI_t e2]; exact ⟨fun y => absurd y (by decide), fun _ => e⟩
        · rw [pI_f (fun y => wLe_0.2.2 (y.symm.trans e2))]; exact ⟨fun _ => e, fun y => absurd rfl y⟩
      refine mGoOn (mOk (by decide)) rfl [121] 400 ?_
      show ((nI k) < (6 : Int32) → True ∧ mCal l g d k_X4_readWord Φ 0 0 _ 71 k_X7_needSign false [.ref 587, .int (91 : Int32)] [] [.ref 614, .ref 587, .int (nI k), .int (-1 : Int32), .int v] m1 o 0 0 1) ∧ (¬ (nI k) < (6 : Int32) → True ∧ mCal l g d k_X4_readWord Φ 0 0 _ 62 k_X7_refuse false [.ref 587, .int (3 : Int32)] [] [.ref 614, .ref 587, .int (nI k), .int (-1 : Int32), .int v] m1 o 0 0 0)
      rw [show (6 : Int32) = nI 6 from rfl, nI_ltI (by omega) (by decide)]
      refine ⟨fun q => ?_, fun q => ?_⟩
      · rcases hL with ⟨_, s1, s2, L1, L2, rfl⟩ | ⟨y, _⟩
        · have B0 := Aft_sg (T := T) (n := n) (c := 91) (by decide) (s := ((swd T n (n - skp T n s.1.1) (skp T n s.1.1), s.1.2), s.2)) p3 hok
          have B1 := Lw_ok _ _ _ _ _ L1 B0.1.1 hok (fun z => by omega)
          have B2 := Aft_sg (T := T) (n := n) (c := 44) (by decide) (s := s1) B1.1.1 B1.2.2.2.1
          have B3 := Lw_ok _ _ _ _ _ L2 B2.1.1 B1.2.2.2.1 (fun z => by omega)
          have x0 : xR T n (swd T n (n - skp T n s.1.1) (skp T n s.1.1), s.1.2) u := xR_mk p3 hf hW1 hWk hWp
          refine ⟨trivial, nCi htr (x_needSign h1 (by omega) hWn 91 (by omega)) (by omega) ?_⟩
          rintro x m2 ⟨rfl, e2, h2⟩
          have x2 := xR_sg x0 (c := 91) (by decide)
          show (Value.int (pI ((xSg T n 91 u).2.2.1 = 0))).category = 1 ∧ (True ∧ mCal l g d k_X4_readWord Φ 0 0 _ 80 k_X4_readSum false [.ref 614, .ref 587, .int ((nI k) + (1 : Int32))] [] [.ref 614, .ref 587, .int (nI k), .int (-1 : Int32), .int v] m2 o 0 0 0)
          refine ⟨rfl, ?_⟩
          rw [nI_1]
          have c1 : (lSg T n 91 ((swd T n (n - skp T n s.1.1) (skp T n s.1.1), s.1.2), s.2)).2.length + swd T n (n - skp T n s.1.1) (skp T n s.1.1) ≤ (lSg T n 91 ((swd T n (n - skp T n s.1.1) (skp T n s.1.1), s.1.2), s.2)).1.1 + s.2.length := B0.2.2.1
          refine ⟨trivial, nCv htr (IH (d - 1) (k + 1) _ s1 (xSg T n 91 u) m2 (by omega) (by omega) L1 x2 (by omega) hok h2 (fun _ => dLw_T e2 D1)) (by omega) ?_⟩
          rintro m3 ⟨u3, x3, e3, h3, d3⟩
          show True ∧ mCal l g d k_X4_readWord Φ 0 0 _ 86 k_X7_needSign false [.ref 587, .int (44 : Int32)] [] [.ref 614, .ref 587, .int (nI k), .int (-1 : Int32), .int v] m3 o 0 0 1
          refine ⟨trivial, nCi htr (x_needSign h3 (by omega) x3.1.2 44 (by omega)) (by omega) ?_⟩
          rintro x m4 ⟨rfl, e4, h4⟩
          have x4 := xR_sg x3 (c := 44) (by decide)
          show (Value.int (pI ((xSg T n 44 u3).2.2.1 = 0))).category = 1 ∧ (True ∧ mCal l g d k_X4_readWord Φ 0 0 _ 95 k_X4_readSum false [.ref 614, .ref 587, .int ((nI k) + (1 : Int32))] [] [.ref 614, .ref 587, .int (nI k), .int (-1 : Int32), .int v] m4 o 0 0 0)
          refine ⟨rfl, ?_⟩
          rw [nI_1]
          have c2 : s1.2.length + (lSg T n 91 ((swd T n (n - skp T n s.1.1) (skp T n s.1.1), s.1.2), s.2)).1.1 ≤ s1.1.1 + (lSg T n 91 ((swd T n (n - skp T n s.1.1) (skp T n s.1.1), s.1.2), s.2)).2.length := B1.2.2.1
          have c3 : (lSg T n 44 s1).2.length + s1.1.1 ≤ (lSg T n 44 s1).1.1 + s1.2.length := B2.2.2.1
          refine ⟨trivial, nCv htr (IH (d - 1) (k + 1) _ s2 (xSg T n 44 u3) m4 (by omega) (by omega) L2 x4 (by omega) B1.2.2.2.1 h4 (fun y => dLw_T e4 (d3 (B2.2.1 y)))) (by omega) ?_⟩
          rintro m5 ⟨u5, x5, e5, h5, d5⟩
          show True ∧ mCal l g d k_X4_readWord Φ 0 0 _ 101 k_X7_needSign false [.ref 587, .int (93 : Int32)] [] [.ref 614, .ref 587, .int (nI k), .int (-1 : Int32), .int v] m5 o 0 0 1
          refine ⟨trivial, nCi htr (x_needSign h5 (by omega) x5.1.2 93 (by omega)) (by omega) ?_⟩
          rintro x m6 ⟨rfl, e6, h6⟩
          have x6 := xR_sg x5 (c := 93) (by decide)
          have B4 := Aft_sg (T := T) (n := n) (c := 93) (by decide) (s := s2) B3.1.1 B3.2.2.2.1
          have E6 : eLw m m6 := eLw_trans (eLw_T e1) (eLw_trans (eLw_T e2) (eLw_trans e3 (eLw_trans (eLw_T e4) (eLw_trans e5 (eLw_T e6)))))
          have D6 : (lSg T n 93 s2).1.2.1 = 0 → dLw (lSg T n 93 s2).2 m6 := fun y => dLw_T e6 (d5 (B4.2.1 y))
          have hc6 : (lSg T n 93 s2).1.2.1 = 0 → (lSg T n 93 s2).2.length < 150 := by
            intro y
            have a1 := hA.2.2.1
            have a2 := hA.1.1
            have ee : lNt b 0 (lSg T n 93 s2) = ((lSg T n 93 s2).1, (lSg T n 93 s2).2 ++ [(b, 0)]) := ifp_t y
            rw [ee] at a1 a2
            have a3 : ((lSg T n 93 s2).2 ++ [(b, 0)]).length + s.1.1 ≤ (lSg T n 93 s2).1.1 + s.2.length := a1
            rw [List.length_append] at a3
            have a4 : (lSg T n 93 s2).2.length + 1 + s.1.1 ≤ (lSg T n 93 s2).1.1 + s.2.length := a3
            have a5 : (lSg T n 93 s2).1.1 ≤ n := a2
            omega
          have k121 : ∀ y, y = nI (sgnOf b) → mWB l g d k_X4_readWord Φ 0 0 121 [.ref 614, .ref 587, .int (nI k), .int (-1 : Int32), .int v] [.int y, .int (2000 : Int32), .ref 614] m6 o 0 0 := by
            rintro y rfl
            refine mGoOn (mOk (by decide)) rfl [] 400 ?_
            show True ∧ mCal l g d k_X4_readWord Φ 0 0 _ 122 k_X4_add false [.ref 614, .int ((2000 : Int32) + (nI (sgnOf b)))] [] [.ref 614, .ref 587, .int (nI k), .int (-1 : Int32), .int v] m6 o 0 0 0
            refine ⟨trivial, nCv htr (x_add m6 _ (by omega)) (by omega) ?_⟩
            intro m7 h7
            refine eR (hΦ _ (xQ_add x6 h6 E6 D6 hc6 (fun _ => ?_) h7))
            rcases hb with ⟨e, _⟩ | ⟨e, _⟩ <;> (rw [e]; decide)
          show (Value.int (pI ((xSg T n 93 u5).2.2.1 = 0))).category = 1 ∧ ((v = 0 → mWB l g d k_X4_readWord Φ 0 0 121 [.ref 614, .ref 587, .int (nI k), .int (-1 : Int32), .int v] [.int (62 : Int32), .int (2000 : Int32), .ref 614] m6 o 0 0) ∧ (¬ v = 0 → mWB l g d k_X4_readWord Φ 0 0 121 [.ref 614, .ref 587, .int (nI k), .int (-1 : Int32), .int v] [.int (60 : Int32), .int (2000 : Int32), .ref 614] m6 o 0 0))
          refine ⟨rfl, fun y => k121 _ ?_, fun y => k121 _ ?_⟩
          · rw [hb8.1 y]; rfl
          · rw [hb8.2 y]; rfl
        · exact absurd q y
      · rcases hL with ⟨y, _⟩ | ⟨_, rfl⟩
        · exact absurd y q
        · refine ⟨trivial, nCv htr (x_refuse h1 3) (by omega) ?_⟩
          rintro m2 ⟨e2, h2⟩
          rw [xRf_at hWk, hW2] at h2
          refine eR (hΦ _ ⟨(u.1, skp T n s.1.1, 3, nI (skp T n s.1.1)), xR_ft hqn hWn (by decide) rfl rfl, eLw_trans (eLw_T e1) (eLw_T e2), h2, fun y => absurd (show (3 : Int32) = 0 from y) (by decide)⟩)
    refine ⟨fun _ => ?_, fun y => absurd rfl y⟩
    refine ⟨trivial, fCi htr hle (by omega) ?_⟩
    show (¬ (pI (w = wLe)) = 0 → mWB l g d k_X4_readWord Φ 0 0 54 [.ref 614, .ref 587, .int (nI k), .int (-1 : Int32), .int (pI (w = wLe))] [] m1 o 0 0) ∧ ((pI (w = wLe)) = 0 → True ∧ mCal l g d k_X4_readWord Φ 0 0 _ 40 k_X7_isWord false [.ref 587, .ref 1000014] [] [.ref 614, .ref 587, .int (nI k), .int (-1 : Int32), .int (pI (w = wLe))] m1 o 0 0 1)
    refine ⟨fun y => k54 _ rfl, fun y => ⟨trivial, fCi htr hmo (by omega) ?_⟩⟩
    have hm8 : w = wMo := by
      rcases hb with ⟨_, e⟩ | ⟨_, e⟩
      · exact absurd e (pI_0.mp y)
      · exact e
    show (¬ (pI (w = wMo)) = 0 → mWB l g d k_X4_readWord Φ 0 0 54 [.ref 614, .ref 587, .int (nI k), .int (-1 : Int32), .int (pI (w = wLe))] [] m1 o 0 0) ∧ ((pI (w = wMo)) = 0 → True ∧ mCal l g d k_X4_readWord Φ 0 0 _ 48 k_X7_refuse false [.ref 587, .int (1 : Int32)] [] [.ref 614, .ref 587, .int (nI k), .int (-1 : Int32), .int (pI (w = wLe))] m1 o 0 0 0)
    refine ⟨fun _ => k54 _ rfl, fun y2 => absurd hm8 (pI_0.mp y2)⟩
  · -- a name
    rw [hw] at ew
    have hr : nmR w = nI i := by
      rcases nmR_at (w := w) with ⟨i2, hi2, e, e2⟩ | ⟨e, _⟩
      · rw [e2, (kwA_0 i hi).2.2.2 i2 hi2 (e.symm.trans ew)]
      · exact absurd ew (e i hi)
    obtain ⟨_, p1, p2, p3⟩ := wH_pos (T := T) hqn (by rw [hw, ew]; exact (kwA_0 i hi).1)
    rw [hr]
    refine ⟨fun y => absurd y (nI_nm (by omega)), fun _ => ?_⟩
    refine ⟨trivial, nCv htr (x_add m1 _ (by omega)) (by omega) ?_⟩
    intro m2 h2
    have hxq := xQ_add (a := 1) (b := i) (s1 := ((swd T n (n - skp T n s.1.1) (skp T n s.1.1), s.1.2), s.2)) (xR_mk p3 hf hW1 hWk hWp) h1 (eLw_T e1) (fun _ => D1) (fun _ => by show s.2.length < 150; omega) (fun _ => by rw [show (1000 : Int32) = nI 1000 from rfl, nI_add]; rfl) h2
    have ee : lNt 1 i ((swd T n (n - skp T n s.1.1) (skp T n s.1.1), s.1.2), s.2) = ((swd T n (n - skp T n s.1.1) (skp T n s.1.1), s.1.2), s.2 ++ [(1, i)]) := ifp_t hf
    rw [ee] at hxq
    exact eR (hΦ _ hxq)
  · -- no word
    rw [hw] at hno
    have hr : nmR w = -1 := by
      rcases nmR_at (w := w) with ⟨i2, hi2, e, e2⟩ | ⟨_, e⟩
      · exact absurd e (hno i2 hi2)
      · exact e
    rw [hr]
    refine ⟨fun _ => ?_, fun y => absurd rfl y⟩
    refine ⟨trivial, fCi htr hle (by omega) ?_⟩
    show (¬ (pI (w = wLe)) = 0 → mWB l g d k_X4_readWord Φ 0 0 54 [.ref 614, .ref 587, .int (nI k), .int (-1 : Int32), .int (pI (w = wLe))] [] m1 o 0 0) ∧ ((pI (w = wLe)) = 0 → True ∧ mCal l g d k_X4_readWord Φ 0 0 _ 40 k_X7_isWord false [.ref 587, .ref 1000014] [] [.ref 614, .ref 587, .int (nI k), .int (-1 : Int32), .int (pI (w = wLe))] m1 o 0 0 1)
    refine ⟨fun y => absurd (pI_1.mp y) n1, fun y => ⟨trivial, fCi htr hmo (by omega) ?_⟩⟩
    show (¬ (pI (w = wMo)) = 0 → mWB l g d k_X4_readWord Φ 0 0 54 [.ref 614, .ref 587, .int (nI k), .int (-1 : Int32), .int (pI (w = wLe))] [] m1 o 0 0) ∧ ((pI (w = wMo)) = 0 → True ∧ mCal l g d k_X4_readWord Φ 0 0 _ 48 k_X7_refuse false [.ref 587, .int (1 : Int32)] [] [.ref 614, .ref 587, .int (nI k), .int (-1 : Int32), .int (pI (w = wLe))] m1 o 0 0 0)
    refine ⟨fun y2 => absurd (pI_1.mp y2) n2, fun _ => ⟨trivial, nCv htr (x_refuse h1 1) (by omega) ?_⟩⟩
    rintro m2 ⟨e2, h2⟩
    rw [xRf_at hWk, hW2] at h2
    have ep := pNum_nd (T := T) (n := n) (p := (skp T n s.1.1, s.1.2)) hf hqq hnd
    refine eR (hΦ _ ⟨(u.1, skp T n s.1.1, 1, nI (skp T n s.1.1)), ?_, eLw_trans (eLw_T e1) (eLw_T e2), h2, fun y => ?_⟩)
    · rw [lNt_1, ep]
      exact xR_ft hqn hWn (by decide) rfl rfl
    · rw [lNt_1, ep] at y
      exact absurd (show (1 : Int32) = 0 from y) (by decide)
end XW
