set_option maxRecDepth 100000
theorem wc_23 : isWd 2 = true ∧ wc 2 = wLn ∧ isWd 3 = true ∧ wc 3 = wMn := by decide +kernel
section XCl
variable {T : Nat → Int32} {n : Nat}
theorem cB_flt {N : Nat} {L : List Ent} {k : Nat} {p : PS} (h : p.2.1 ≠ 0) : (cB T n N L k p).1.2 = p.2 := by
  have e1 : ∀ lo hi, pNum T n lo hi p = (0, p) := fun lo hi => pNum_f h
  have e3 : (cB3 T n N p).1 = p := by unfold cB3; rw [e1, e1]
  unfold cB
  by_cases h0 : k = 0
  · rw [if_pos h0]; unfold cB0; rw [e1]
  · rw [if_neg h0]
    by_cases h1 : k = 1
    · rw [if_pos h1]
      have ec : c1r T n N p = (0, pBl T n p) := by
        unfold c1r
        rw [e1]
        exact pNum_f (p := pBl T n p) h
      unfold cB1
      rw [ec]
      dsimp only
      rw [ifp_f (fun y => h y.1)]
      rfl
    · rw [if_neg h1]
      by_cases h2 : k = 2
      · rw [if_pos h2]; unfold cB2; rw [e3, e1]
      · rw [if_neg h2, e3]
theorem cE_flt {D : CD} {k : Nat} {r : PS × Ent} (h : r.1.2.1 ≠ 0) : cE T n D k r = (r.1, D) := by
  unfold cE
  rw [pSgn_f h, ifp_f h]
theorem cl_rel {c : CS} (hok : cOk T n c) (hf : c.1.2.1 = 0) {k : Nat} (hk : kdH T n c.1.1 = k) (h4 : k ≠ 4) {p1 : PS} (hp1 : ifp (tot c.2 = 60 ∨ (c.2 k).length = most k) (c.1.1, 3, nI c.1.1) (swd T n (n - c.1.1) c.1.1, c.1.2) = p1) {t' : XS} (hx : xR T n (cE T n c.2 k (cB T n (c.2 0).length (c.2 1) k p1)).1 t') : xR T n (cl1 T n c).1 t' ∧ (cl1 T n c).2 = (cE T n c.2 k (cB T n (c.2 0).length (c.2 1) k p1)).2 := by
  have e0 : cl0 T n c = ifp (tot c.2 = 60 ∨ (c.2 k).length = most k) ((c.1.1, 3, nI c.1.1), c.2) (cE T n c.2 k (cB T n (c.2 0).length (c.2 1) k (swd T n (n - c.1.1) c.1.1, c.1.2))) := by
    unfold cl0
    rw [hk, ifp_f h4]
  have e1 : cl1 T n c = (pBl T n (cl0 T n c).1, (cl0 T n c).2) := rfl
  rw [e1, e0]
  by_cases q : tot c.2 = 60 ∨ (c.2 k).length = most k
  · rw [ifp_t q] at hp1
    rw [ifp_t q]
    have h3 : p1.2 = (3, nI c.1.1) := by rw [← hp1]
    have hp : p1.2.1 ≠ 0 := by rw [h3]; show (3 : Int32) ≠ 0; decide
    have hb := cB_flt (T := T) (n := n) (N := (c.2 0).length) (L := c.2 1) (k := k) hp
    have hb1 : (cB T n (c.2 0).length (c.2 1) k p1).1.2.1 ≠ 0 := by rw [hb]; exact hp
    rw [cE_flt hb1] at hx ⊢
    refine ⟨xR_bl ?_, rfl⟩
    rcases hx.2.1 with ⟨y, _⟩ | ⟨_, y2, y3⟩
    · exact absurd y hb1
    · refine xR_ft hok.1 hx.1.2 (by decide) ?_ ?_
      · rw [y2]; show (cB T n (c.2 0).length (c.2 1) k p1).1.2.1 = 3; rw [hb, h3]
      · rw [y3]; show (cB T n (c.2 0).length (c.2 1) k p1).1.2.2 = _; rw [hb, h3]
  · rw [ifp_f q] at hp1
    rw [ifp_f q, hp1]
    exact ⟨xR_bl hx, rfl⟩
end XCl
section XCl2
variable {l : Launch} {g : mG} {d : Nat} {T : Nat → Int32} {n : Nat} {z : Int32}
def xQd (T : Nat → Int32) (n : Nat) (z : Int32) (c : CS) (m m2 : Mm) : Prop := ∃ t', xR T n c.1 t' ∧ eCt m m2 ∧ tx T n z t' m2 ∧ dCt c.2 m2 ∧ (c.1.2.1 = 0 → m2 604 4 = nI (tot c.2))
theorem x_readClause {m : Mm} {t : XS} {c : CS} (h : tx T n z t m) (hn : n ≤ 600) (hx : xR T n c.1 t) (hok : cOk T n c) (hf : c.1.2.1 = 0) (hC : dCt c.2 m) (h4 : m 604 4 = nI (tot c.2)) (hd : 6 ≤ d) : mHv l g d k_X1_readClause [.ref 604, .ref 587] m (xQd T n z (cl1 T n c) m) := by
  obtain ⟨t1, t2, t3⟩ := xR_at hx hf
  rw [hok.2.1] at t3
  have hok1 := cl1_ok hok hf
  refine nBv 0 rfl rfl rfl (by decide) rfl (fun htr o Φ hΦ => mGoOn (mOk (by decide)) rfl [77] 400 ?_)
  show True ∧ mCal l g d k_X1_readClause Φ 0 0 _ 1 k_X7_word false [.ref 587] [] [.ref 604, .ref 587] m o 0 0 0
  refine ⟨trivial, nCv htr (x_word h hn hx.1.2 (by omega)) (by omega) ?_⟩
  rintro m1 ⟨e1, h1⟩
  show True ∧ mCal l g d k_X1_readClause Φ 0 0 _ 7 k_X7_isWord false [.ref 587, .ref 1000002] [] [.ref 604, .ref 587] m1 o 0 0 1
  have hw1 := x_isW (l := l) (g := g) (d := d - 1) h1 hn hx.1.2 (i := 1) (by decide) wc_all.2.2.2.2.2.2.1 (w := wSt) wc_all.2.2.2.2.2.2.2.1 (by omega)
  have hw2 := x_isW (l := l) (g := g) (d := d - 1) h1 hn hx.1.2 (i := 2) (by decide) wc_23.1 (w := wLn) wc_23.2.1 (by omega)
  have hw3 := x_isW (l := l) (g := g) (d := d - 1) h1 hn hx.1.2 (i := 3) (by decide) wc_23.2.2.1 (w := wMn) wc_23.2.2.2 (by omega)
  have hw4 := x_isWord (l := l) (g := g) (d := d - 1) h1 hn (xWd_mk hx.1.2).1 (xWd_mk hx.1.2).2.1 (w := 4) (by decide) (by omega)
  have e4 : isW T 4 (xWd T n t) = isSl T n (skp T n t.1) := propext (isSl_iff hx.1.2)
  rw [e4] at hw4
  rw [t3] at hw1 hw2 hw3 hw4
  have C1 := dCt_T hC e1
  have k1 : m1 604 4 = nI (tot c.2) := by rw [e1 604 (by decide)]; exact h4
  have hWn := (xWd_mk (T := T) (t := t) hx.1.2).1
  have hW1 : (xWd T n t).1 = swd T n (n - c.1.1) c.1.1 := by show swd T n (n - skp T n t.1) (skp T n t.1) = _; rw [t3]
  have hW2 : (xWd T n t).2.1 = c.1.1 := t3
  have hWk : (xWd T n t).2.2.1 = 0 := t1
  have hWp : (xWd T n t).2.2.2 = -1 := t2
  generalize xWd T n t = u at h1 hW1 hW2 hWn hWk hWp
  have x0 : xR T n (swd T n (n - c.1.1) c.1.1, c.1.2) u := xR_mk (by rw [← hW1]; exact hWn) hf hW1 hWk hWp
  have k77 : ∀ m2, xQc T n z ((cl1 T n c).1, (cl1 T n c).2) m1 m2 → mWB l g d k_X1_readClause Φ 0 0 77 [.ref 604, .ref 587] [] m2 o 0 0 := by
    rintro m2 ⟨t', a1, a2, a3, a4, a5⟩
    refine mGoOn (mOk (by decide)) rfl [] 400 ?_
    show (Value.ref 604).category = 1 ∧ (Φ (.inl none) (mset m2 604 4 ((m2 604 4) + (1 : Int32))) o ∧ 0 ≤ 0 ∧ 0 ≤ 0)
    rw [a5, k1, nI_1]
    refine ⟨rfl, eR (hΦ _ ⟨t', a1, fun x b1 b2 => ?_, tx_eq a3 (mset_ne _ _ _ (by decide)) (mset_ne _ _ _ (by decide)), dCt_eq a4 (fun k hk => ?_) (fun x b1 b2 => mset_ne _ _ _ (by omega)), fun y => ?_⟩)⟩
    · rw [mset_ne _ _ _ (by omega), a2 x b1 b2, e1 x b1]
    · rw [mset_eq, pk_un (by omega)]
    · rw [mset_eq, pk_us, (hok1.2 y).2]
  have kk : ∀ k p1, kdH T n c.1.1 = k → k ≠ 4 → ifp (tot c.2 = 60 ∨ (c.2 k).length = most k) (u.2.1, 3, nI u.2.1) (swd T n (n - c.1.1) c.1.1, c.1.2) = p1 → ∀ m2, xQc T n z (cE T n c.2 k (cB T n (c.2 0).length (c.2 1) k p1)) m1 m2 → mWB l g d k_X1_readClause Φ 0 0 77 [.ref 604, .ref 587] [] m2 o 0 0 := by
    rintro k p1 hk hk4 hp1 m2 ⟨t', a1, a2, a3, a4, a5⟩
    rw [hW2] at hp1
    have q := cl_rel hok hf hk hk4 hp1 a1
    exact k77 m2 ⟨t', q.1, a2, a3, by show dCt (cl1 T n c).2 m2; rw [q.2]; exact a4, a5⟩
  refine ⟨trivial, fCi htr hw1 (by omega) ?_⟩
  show ((pI (wHere T n c.1.1 = wSt)) = 0 → True ∧ mCal l g d k_X1_readClause Φ 0 0 _ 24 k_X7_isWord false [.ref 587, .ref 1000003] [] [.ref 604, .ref 587] m1 o 0 0 1) ∧ (¬ (pI (wHere T n c.1.1 = wSt)) = 0 → True ∧ mCal l g d k_X1_readClause Φ 0 0 _ 15 k_X1_readStreet false [.ref 604, .ref 587] [] [.ref 604, .ref 587] m1 o 0 0 0)
  refine ⟨fun n1 => ?_, fun y => ?_⟩
  rotate_left
  · have hk : kdH T n c.1.1 = 0 := by unfold kdH; rw [ifp_t (pI_1.mp y)]
    exact ⟨trivial, nCv htr (x_rdStreet h1 hn x0 hf hok.2.2 C1 k1 rfl (by rw [hW2]; exact hok.1) (by omega)) (by omega) (kk 0 _ hk (by decide) rfl)⟩
  replace n1 := pI_0.mp n1
  refine ⟨trivial, fCi htr hw2 (by omega) ?_⟩
  show ((pI (wHere T n c.1.1 = wLn)) = 0 → True ∧ mCal l g d k_X1_readClause Φ 0 0 _ 41 k_X7_isWord false [.ref 587, .ref 1000004] [] [.ref 604, .ref 587] m1 o 0 0 1) ∧ (¬ (pI (wHere T n c.1.1 = wLn)) = 0 → True ∧ mCal l g d k_X1_readClause Φ 0 0 _ 32 k_X1_readLane false [.ref 604, .ref 587] [] [.ref 604, .ref 587] m1 o 0 0 0)
  refine ⟨fun n2 => ?_, fun y => ?_⟩
  rotate_left
  · have hk : kdH T n c.1.1 = 1 := by unfold kdH; rw [ifp_f n1, ifp_t (pI_1.mp y)]
    exact ⟨trivial, nCv htr (x_rdLane h1 hn x0 hf hok.2.2 C1 k1 rfl (by rw [hW2]; exact hok.1) (by omega)) (by omega) (kk 1 _ hk (by decide) rfl)⟩
  replace n2 := pI_0.mp n2
  refine ⟨trivial, fCi htr hw3 (by omega) ?_⟩
  show ((pI (wHere T n c.1.1 = wMn)) = 0 → True ∧ mCal l g d k_X1_readClause Φ 0 0 _ 58 k_X7_isWord false [.ref 587, .ref 1000005] [] [.ref 604, .ref 587] m1 o 0 0 1) ∧ (¬ (pI (wHere T n c.1.1 = wMn)) = 0 → True ∧ mCal l g d k_X1_readClause Φ 0 0 _ 49 k_X1_readMan false [.ref 604, .ref 587] [] [.ref 604, .ref 587] m1 o 0 0 0)
  refine ⟨fun n3 => ?_, fun y => ?_⟩
  rotate_left
  · have hk : kdH T n c.1.1 = 2 := by unfold kdH; rw [ifp_f n1, ifp_f n2, ifp_t (pI_1.mp y)]
    exact ⟨trivial, nCv htr (x_rdMan h1 hn x0 hf hok.2.2 C1 k1 rfl (by rw [hW2]; exact hok.1) (by omega)) (by omega) (kk 2 _ hk (by decide) rfl)⟩
  replace n3 := pI_0.mp n3
  refine ⟨trivial, fCi htr hw4 (by omega) ?_⟩
  show ((pI (isSl T n c.1.1)) = 0 → True ∧ mCal l g d k_X1_readClause Φ 0 0 _ 74 k_X7_refuse false [.ref 587, .int (1 : Int32)] [] [.ref 604, .ref 587] m1 o 0 0 0) ∧ (¬ (pI (isSl T n c.1.1)) = 0 → True ∧ mCal l g d k_X1_readClause Φ 0 0 _ 66 k_X1_readSleeper false [.ref 604, .ref 587] [] [.ref 604, .ref 587] m1 o 0 0 0)
  refine ⟨fun n4 => ?_, fun y => ?_⟩
  rotate_left
  · have hk : kdH T n c.1.1 = 3 := by unfold kdH; rw [ifp_f n1, ifp_f n2, ifp_f n3, ifp_t (pI_1.mp y)]
    exact ⟨trivial, nCv htr (x_rdSleeper h1 hn x0 hf hok.2.2 C1 k1 rfl (by rw [hW2]; exact hok.1) (by omega)) (by omega) (kk 3 _ hk (by decide) rfl)⟩
  have hk : kdH T n c.1.1 = 4 := by unfold kdH; rw [ifp_f n1, ifp_f n2, ifp_f n3, ifp_f (pI_0.mp n4)]
  refine ⟨trivial, nCv htr (x_refuse h1 1) (by omega) ?_⟩
  rintro m2 ⟨e2, h2⟩
  rw [xRf_at hWk, hW2] at h2
  have ecl : cl1 T n c = (pBl T n (c.1.1, 1, nI c.1.1), c.2) := by
    unfold cl1 cl0
    rw [ifp_t hk]
  refine k77 m2 ⟨(u.1, c.1.1, 1, nI c.1.1), ?_, eCt_T e2, h2, ?_, by rw [e2 604 (by decide)]⟩
  · rw [ecl]; exact xR_bl (xR_ft hok.1 hWn (by decide) rfl rfl)
  · rw [ecl]; exact dCt_T C1 e2
theorem x_cread {m : Mm} (h : tx T n z (0, 0, 0, -1) m) (hn : n ≤ 600) (hT : ∀ i, i < n → T i ≠ -1) (hd : 7 ≤ d) : mHv l g d k_X1_read [.ref 604, .ref 587] m (fun m2 => ∃ t', xR T n (ctR T n).1 t' ∧ eCt m m2 ∧ tx T n z t' m2 ∧ dCt (ctR T n).2 m2) := by
  refine nBv 1 rfl rfl rfl (by decide) rfl (fun htr o Φ hΦ => mGoOn (mOk (by decide)) rfl [35,66] 400 ?_)
  show mCal l g d k_X1_read Φ 0 0 _ 30 k_J7_fill_53178 false [.ref 606, .int (0 : Int32)] [] [.ref 604, .ref 587, mJ] (mset (mset (mset (mset (mset m 604 0 (0 : Int32)) 604 1 (0 : Int32)) 604 2 (0 : Int32)) 604 3 (0 : Int32)) 604 4 (0 : Int32)) o 0 0 0
  refine fCv htr (j_fill _ (a := 606) (n := 9) rfl rfl (by decide) 0) (by omega) ?_
  have key : ∀ (f : Nat) (c : CS) (i : Nat) (m2 : Mm), i ≤ 61 → (c.1.2.1 = 0 → n - c.1.1 ≤ f ∧ i = tot c.2 ∧ m2 604 4 = nI (tot c.2)) → cOk T n c → eCt m m2 → dCt c.2 m2 → (∃ t, tx T n z t m2 ∧ xR T n c.1 t) → (∀ m3, (∃ t', xR T n (ctF T n f c).1 t' ∧ eCt m m3 ∧ tx T n z t' m3 ∧ dCt (ctF T n f c).2 m3) → Φ (.inl none) m3 o) → mWB l g d k_X1_read Φ 0 0 35 [.ref 604, .ref 587, .int (nI i)] [] m2 o 0 0 := by
    intro f
    induction f with
    | zero =>
      intro c i m2 hi hf hok ec hC hs hΦ
      obtain ⟨t, h2, hx⟩ := hs
      have k66 : ∀ m3 t, eCt m m3 → dCt c.2 m3 → tx T n z t m3 → xR T n c.1 t → mWB l g d k_X1_read Φ 0 0 66 [.ref 604, .ref 587, .int (nI i)] [] m3 o 0 0 := by
        intro m3 t a1 a2 a3 a4
        refine mGoOn (mOk (by decide)) rfl [] 400 ?_
        show Φ (.inl none) m3 o ∧ 0 ≤ 0 ∧ 0 ≤ 0
        exact eR (hΦ _ ⟨t, a4, a1, a3, a2⟩)
      refine mGoOn (mOk (by decide)) rfl [35,66] 400 ?_
      show ((60 : Int32) < (nI i) → mWB l g d k_X1_read Φ 0 0 66 [.ref 604, .ref 587, .int (nI i)] [] m2 o 0 0) ∧ (¬ (60 : Int32) < (nI i) → True ∧ mCal l g d k_X1_read Φ 0 0 _ 42 k_X7_good false [.ref 587] [] [.ref 604, .ref 587, .int (nI i)] m2 o 0 0 1)
      refine ⟨fun _ => k66 m2 t ec hC h2 hx, fun _ => ⟨trivial, fCi htr (x_good h2) (by omega) ?_⟩⟩
      show ((pI (t.2.2.1 = 0)) = 0 → mWB l g d k_X1_read Φ 0 0 66 [.ref 604, .ref 587, .int (nI i)] [] m2 o 0 0) ∧ (¬ (pI (t.2.2.1 = 0)) = 0 → True ∧ mCal l g d k_X1_read Φ 0 0 _ 49 k_X7_ended false [.ref 587] [] [.ref 604, .ref 587, .int (nI i)] m2 o 0 0 1)
      refine ⟨fun _ => k66 m2 t ec hC h2 hx, fun q => ⟨trivial, nCi htr (x_ended h2 hn hx.1.2 hT (by omega)) (by omega) ?_⟩⟩
      have q0 := (xR_kd hx).mpr (pI_1.mp q)
      rintro x m3 ⟨rfl, e3, h3⟩
      show (¬ (pI (n ≤ skp T n t.1)) = 0 → mWB l g d k_X1_read Φ 0 0 66 [.ref 604, .ref 587, .int (nI i)] [] m3 o 0 0) ∧ ((pI (n ≤ skp T n t.1)) = 0 → True ∧ mCal l g d k_X1_read Φ 0 0 _ 57 k_X1_readClause false [.ref 604, .ref 587] [] [.ref 604, .ref 587, .int (nI i)] m3 o 0 0 0)
      refine ⟨fun _ => k66 m3 _ (eCt_trans ec (eCt_T e3)) (dCt_T hC e3) h3 (xR_lk hx), fun y => absurd ?_ (pI_0.mp y)⟩
      rw [(xR_at hx q0).2.2, hok.2.1]; have := (hf q0).1; omega
    | succ f IH =>
      intro c i m2 hi hf hok ec hC hs hΦ
      obtain ⟨t, h2, hx⟩ := hs
      have k66 : ¬ (c.1.2.1 = 0 ∧ c.1.1 < n) → ∀ m3 t, eCt m m3 → dCt c.2 m3 → tx T n z t m3 → xR T n c.1 t → mWB l g d k_X1_read Φ 0 0 66 [.ref 604, .ref 587, .int (nI i)] [] m3 o 0 0 := by
        intro hno m3 t a1 a2 a3 a4
        rw [ctF_no hno] at hΦ
        refine mGoOn (mOk (by decide)) rfl [] 400 ?_
        show Φ (.inl none) m3 o ∧ 0 ≤ 0 ∧ 0 ≤ 0
        exact eR (hΦ _ ⟨t, a4, a1, a3, a2⟩)
      refine mGoOn (mOk (by decide)) rfl [35,66] 400 ?_
      show ((60 : Int32) < (nI i) → mWB l g d k_X1_read Φ 0 0 66 [.ref 604, .ref 587, .int (nI i)] [] m2 o 0 0) ∧ (¬ (60 : Int32) < (nI i) → True ∧ mCal l g d k_X1_read Φ 0 0 _ 42 k_X7_good false [.ref 587] [] [.ref 604, .ref 587, .int (nI i)] m2 o 0 0 1)
      refine ⟨fun y => k66 (fun u => ?_) m2 t ec hC h2 hx, fun hi60 => ⟨trivial, fCi htr (x_good h2) (by omega) ?_⟩⟩
      · rw [show (60 : Int32) = nI 60 from rfl, nI_ltI (by decide) (by omega)] at y
        have q1 := (hf u.1).2.1
        have q2 := hok.2.2.1
        omega
      show ((pI (t.2.2.1 = 0)) = 0 → mWB l g d k_X1_read Φ 0 0 66 [.ref 604, .ref 587, .int (nI i)] [] m2 o 0 0) ∧ (¬ (pI (t.2.2.1 = 0)) = 0 → True ∧ mCal l g d k_X1_read Φ 0 0 _ 49 k_X7_ended false [.ref 587] [] [.ref 604, .ref 587, .int (nI i)] m2 o 0 0 1)
      refine ⟨fun q => k66 (fun u => pI_0.mp q ((xR_kd hx).mp u.1)) m2 t ec hC h2 hx, fun q => ⟨trivial, nCi htr (x_ended h2 hn hx.1.2 hT (by omega)) (by omega) ?_⟩⟩
      have q0 := (xR_kd hx).mpr (pI_1.mp q)
      rw [(xR_at hx q0).2.2, hok.2.1]
      rintro x m3 ⟨rfl, e3, h3⟩
      show (¬ (pI (n ≤ c.1.1)) = 0 → mWB l g d k_X1_read Φ 0 0 66 [.ref 604, .ref 587, .int (nI i)] [] m3 o 0 0) ∧ ((pI (n ≤ c.1.1)) = 0 → True ∧ mCal l g d k_X1_read Φ 0 0 _ 57 k_X1_readClause false [.ref 604, .ref 587] [] [.ref 604, .ref 587, .int (nI i)] m3 o 0 0 0)
      refine ⟨fun y => k66 (fun u => by have := pI_1.mp y; omega) m3 _ (eCt_trans ec (eCt_T e3)) (dCt_T hC e3) h3 (xR_lk hx), fun y => ⟨trivial, nCv htr (x_readClause h3 hn (xR_lk hx) hok q0 (dCt_T hC e3) (by rw [e3 604 (by decide)]; exact (hf q0).2.2) (by omega)) (by omega) ?_⟩⟩
      rintro m4 ⟨t', a1, a2, a3, a4, a5⟩
      have hlt : c.1.1 < n := by have := pI_0.mp y; omega
      rw [ctF_yes ⟨q0, hlt⟩] at hΦ
      show mWB l g d k_X1_read Φ 0 0 35 [.ref 604, .ref 587, .int ((nI i) + (1 : Int32))] [] m4 o 0 0
      rw [nI_1]
      have hk := cl1_ok hok q0
      have hi2 := hf q0
      have ht := hok.2.2.1
      exact IH (cl1 T n c) (i + 1) m4 (by omega) (fun u => by have := hk.2 u; exact ⟨by omega, by omega, a5 u⟩) hk.1 (eCt_trans (eCt_trans ec (eCt_T e3)) a2) a4 ⟨t', a3, a1⟩ hΦ
  show mWB l g d k_X1_read Φ 0 0 35 [.ref 604, .ref 587, .int (0 : Int32)] [] (mput (mset (mset (mset (mset (mset m 604 0 0) 604 1 0) 604 2 0) 604 3 0) 604 4 0) 606 (fil ((mset (mset (mset (mset (mset m 604 0 0) 604 1 0) 604 2 0) 604 3 0) 604 4 0) 606) 9 0)) o 0 0
  have g0 : ∀ i, i < 5 → mput (mset (mset (mset (mset (mset m 604 0 0) 604 1 0) 604 2 0) 604 3 0) 604 4 0) 606 (fil ((mset (mset (mset (mset (mset m 604 0 0) 604 1 0) 604 2 0) 604 3 0) 604 4 0) 606) 9 0) 604 i = 0 := by
    intro i hi
    rw [mput_ne _ _ (by decide)]
    simp only [mset_eq, upd_at]
    obtain rfl | rfl | rfl | rfl | rfl : i = 0 ∨ i = 1 ∨ i = 2 ∨ i = 3 ∨ i = 4 := by omega
    all_goals rfl
  have g6 : ∀ s, s < 9 → mput (mset (mset (mset (mset (mset m 604 0 0) 604 1 0) 604 2 0) 604 3 0) 604 4 0) 606 (fil ((mset (mset (mset (mset (mset m 604 0 0) 604 1 0) 604 2 0) 604 3 0) 604 4 0) 606) 9 0) 606 s = 0 := fun s hs => by rw [mput_eq]; unfold fil; rw [if_pos hs]
  have go : ∀ a, a ≠ 604 → a ≠ 606 → mput (mset (mset (mset (mset (mset m 604 0 0) 604 1 0) 604 2 0) 604 3 0) 604 4 0) 606 (fil ((mset (mset (mset (mset (mset m 604 0 0) 604 1 0) 604 2 0) 604 3 0) 604 4 0) 606) 9 0) a = m a := fun a a1 a2 => by rw [mput_ne _ _ a2, mset_ne _ _ _ a1, mset_ne _ _ _ a1, mset_ne _ _ _ a1, mset_ne _ _ _ a1, mset_ne _ _ _ a1]
  generalize mput (mset (mset (mset (mset (mset m 604 0 0) 604 1 0) 604 2 0) 604 3 0) 604 4 0) 606 (fil ((mset (mset (mset (mset (mset m 604 0 0) 604 1 0) 604 2 0) 604 3 0) 604 4 0) 606) 9 0) = M at g0 g6 go ⊢
  refine key n ((skp T n 0, 0, -1), fun _ => []) 0 M (by omega) (fun _ => ⟨Nat.sub_le _ _, rfl, g0 4 (by decide)⟩) ct_ini (fun a a1 a2 => go a (by omega) (by omega)) ⟨fun k hk => g0 k (by omega), fun i hi => absurd hi (Nat.not_lt_zero _), fun i hi => absurd hi (Nat.not_lt_zero _), fun i hi => absurd hi (Nat.not_lt_zero _), fun i hi => absurd hi (Nat.not_lt_zero _), fun s hs j hj => ?_⟩ ⟨(0, 0, 0, -1), tx_eq h (go _ (by decide) (by decide)) (go _ (by decide) (by decide)), ⟨skp_in (Nat.zero_le _), Nat.zero_le _⟩, Or.inl ⟨rfl, rfl, skp_skp (Nat.zero_le _)⟩, fun _ => rfl⟩ hΦ
  rw [g6 s hs]
  exact ⟨fun y => absurd y (hB_0 _), fun ⟨e, he, _⟩ => absurd he (Nat.not_lt_zero _)⟩
end XCl2
