set_option maxRecDepth 100000
section XLn
variable {l : Launch} {g : mG} {d : Nat} {T : Nat → Int32} {n : Nat} {z : Int32}
theorem x_hasLaneD {m : Mm} {D : CD} (hC : dCt D m) {a b : Nat} (ha : a < 9) (hb : b < 32) (hd : 1 ≤ d) : mFi l g d k_X1_hasLane [.ref 604, .int (nI a), .int (nI b)] m (pI (lnIn (D 1) (nI a) (nI b))) m := by
  refine nFi 0 rfl rfl rfl (by decide) rfl (fun htr o Φ hΦ => mGoOn (mOk (by decide)) rfl [] 400 ?_)
  show mCal l g d k_X1_hasLane Φ 0 0 _ 5 k_X11_at true [.ref 606, .int (nI a)] [] [.ref 604, .int (nI a), .int (nI b)] m o 0 0 1
  refine fCi htr (x_at m (a := 606) (n := 9) rfl rfl (by decide) ha) hd ?_
  show mCal l g d k_X1_hasLane Φ 0 0 _ 9 k_X11_hasBit true [.int (m 606 a), .int (nI b)] [] [.ref 604, .int (nI a), .int (nI b)] m o 0 0 1
  refine fCi htr (x_hasBit m (m 606 a) hb) hd ?_
  have e : hB (m 606 a) b = lnIn (D 1) (nI a) (nI b) := propext (hC.2.2.2.2.2 a ha b hb)
  rw [e]
  show ((pI (lnIn (D 1) (nI a) (nI b))) = 0 ∨ (pI (lnIn (D 1) (nI a) (nI b))) = 1) ∧ Φ (.inl (some (.int (pI (lnIn (D 1) (nI a) (nI b)))))) m o ∧ 0 ≤ 0 ∧ 0 ≤ 0
  exact ⟨pI_01 _, eR hΦ⟩
theorem num9 {N : Nat} (hN : N ≤ 9) {p : PS} (hp : p.1 ≤ n) : ∃ v, v < 9 ∧ (pNum T n 0 (nI N - 1) p).1 = nI v := by
  by_cases q : (pNum T n 0 (nI N - 1) p).2.2.1 = 0
  · obtain ⟨v, hv, e⟩ := bound_in (by omega) ((pNum_ok hp).2.1 q).2.1
    exact ⟨v, by omega, e⟩
  · exact ⟨0, by decide, (pNum_ok hp).2.2 q⟩
theorem x_rdLane {m : Mm} {u : XS} {p0 p1 : PS} {D : CD} (h : tx T n z u m) (hn : n ≤ 600) (hx : xR T n p0 u) (hf : p0.2.1 = 0) (hD : cDok D) (hC : dCt D m) (h4 : m 604 4 = nI (tot D)) (hp1 : ifp (tot D = 60 ∨ (D 1).length = most 1) (u.2.1, 3, nI u.2.1) p0 = p1) (hu : u.2.1 ≤ n) (hd : 3 ≤ d) : mHv l g d k_X1_readLane [.ref 604, .ref 587] m (xQc T n z (cE T n D 1 (cB1 T n (D 0).length (D 1) p1)) m) := by
  have l0 : (D 0).length ≤ 9 := (hD.2 0 (by decide)).1
  have lk : (D 1).length ≤ 14 := (hD.2 1 (by decide)).1
  refine nBv 2 rfl rfl rfl (by decide) rfl (fun htr o Φ hΦ => mGoOn (mOk (by decide)) rfl [49,54,137] 400 ?_)
  show True ∧ mCal l g d k_X1_readLane Φ 0 0 _ 8 k_X1_needPlace false [.ref 604, .ref 587, .int (m 604 1), .int (14 : Int32)] [] [.ref 604, .ref 587, mJ, mJ] m o 0 0 0
  rw [hC.1 1 (by decide)]
  refine ⟨trivial, nCv htr (x_needPlace (k := 1) h hx hf (by decide) hD h4 hp1 hu (by omega)) (by omega) ?_⟩
  rintro m1 ⟨u1, x1, e1, h1⟩
  have C1 := dCt_T hC e1
  show True ∧ mCal l g d k_X1_readLane Φ 0 0 _ 19 k_X7_number false [.ref 587, .int (0 : Int32), .int ((m1 604 0) - (1 : Int32))] [] [.ref 604, .ref 587, mJ, mJ] m1 o 0 0 1
  rw [C1.1 0 (by decide)]
  refine ⟨trivial, nCi htr (x_number h1 hn x1.1.2 0 (nI (D 0).length - 1) (by omega)) (by omega) ?_⟩
  rintro x m2 ⟨rfl, e2, h2⟩
  have r := xR_nm x1 0 (hi_1000 l0)
  have C2 := dCt_T C1 e2
  rw [← r.1]
  have hB := cB_ok (T := T) (n := n) (N := (D 0).length) (L := D 1) (k := 1) (p := p1) (by omega) x1.1.1
  have eBk : cB T n (D 0).length (D 1) 1 p1 = cB1 T n (D 0).length (D 1) p1 := rfl
  rw [eBk] at hB
  have eB : cB1 T n (D 0).length (D 1) p1 = (ifp ((pNum T n 0 (nI (D 0).length - 1) (pBl T n (pNum T n 0 (nI (D 0).length - 1) p1).2)).2.2.1 = 0 ∧ ((pNum T n 0 (nI (D 0).length - 1) p1).1 = (pNum T n 0 (nI (D 0).length - 1) (pBl T n (pNum T n 0 (nI (D 0).length - 1) p1).2)).1 ∨ lnIn (D 1) (pNum T n 0 (nI (D 0).length - 1) p1).1 (pNum T n 0 (nI (D 0).length - 1) (pBl T n (pNum T n 0 (nI (D 0).length - 1) p1).2)).1)) (pWr 2 (nI (skp T n (pNum T n 0 (nI (D 0).length - 1) p1).2.1)) (pNum T n 0 (nI (D 0).length - 1) (pBl T n (pNum T n 0 (nI (D 0).length - 1) p1).2)).2) (pNum T n 0 (nI (D 0).length - 1) (pBl T n (pNum T n 0 (nI (D 0).length - 1) p1).2)).2, (pNum T n 0 (nI (D 0).length - 1) p1).1, (pNum T n 0 (nI (D 0).length - 1) (pBl T n (pNum T n 0 (nI (D 0).length - 1) p1).2)).1, 0) := rfl
  have hce : cE T n D 1 (cB1 T n (D 0).length (D 1) p1) = ifp ((pSgn T n 59 (cB1 T n (D 0).length (D 1) p1).1).2.1 = 0) (pSgn T n 59 (cB1 T n (D 0).length (D 1) p1).1, updD D 1 (D 1 ++ [(cB1 T n (D 0).length (D 1) p1).2])) (pSgn T n 59 (cB1 T n (D 0).length (D 1) p1).1, D) := rfl
  have lmax : (pSgn T n 59 (cB1 T n (D 0).length (D 1) p1).1).2.1 = 0 → (D 1).length < 14 ∧ (cB1 T n (D 0).length (D 1) p1).2.1 ≠ (cB1 T n (D 0).length (D 1) p1).2.2.1 := fun q => by
    have q1 := (pSgn_ok (by decide) hB.1).2 q
    have q3 := (p1_nf hp1 (hB.2.2 q1.1).1).1
    have q4 : ¬ (D 1).length = 14 := fun y => q3 (Or.inr y)
    have q5 : In (cB1 T n (D 0).length (D 1) p1).2.1 (D 0).length ∧ In (cB1 T n (D 0).length (D 1) p1).2.2.1 (D 0).length ∧ (cB1 T n (D 0).length (D 1) p1).2.1 ≠ (cB1 T n (D 0).length (D 1) p1).2.2.1 := (hB.2.2 q1.1).2
    exact ⟨by omega, q5.2.2⟩
  rw [hce] at hΦ
  clear hce hB eBk
  rw [eB] at hΦ lmax
  clear eB
  have r2 := r.2
  obtain ⟨a, ha, ea⟩ := num9 (T := T) (n := n) l0 x1.1.1
  rw [ea] at hΦ lmax ⊢
  generalize (pNum T n 0 (nI (D 0).length - 1) p1).2 = w1 at hΦ lmax r2
  generalize (xNm T n 0 (nI (D 0).length - 1) u1).2 = u2 at h2 r2
  clear r ea
  show True ∧ mCal l g d k_X1_readLane Φ 0 0 _ 31 k_X7_number false [.ref 587, .int (0 : Int32), .int ((m2 604 0) - (1 : Int32))] [] [.ref 604, .ref 587, .int (nI a), mJ] m2 o 0 0 1
  rw [C2.1 0 (by decide)]
  refine ⟨trivial, nCi htr (x_number h2 hn r2.1.2 0 (nI (D 0).length - 1) (by omega)) (by omega) ?_⟩
  rintro x m3 ⟨rfl, e3, h3⟩
  have q := xR_nm (xR_bl r2) 0 (hi_1000 l0)
  rw [← q.1]
  have q2 := q.2
  have hmk := xNm_mk (T := T) (n := n) (lo := 0) (hi := nI (D 0).length - 1) (s := u2)
  obtain ⟨b, hb, eb⟩ := num9 (T := T) (n := n) l0 (p := pBl T n w1) (skp_in r2.1.1)
  have hg2 := (num_in (T := T) (n := n) (lo := 0) (hi := nI (D 0).length - 1) (p := pBl T n w1) (skp_in r2.1.1)).2.2
  rw [eb] at hΦ lmax ⊢
  generalize (pNum T n 0 (nI (D 0).length - 1) (pBl T n w1)).2 = w2 at hΦ lmax q2 hg2
  generalize (xNm T n 0 (nI (D 0).length - 1) u2).2 = u3 at h3 q2 hmk
  clear q eb
  have C3 := dCt_T C2 e3
  have E3 : eCt m m3 := eCt_trans (eCt_T e1) (eCt_trans (eCt_T e2) (eCt_T e3))
  have k3 : m3 604 4 = m 604 4 := by rw [e3 604 (by decide), e2 604 (by decide), e1 604 (by decide)]
  have k54 : ∀ m' t', eT m3 m' → tx T n z t' m' → xR T n (ifp (w2.2.1 = 0 ∧ (nI a = nI b ∨ lnIn (D 1) (nI a) (nI b))) (pWr 2 (nI (skp T n w1.1)) w2) w2) t' → mWB l g d k_X1_readLane Φ 0 0 54 [.ref 604, .ref 587, .int (nI a), .int (nI b)] [] m' o 0 0 := by
    intro m' t' e' h' x'
    generalize ifp (w2.2.1 = 0 ∧ (nI a = nI b ∨ lnIn (D 1) (nI a) (nI b))) (pWr 2 (nI (skp T n w1.1)) w2) w2 = p3 at hΦ lmax x'
    refine mGoOn (mOk (by decide)) rfl [137] 400 ?_
    show True ∧ mCal l g d k_X1_readLane Φ 0 0 _ 57 k_X7_needSign false [.ref 587, .int (59 : Int32)] [] [.ref 604, .ref 587, .int (nI a), .int (nI b)] m' o 0 0 1
    refine ⟨trivial, nCi htr (x_needSign h' hn x'.1.2 59 (by omega)) (by omega) ?_⟩
    rintro x m4 ⟨rfl, e4, h4'⟩
    have x4 := xR_sg x' (c := 59) (by decide)
    have hxs := xSg_0 (c := 59) (by decide) x'
    have C4 := dCt_T (dCt_T C3 e') e4
    have E4 : eCt m m4 := eCt_trans E3 (eCt_trans (eCt_T e') (eCt_T e4))
    have k4 : m4 604 4 = m 604 4 := by rw [e4 604 (by decide), e' 604 (by decide)]; exact k3
    show ((pI ((xSg T n 59 t').2.2.1 = 0)) = 0 → mWB l g d k_X1_readLane Φ 0 0 137 [.ref 604, .ref 587, .int (nI a), .int (nI b)] [] m4 o 0 0) ∧ (¬ (pI ((xSg T n 59 t').2.2.1 = 0)) = 0 → mCal l g d k_X1_readLane Φ 0 0 _ 72 k_X11_put true [.ref 607, .int (m4 604 1), .int (nI a)] [] [.ref 604, .ref 587, .int (nI a), .int (nI b)] m4 o 0 0 0)
    refine ⟨fun y => ?_, fun y => ?_⟩
    · have y0 : ¬ (pSgn T n 59 p3).2.1 = 0 := fun q => pI_0.mp y (hxs.mpr q)
      rw [ifp_f y0] at hΦ
      refine mGoOn (mOk (by decide)) rfl [] 400 ?_
      show Φ (.inl none) m4 o ∧ 0 ≤ 0 ∧ 0 ≤ 0
      exact eR (hΦ _ ⟨_, x4, E4, h4', C4, k4⟩)
    · have y0 : (pSgn T n 59 p3).2.1 = 0 := hxs.mp (pI_1.mp y)
      rw [ifp_t y0] at hΦ
      obtain ⟨hl14, hne⟩ := lmax y0
      have hne : nI a ≠ nI b := hne
      have hab : a ≠ b := fun e => hne (by rw [e])
      rw [C4.1 1 (by decide)]
      refine fCv htr (x_put m4 (a := 607) (n := 14) rfl rfl (by decide) hl14 (nI a)) (by omega) ?_
      show mCal l g d k_X1_readLane Φ 0 0 _ 84 k_X11_put true [.ref 608, .int ((mset m4 607 (D 1).length (nI a)) 604 1), .int (nI b)] [] [.ref 604, .ref 587, .int (nI a), .int (nI b)] (mset m4 607 (D 1).length (nI a)) o 0 0 0
      rw [mset_ne _ (a := 607) (x := 604) _ _ (by decide), C4.1 1 (by decide)]
      refine fCv htr (x_put _ (a := 608) (n := 14) rfl rfl (by decide) hl14 (nI b)) (by omega) ?_
      have f606 : mset (mset m4 607 (D 1).length (nI a)) 608 (D 1).length (nI b) 606 = m4 606 := by rw [mset_ne _ _ _ (by decide), mset_ne _ _ _ (by decide)]
      have f604 : mset (mset m4 607 (D 1).length (nI a)) 608 (D 1).length (nI b) 604 = m4 604 := by rw [mset_ne _ _ _ (by decide), mset_ne _ _ _ (by decide)]
      have f607 : mset (mset m4 607 (D 1).length (nI a)) 608 (D 1).length (nI b) 607 = upd (m4 607) (D 1).length (nI a) := by rw [mset_ne _ _ _ (by decide), mset_eq]
      have f608 : mset (mset m4 607 (D 1).length (nI a)) 608 (D 1).length (nI b) 608 = upd (m4 608) (D 1).length (nI b) := by rw [mset_eq, mset_ne _ _ _ (by decide)]
      have fo : ∀ x, x ≠ 607 → x ≠ 608 → mset (mset m4 607 (D 1).length (nI a)) 608 (D 1).length (nI b) x = m4 x := fun x g1 g2 => by rw [mset_ne _ _ _ g2, mset_ne _ _ _ g1]
      generalize mset (mset m4 607 (D 1).length (nI a)) 608 (D 1).length (nI b) = M at f606 f604 f607 f608 fo ⊢
      show mCal l g d k_X1_readLane Φ 0 0 _ 97 k_X11_at true [.ref 606, .int (nI a)] [.int (nI a), .ref 606] [.ref 604, .ref 587, .int (nI a), .int (nI b)] M o 0 0 1
      refine fCi htr (x_at M (a := 606) (n := 9) rfl rfl (by decide) ha) (by omega) ?_
      show mCal l g d k_X1_readLane Φ 0 0 _ 104 k_X11_put true [.ref 606, .int (nI a), .int ((M 606 a) ||| (jshl (1 : Int32) (nI b)))] [] [.ref 604, .ref 587, .int (nI a), .int (nI b)] M o 0 0 0
      refine fCv htr (x_put M (a := 606) (n := 9) rfl rfl (by decide) ha (M 606 a ||| jshl 1 (nI b))) (by omega) ?_
      show mCal l g d k_X1_readLane Φ 0 0 _ 117 k_X11_at true [.ref 606, .int (nI b)] [.int (nI b), .ref 606] [.ref 604, .ref 587, .int (nI a), .int (nI b)] (mset M 606 a (M 606 a ||| jshl 1 (nI b))) o 0 0 1
      refine fCi htr (x_at _ (a := 606) (n := 9) rfl rfl (by decide) hb) (by omega) ?_
      have fb : mset M 606 a (M 606 a ||| jshl 1 (nI b)) 606 b = M 606 b := by rw [mset_eq, pk_un (fun e => hab e.symm)]
      rw [fb]
      show mCal l g d k_X1_readLane Φ 0 0 _ 124 k_X11_put true [.ref 606, .int (nI b), .int ((M 606 b) ||| (jshl (1 : Int32) (nI a)))] [] [.ref 604, .ref 587, .int (nI a), .int (nI b)] (mset M 606 a (M 606 a ||| jshl 1 (nI b))) o 0 0 0
      refine fCv htr (x_put _ (a := 606) (n := 9) rfl rfl (by decide) hb (M 606 b ||| jshl 1 (nI a))) (by omega) ?_
      have g606 : ∀ s, mset (mset M 606 a (M 606 a ||| jshl 1 (nI b))) 606 b (M 606 b ||| jshl 1 (nI a)) 606 s = if s = b then M 606 b ||| jshl 1 (nI a) else if s = a then M 606 a ||| jshl 1 (nI b) else M 606 s := fun s => by rw [mset_eq, upd_at, mset_eq, upd_at]
      have go : ∀ x, x ≠ 606 → mset (mset M 606 a (M 606 a ||| jshl 1 (nI b))) 606 b (M 606 b ||| jshl 1 (nI a)) x = M x := fun x g1 => by rw [mset_ne _ _ _ g1, mset_ne _ _ _ g1]
      generalize mset (mset M 606 a (M 606 a ||| jshl 1 (nI b))) 606 b (M 606 b ||| jshl 1 (nI a)) = K at g606 go ⊢
      show (Value.ref 604).category = 1 ∧ (mWB l g d k_X1_readLane Φ 0 0 137 [.ref 604, .ref 587, .int (nI a), .int (nI b)] [] (mset K 604 1 ((K 604 1) + (1 : Int32))) o 0 0)
      rw [go 604 (by decide), f604, C4.1 1 (by decide), nI_1]
      refine ⟨rfl, ?_⟩
      refine mGoOn (mOk (by decide)) rfl [] 400 ?_
      show Φ (.inl none) (mset K 604 1 (nI ((D 1).length + 1))) o ∧ 0 ≤ 0 ∧ 0 ≤ 0
      refine eR (hΦ _ ⟨_, x4, eCt_trans E4 (fun x b1 b2 => by rw [mset_ne _ _ _ (by omega), go x (by omega), fo x (by omega) (by omega)]), tx_eq h4' (by rw [mset_ne _ _ _ (by decide), go _ (by decide), fo _ (by decide) (by decide)]) (by rw [mset_ne _ _ _ (by decide), go _ (by decide), fo _ (by decide) (by decide)]), dCt_1 C4 ?_ (fun j j1 j2 => ?_) ?_ ?_ (fun s hs j hj => ?_) (fun x b1 => ?_), ?_⟩)
      · rw [mset_eq, pk_us]
      · rw [mset_eq, pk_un j1, go 604 (by decide), f604]
      · rw [mset_ne _ _ _ (by decide), go _ (by decide)]; exact f607
      · rw [mset_ne _ _ _ (by decide), go _ (by decide)]; exact f608
      · rw [mset_ne _ _ _ (by decide), g606]
        show _ ↔ _ ∨ ((nI a = nI s ∧ nI b = nI j) ∨ (nI a = nI j ∧ nI b = nI s))
        rw [nI_eq (by omega) (by omega), nI_eq (by omega) (by omega), nI_eq (by omega) (by omega), nI_eq (by omega) (by omega), f606]
        by_cases sb : s = b
        · rw [if_pos sb, hB_or, hB_sh (by omega) hj, sb]
          constructor
          · rintro (y | y)
            · exact Or.inl y
            · exact Or.inr (Or.inr ⟨y.symm, rfl⟩)
          · rintro (y | y | y)
            · exact Or.inl y
            · exact absurd y.1 hab
            · exact Or.inr y.1.symm
        · rw [if_neg sb]
          by_cases sa : s = a
          · rw [if_pos sa, hB_or, hB_sh (by omega) hj, sa]
            constructor
            · rintro (y | y)
              · exact Or.inl y
              · exact Or.inr (Or.inl ⟨rfl, y.symm⟩)
            · rintro (y | y | y)
              · exact Or.inl y
              · exact Or.inr y.2.symm
              · exact absurd y.2.symm hab
          · rw [if_neg sa]
            constructor
            · exact fun y => Or.inl y
            · rintro (y | y | y)
              · exact y
              · exact absurd y.1.symm sa
              · exact absurd y.2.symm sb
      · rw [mset_ne _ _ _ (by omega), go x (by omega), fo x (by omega) (by omega)]
      · rw [mset_eq, pk_un (by decide), go 604 (by decide), f604]; exact k4
  have k49 : (nI a = nI b ∨ lnIn (D 1) (nI a) (nI b)) → mWB l g d k_X1_readLane Φ 0 0 49 [.ref 604, .ref 587, .int (nI a), .int (nI b)] [] m3 o 0 0 := by
    intro hF
    refine mGoOn (mOk (by decide)) rfl [54] 400 ?_
    show True ∧ mCal l g d k_X1_readLane Φ 0 0 _ 51 k_X7_refuse false [.ref 587, .int (2 : Int32)] [] [.ref 604, .ref 587, .int (nI a), .int (nI b)] m3 o 0 0 0
    refine ⟨trivial, nCv htr (x_refuse h3 2) (by omega) ?_⟩
    rintro m4 ⟨e4, h4'⟩
    refine k54 m4 _ e4 h4' ?_
    by_cases y : w2.2.1 = 0
    · rw [ifp_t ⟨y, hF⟩]
      refine xR_wr q2 (by decide) ?_
      have y2 := (xR_kd q2).mp y
      rw [hmk y2, (xR_at r2 (hg2 y).1).2.2]
    · rw [ifp_f (fun u => y u.1)]
      have y2 : ¬ u3.2.2.1 = 0 := fun u => y ((xR_kd q2).mpr u)
      have er : xRf 2 u3 = u3 := ifp_f y2
      rw [er]; exact q2
  show ((nI a) = (nI b) → mWB l g d k_X1_readLane Φ 0 0 49 [.ref 604, .ref 587, .int (nI a), .int (nI b)] [] m3 o 0 0) ∧ (¬ (nI a) = (nI b) → True ∧ mCal l g d k_X1_readLane Φ 0 0 _ 43 k_X1_hasLane false [.ref 604, .int (nI a), .int (nI b)] [] [.ref 604, .ref 587, .int (nI a), .int (nI b)] m3 o 0 0 1)
  refine ⟨fun y => k49 (Or.inl y), fun y => ⟨trivial, fCi htr (x_hasLaneD C3 ha (by omega) (by omega)) (by omega) ?_⟩⟩
  show ((pI (lnIn (D 1) (nI a) (nI b))) = 0 → mWB l g d k_X1_readLane Φ 0 0 54 [.ref 604, .ref 587, .int (nI a), .int (nI b)] [] m3 o 0 0) ∧ (¬ (pI (lnIn (D 1) (nI a) (nI b))) = 0 → mWB l g d k_X1_readLane Φ 0 0 49 [.ref 604, .ref 587, .int (nI a), .int (nI b)] [] m3 o 0 0)
  refine ⟨fun y2 => k54 m3 u3 (eT_refl m3) h3 ?_, fun y2 => k49 (Or.inr (pI_1.mp y2))⟩
  rw [ifp_f (fun u => u.2.elim y (pI_0.mp y2))]
  exact q2
end XLn
