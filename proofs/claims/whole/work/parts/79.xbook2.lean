set_option maxRecDepth 100000
section X24
variable {l : Launch} {g : mG} {d : Nat} {T : Nat → Int32} {n : Nat} {z : Int32}
theorem bk1_sk {N : Nat} {b : BS} (hN : N ≤ 9) (hb : bOk n N b) : skp T n (bk1 T n N b).1.1 = (bk1 T n N b).1.1 := by
  have e1 : (bk1 T n N b).1 = pBl T n (b2p T n N b) := by
    unfold bk1
    by_cases y : (b2p T n N b).2.1 = 0
    · rw [ifp_t y]
    · rw [ifp_f y]
  rw [e1]
  have q1 := pNum_ok (T := T) (n := n) (lo := 0) (hi := nI N - 1) (p := b.1) hb.1
  have hb1 : (b1p T n N b).1 ≤ n := by
    unfold b1p
    by_cases y : (pNum T n 0 (nI N - 1) b.1).2.2.1 = 0 ∧ bTd b (pNum T n 0 (nI N - 1) b.1).1
    · rw [ifp_t y, (pWr_ok (by decide)).1]; exact q1.1
    · rw [ifp_f y]; exact q1.1
  exact skp_skp (pSgn_ok (by decide) (pNum_ok hb1).1).1
theorem x_clearD (m : Mm) (hd : 1 ≤ d) : mFu l g d k_X0_clear [.ref 619] m (mput (mset m 619 1 0) 620 (fil (m 620) 9 (-1))) := by
  refine nFu 0 rfl rfl rfl (by decide) rfl (fun htr o Φ hΦ => mGoOn (mOk (by decide)) rfl [] 400 ?_)
  show mCal l g d k_X0_clear Φ 0 0 _ 10 k_J7_fill_53178 false [.ref 620, .int (-1 : Int32)] [] [.ref 619] (mset m 619 1 (0 : Int32)) o 0 0 0
  refine fCv htr (j_fill _ (a := 620) (n := 9) rfl rfl (by decide) (-1)) hd ?_
  rw [mset_ne m (a := 619) (x := 620) _ _ (by decide)]
  exact eR hΦ
theorem x_bread {N : Nat} (hN : N ≤ 9) {m : Mm} (h : tx T n z (0, 0, 0, -1) m) (hn : n ≤ 60) (hT : ∀ i, i < n → T i ≠ -1) (h59 : m 590 0 = nI N) (hd : 6 ≤ d) : mHv l g d k_X0_read [.ref 619, .ref 587, .ref 590] m (fun m2 => eBk m m2 ∧ BD (bkR T n N) m2 ∧ ∃ s', tx T n z s' m2 ∧ xR T n (bkR T n N).1 s') := by
  refine nBv 1 rfl rfl rfl (by decide) rfl (fun htr o Φ hΦ => mGoOn (mOk (by decide)) rfl [6,38] 400 ?_)
  show True ∧ mCal l g d k_X0_read Φ 0 0 _ 1 k_X0_clear false [.ref 619] [] [.ref 619, .ref 587, .ref 590, mJ] m o 0 0 0
  refine ⟨trivial, fCv htr (x_clearD m (by omega)) (by omega) ?_⟩
  show mWB l g d k_X0_read Φ 0 0 6 [.ref 619, .ref 587, .ref 590, .int (0 : Int32)] [] (mput (mset m 619 1 0) 620 (fil (m 620) 9 (-1))) o 0 0
  have key : ∀ (f : Nat) (b : BS) (i : Nat) (m2 : Mm), i ≤ 61 → (b.1.2.1 = 0 → n - b.1.1 ≤ f ∧ i ≤ b.1.1) → bOk n N b → skp T n b.1.1 = b.1.1 → eBk m m2 → BD b m2 → (∃ s, tx T n z s m2 ∧ xR T n b.1 s) → (∀ m3, (eBk m m3 ∧ BD (bkF T n N f b) m3 ∧ ∃ s', tx T n z s' m3 ∧ xR T n (bkF T n N f b).1 s') → Φ (.inl none) m3 o) → mWB l g d k_X0_read Φ 0 0 6 [.ref 619, .ref 587, .ref 590, .int (nI i)] [] m2 o 0 0 := by
    intro f
    induction f with
    | zero =>
      intro b i m2 hi hf hb hsk eb hD hs hΦ
      obtain ⟨s, h2, hx⟩ := hs
      have k38 : ∀ m3 s, eBk m m3 → BD b m3 → tx T n z s m3 → xR T n b.1 s → mWB l g d k_X0_read Φ 0 0 38 [.ref 619, .ref 587, .ref 590, .int (nI i)] [] m3 o 0 0 := by
        intro m3 s a1 a2 a3 a4
        refine mGoOn (mOk (by decide)) rfl [] 400 ?_
        show Φ (.inl none) m3 o ∧ 0 ≤ 0 ∧ 0 ≤ 0
        exact eR (hΦ _ ⟨a1, a2, s, a3, a4⟩)
      refine mGoOn (mOk (by decide)) rfl [6,38] 400 ?_
      show ((60 : Int32) < (nI i) → mWB l g d k_X0_read Φ 0 0 38 [.ref 619, .ref 587, .ref 590, .int (nI i)] [] m2 o 0 0) ∧ (¬ (60 : Int32) < (nI i) → True ∧ mCal l g d k_X0_read Φ 0 0 _ 13 k_X7_good false [.ref 587] [] [.ref 619, .ref 587, .ref 590, .int (nI i)] m2 o 0 0 1)
      refine ⟨fun _ => k38 m2 s eb hD h2 hx, fun _ => ⟨trivial, fCi htr (x_good h2) (by omega) ?_⟩⟩
      show ((pI (s.2.2.1 = 0)) = 0 → mWB l g d k_X0_read Φ 0 0 38 [.ref 619, .ref 587, .ref 590, .int (nI i)] [] m2 o 0 0) ∧ (¬ (pI (s.2.2.1 = 0)) = 0 → True ∧ mCal l g d k_X0_read Φ 0 0 _ 20 k_X7_ended false [.ref 587] [] [.ref 619, .ref 587, .ref 590, .int (nI i)] m2 o 0 0 1)
      refine ⟨fun _ => k38 m2 s eb hD h2 hx, fun q => ⟨trivial, nCi htr (x_ended h2 (by omega) hx.1.2 hT (by omega)) (by omega) ?_⟩⟩
      have q0 := (xR_kd hx).mpr (pI_1.mp q)
      rintro x m3 ⟨rfl, e3, h3⟩
      show (¬ (pI (n ≤ skp T n s.1)) = 0 → mWB l g d k_X0_read Φ 0 0 38 [.ref 619, .ref 587, .ref 590, .int (nI i)] [] m3 o 0 0) ∧ ((pI (n ≤ skp T n s.1)) = 0 → True ∧ mCal l g d k_X0_read Φ 0 0 _ 29 k_X0_readLine false [.ref 619, .ref 587, .ref 590] [] [.ref 619, .ref 587, .ref 590, .int (nI i)] m3 o 0 0 0)
      refine ⟨fun _ => k38 m3 _ (eBk_trans eb (eBk_T e3)) (BD_T hD e3) h3 (xR_lk hx), fun y => absurd ?_ (pI_0.mp y)⟩
      rcases hx.2.1 with ⟨_, _, u⟩ | ⟨u, _⟩
      · rw [← u, hsk]; have := (hf q0).1; omega
      · exact absurd q0 u
    | succ f IH =>
      intro b i m2 hi hf hb hsk eb hD hs hΦ
      obtain ⟨s, h2, hx⟩ := hs
      have k38 : ¬ (b.1.2.1 = 0 ∧ b.1.1 < n) → ∀ m3 s, eBk m m3 → BD b m3 → tx T n z s m3 → xR T n b.1 s → mWB l g d k_X0_read Φ 0 0 38 [.ref 619, .ref 587, .ref 590, .int (nI i)] [] m3 o 0 0 := by
        intro hno m3 s a1 a2 a3 a4
        rw [bkF_no hno] at hΦ
        refine mGoOn (mOk (by decide)) rfl [] 400 ?_
        show Φ (.inl none) m3 o ∧ 0 ≤ 0 ∧ 0 ≤ 0
        exact eR (hΦ _ ⟨a1, a2, s, a3, a4⟩)
      refine mGoOn (mOk (by decide)) rfl [6,38] 400 ?_
      show ((60 : Int32) < (nI i) → mWB l g d k_X0_read Φ 0 0 38 [.ref 619, .ref 587, .ref 590, .int (nI i)] [] m2 o 0 0) ∧ (¬ (60 : Int32) < (nI i) → True ∧ mCal l g d k_X0_read Φ 0 0 _ 13 k_X7_good false [.ref 587] [] [.ref 619, .ref 587, .ref 590, .int (nI i)] m2 o 0 0 1)
      refine ⟨fun y => k38 (fun u => ?_) m2 s eb hD h2 hx, fun hi60 => ⟨trivial, fCi htr (x_good h2) (by omega) ?_⟩⟩
      · rw [show (60 : Int32) = nI 60 from rfl, nI_ltI (by decide) (by omega)] at y
        have := (hf u.1).2
        omega
      show ((pI (s.2.2.1 = 0)) = 0 → mWB l g d k_X0_read Φ 0 0 38 [.ref 619, .ref 587, .ref 590, .int (nI i)] [] m2 o 0 0) ∧ (¬ (pI (s.2.2.1 = 0)) = 0 → True ∧ mCal l g d k_X0_read Φ 0 0 _ 20 k_X7_ended false [.ref 587] [] [.ref 619, .ref 587, .ref 590, .int (nI i)] m2 o 0 0 1)
      refine ⟨fun q => k38 (fun u => pI_0.mp q ((xR_kd hx).mp u.1)) m2 s eb hD h2 hx, fun q => ⟨trivial, nCi htr (x_ended h2 (by omega) hx.1.2 hT (by omega)) (by omega) ?_⟩⟩
      have q0 := (xR_kd hx).mpr (pI_1.mp q)
      have hskp : skp T n s.1 = b.1.1 := by
        rcases hx.2.1 with ⟨_, _, u⟩ | ⟨u, _⟩
        · rw [← u]; exact hsk
        · exact absurd q0 u
      rw [hskp]
      rintro x m3 ⟨rfl, e3, h3⟩
      show (¬ (pI (n ≤ b.1.1)) = 0 → mWB l g d k_X0_read Φ 0 0 38 [.ref 619, .ref 587, .ref 590, .int (nI i)] [] m3 o 0 0) ∧ ((pI (n ≤ b.1.1)) = 0 → True ∧ mCal l g d k_X0_read Φ 0 0 _ 29 k_X0_readLine false [.ref 619, .ref 587, .ref 590] [] [.ref 619, .ref 587, .ref 590, .int (nI i)] m3 o 0 0 0)
      refine ⟨fun y => k38 (fun u => by have := pI_1.mp y; omega) m3 _ (eBk_trans eb (eBk_T e3)) (BD_T hD e3) h3 (xR_lk hx), fun y => ⟨trivial, nCv htr (x_readLine hN hb hsk q0 h3 (xR_lk hx) (by omega) ?_ (BD_T hD e3) (by omega)) (by omega) ?_⟩⟩
      · rw [e3 590 (by decide), eb 590 (by decide) (by decide) (by decide)]; exact h59
      · rintro m4 ⟨a1, a2, a3⟩
        have hlt : b.1.1 < n := by have := pI_0.mp y; omega
        rw [bkF_yes ⟨q0, hlt⟩] at hΦ
        show mWB l g d k_X0_read Φ 0 0 6 [.ref 619, .ref 587, .ref 590, .int ((nI i) + (1 : Int32))] [] m4 o 0 0
        rw [nI_1]
        have hk := bk1_ok (T := T) (n := n) hN hb
        have hi2 := hf q0
        exact IH (bk1 T n N b) (i + 1) m4 (by omega) (fun u => by have := hk.2.1 u; omega) hk.1 (bk1_sk hN hb) (eBk_trans (eBk_trans eb (eBk_T e3)) a1) a2 a3 hΦ
  refine key n ((skp T n 0, 0, -1), 0, (fun _ => 0), (fun _ => 0)) 0 _ (by omega) (fun _ => ⟨Nat.sub_le _ _, Nat.zero_le _⟩) ⟨skp_in (Nat.zero_le _), fun t ht => absurd ht (by show ¬ t < 0; omega), fun t u h1 h2 => absurd h2 (by show ¬ u < 0; omega), Nat.zero_le _⟩ (skp_skp (Nat.zero_le _)) (fun a a1 a2 a3 => ?_) ⟨?_, fun s hs => ⟨fun t ht => absurd ht (by show ¬ t < 0; omega), fun _ => ?_⟩⟩ ⟨(0, 0, 0, -1), ?_, ⟨skp_in (Nat.zero_le _), Nat.zero_le _⟩, Or.inl ⟨rfl, rfl, skp_skp (Nat.zero_le _)⟩, fun _ => rfl⟩ hΦ
  · rw [mput_ne _ _ a3, mset_ne _ _ _ a2]
  · rw [mput_ne _ _ (by decide), mset_eq, pk_us]; rfl
  · rw [mput_eq]; unfold fil; rw [if_pos hs]
  · unfold tx at h ⊢
    rw [mput_ne _ _ (by decide), mset_ne _ _ _ (by decide), mput_ne _ _ (by decide), mset_ne _ _ _ (by decide)]
    exact h
end X24
