set_option maxRecDepth 100000
/-! A BOOK, in the class -/
def eBk (m m2 : Mm) : Prop := ∀ a, a ≠ 587 → a ≠ 619 → a ≠ 620 → m2 a = m a
theorem eBk_T {m m2 : Mm} (h : eT m m2) : eBk m m2 := fun a h1 _ _ => h a h1
theorem eBk_trans {m m2 m3 : Mm} (h : eBk m m2) (h2 : eBk m2 m3) : eBk m m3 := fun a x y z => (h2 a x y z).trans (h a x y z)
/-- the draft of the class holds the lines that were read -/
def BD (b : BS) (m : Mm) : Prop := m 619 1 = nI b.2.1 ∧ ∀ s, s < 9 → (∀ t, t < b.2.1 → b.2.2.1 t = nI s → m 620 s = b.2.2.2 t) ∧ ((∀ t, t < b.2.1 → b.2.2.1 t ≠ nI s) → m 620 s = -1)
theorem BD_T {b : BS} {m m2 : Mm} (h : BD b m) (e : eT m m2) : BD b m2 := by
  unfold BD
  rw [e 619 (by decide), e 620 (by decide)]
  exact h
theorem xNm_mk {T : Nat → Int32} {n : Nat} {lo hi : Int32} {s : XS} (h : (xNm T n lo hi s).2.2.2.1 = 0) : (xNm T n lo hi s).2.2.1 = skp T n s.1 := by
  have rf : ∀ (f : Int32) (s : XS), f ≠ 0 → (xRf f s).2.2.1 ≠ 0 := fun f s hf => by
    unfold xRf
    by_cases q : s.2.2.1 = 0
    · rw [ifp_t q]; exact hf
    · rw [ifp_f q]; exact q
  unfold xNm at h ⊢
  by_cases q : s.2.2.1 = 0
  · rw [ifp_t q] at h ⊢
    by_cases y : isDg (bAt T n (skp T n s.1))
    · rw [ifp_t y] at h ⊢
      generalize dg3 T n (n - skp T n s.1) (skp T n s.1) 0 = r at h ⊢
      unfold xNf at h ⊢
      by_cases u : lo ≤ r.2 ∧ r.2 ≤ hi
      · rw [ifp_t u]; rfl
      · rw [ifp_f u] at h; exact absurd h (rf 2 _ (by decide))
    · rw [ifp_f y] at h; exact absurd h (rf 1 _ (by decide))
  · rw [ifp_f q] at h; exact absurd h q
section X23
variable {l : Launch} {g : mG} {d : Nat} {T : Nat → Int32} {n : Nat} {z : Int32}
theorem x_hourD (m : Mm) (hd : 1 ≤ d) {s : Nat} (hs : s < 9) : mFi l g d k_X0_hourOf [.ref 619, .int (nI s)] m (m 620 s) m := by
  refine nFi 0 rfl rfl rfl (by decide) rfl (fun htr o Φ hΦ => mGoOn (mOk (by decide)) rfl [] 400 ?_)
  show mCal l g d k_X0_hourOf Φ 0 0 _ 5 k_X11_at true [.ref 620, .int (nI s)] [] [.ref 619, .int (nI s)] m o 0 0 1
  exact fCi htr (x_at m (a := 620) (n := 9) rfl rfl (by decide) hs) hd (eR hΦ)
theorem hi_1000 {N : Nat} (hN : N ≤ 9) : nI N - 1 < 1000 := (show ∀ N, N < 10 → nI N - 1 < 1000 by decide +kernel) N (by omega)
theorem x_readLine {N : Nat} (hN : N ≤ 9) {b : BS} (hb : bOk n N b) (hsk : skp T n b.1.1 = b.1.1) (h0 : b.1.2.1 = 0) {s : XS} {m : Mm} (h : tx T n z s m) (hx : xR T n b.1 s) (hn : n ≤ 600) (h59 : m 590 0 = nI N) (hD : BD b m) (hd : 4 ≤ d) : mHv l g d k_X0_readLine [.ref 619, .ref 587, .ref 590] m (fun m2 => eBk m m2 ∧ BD (bk1 T n N b) m2 ∧ ∃ s', tx T n z s' m2 ∧ xR T n (bk1 T n N b).1 s') := by
  have hs := hx.1.2
  refine nBv 2 rfl rfl rfl (by decide) rfl (fun htr o Φ hΦ => mGoOn (mOk (by decide)) rfl [26] 400 ?_)
  show True ∧ mCal l g d k_X0_readLine Φ 0 0 _ 8 k_X7_number false [.ref 587, .int (0 : Int32), .int ((m 590 0) - (1 : Int32))] [] [.ref 619, .ref 587, .ref 590, mJ, mJ] m o 0 0 1
  rw [h59]
  refine ⟨trivial, nCi htr (x_number h hn hs 0 (nI N - 1) (by omega)) (by omega) ?_⟩
  rintro x m1 ⟨rfl, e1, h1⟩
  have r := xR_nm hx 0 (hi_1000 hN)
  have hp := pNum_ok (T := T) (n := n) (lo := 0) (hi := nI N - 1) (p := b.1) hb.1
  have hk := bk1_ok (T := T) (n := n) hN hb
  have hmk := xNm_mk (T := T) (n := n) (lo := 0) (hi := nI N - 1) (s := s)
  have hskp : skp T n s.1 = b.1.1 := by
    rcases hx.2.1 with ⟨_, _, q⟩ | ⟨q, _⟩
    · rw [← q]; exact hsk
    · exact absurd h0 q
  have e1p : b1p T n N b = ifp ((pNum T n 0 (nI N - 1) b.1).2.2.1 = 0 ∧ bTd b (pNum T n 0 (nI N - 1) b.1).1) (pWr 2 (nI b.1.1) (pNum T n 0 (nI N - 1) b.1).2) (pNum T n 0 (nI N - 1) b.1).2 := rfl
  have ebk : bk1 T n N b = ifp ((b2p T n N b).2.1 = 0) (pBl T n (b2p T n N b), b.2.1 + 1, upd b.2.2.1 b.2.1 (pNum T n 0 (nI N - 1) b.1).1, upd b.2.2.2 b.2.1 (pNum T n 0 23 (b1p T n N b)).1) (pBl T n (b2p T n N b), b.2) := rfl
  rw [← r.1]
  have r2 := r.2
  obtain ⟨v, hv9, ev⟩ : ∃ v, v < 9 ∧ (pNum T n 0 (nI N - 1) b.1).1 = nI v := by
    by_cases q : (pNum T n 0 (nI N - 1) b.1).2.2.1 = 0
    · obtain ⟨v, hv, e⟩ := bound_in (by omega) (hp.2.1 q).2.1
      exact ⟨v, by omega, e⟩
    · exact ⟨0, by decide, hp.2.2 q⟩
  rw [ev] at e1p ebk hk ⊢
  generalize (xNm T n 0 (nI N - 1) s).2 = s1 at r2 h1 hmk
  generalize (pNum T n 0 (nI N - 1) b.1).2 = p1 at r2 e1p hk
  show True ∧ mCal l g d k_X0_readLine Φ 0 0 _ 14 k_X0_hourOf false [.ref 619, .int (nI v)] [] [.ref 619, .ref 587, .ref 590, .int (nI v), mJ] m1 o 0 0 1
  have k26 : ∀ s2 m2, eT m m2 → tx T n z s2 m2 → xR T n (b1p T n N b) s2 → mWB l g d k_X0_readLine Φ 0 0 26 [.ref 619, .ref 587, .ref 590, .int (nI v), mJ] [] m2 o 0 0 := by
    intro s2 m2 e2 h2 x2
    refine mGoOn (mOk (by decide)) rfl [] 400 ?_
    show True ∧ mCal l g d k_X0_readLine Φ 0 0 _ 30 k_X7_number false [.ref 587, .int (0 : Int32), .int (23 : Int32)] [] [.ref 619, .ref 587, .ref 590, .int (nI v), mJ] m2 o 0 0 1
    refine ⟨trivial, nCi htr (x_number h2 hn x2.1.2 0 23 (by omega)) (by omega) ?_⟩
    rintro x m3 ⟨rfl, e3, h3⟩
    have q := xR_nm x2 0 (hi := 23) (by decide)
    rw [← q.1]
    have q2 := q.2
    have ek3 : b2p T n N b = pSgn T n 59 (pNum T n 0 23 (b1p T n N b)).2 := rfl
    generalize hh : (pNum T n 0 23 (b1p T n N b)).1 = hr at ebk hk ⊢
    generalize (xNm T n 0 23 s2).2 = s3 at q2 h3
    show True ∧ mCal l g d k_X0_readLine Φ 0 0 _ 38 k_X7_needSign false [.ref 587, .int (59 : Int32)] [] [.ref 619, .ref 587, .ref 590, .int (nI v), .int hr] m3 o 0 0 1
    refine ⟨trivial, nCi htr (x_needSign h3 hn q2.1.2 59 (by omega)) (by omega) ?_⟩
    rintro x m4 ⟨rfl, e4, h4⟩
    have q4 := xR_sg q2 (c := 59) (by decide)
    rw [← ek3] at q4
    have eall : eT m m4 := eT_trans e2 (eT_trans e3 e4)
    show ((pI ((xSg T n 59 s3).2.2.1 = 0)) = 0 → Φ (.inl none) m4 o ∧ 0 ≤ 0 ∧ 0 ≤ 0) ∧ (¬ (pI ((xSg T n 59 s3).2.2.1 = 0)) = 0 → mCal l g d k_X0_readLine Φ 0 0 _ 51 k_X11_put true [.ref 620, .int (nI v), .int hr] [] [.ref 619, .ref 587, .ref 590, .int (nI v), .int hr] m4 o 0 0 0)
    refine ⟨fun u => ?_, fun u => ?_⟩
    · have u := fun y => pI_0.mp u ((xR_kd q4).mp y)
      rw [ifp_f u] at ebk
      rw [ebk] at hΦ
      exact eR (hΦ _ ⟨eBk_T eall, BD_T hD eall, _, h4, xR_bl q4⟩)
    · have u := (xR_kd q4).mpr (pI_1.mp u)
      rw [ifp_t u] at ebk
      obtain ⟨g1, g2, g3, g4, g5⟩ := hk.2.2 u
      refine fCv htr (x_put m4 (a := 620) (n := 9) rfl rfl (by decide) (k := v) hv9 hr) (by omega) ?_
      show (Value.ref 619).category = 1 ∧ (Φ (.inl none) (mset (mset m4 620 v hr) 619 1 (((mset m4 620 v hr) 619 1) + (1 : Int32))) o ∧ 0 ≤ 0 ∧ 0 ≤ 0)
      have hD4 := BD_T hD eall
      rw [mset_ne m4 (a := 620) (x := 619) _ _ (by decide), hD4.1, nI_1]
      rw [ebk] at hΦ
      refine ⟨rfl, eR (hΦ _ ⟨fun a a1 a2 a3 => ?_, ⟨?_, fun t ht => ⟨fun w hw ew => ?_, fun hne => ?_⟩⟩, xSg T n 59 s3, ?_, xR_bl q4⟩)⟩
      · rw [mset_ne _ _ _ a2, mset_ne _ _ _ a3]; exact eall a a1
      · rw [mset_eq, pk_us]
      · have hw2 : w < b.2.1 + 1 := hw
        have ew2 : upd b.2.2.1 b.2.1 (nI v) w = nI t := ew
        show _ = upd b.2.2.2 b.2.1 hr w
        rw [mset_ne _ _ _ (by decide), mset_eq, upd_at, upd_at]
        rw [upd_at] at ew2
        by_cases ek : w = b.2.1
        · rw [if_pos ek, nI_eq (by omega) (by omega)] at ew2
          rw [if_pos ew2.symm, if_pos ek]
        · rw [if_neg ek] at ew2
          rw [if_neg ek, if_neg (fun e => g4 ⟨w, by omega, by rw [ew2, e]⟩)]
          exact (hD4.2 t ht).1 w (by omega) ew2
      · rw [mset_ne _ _ _ (by decide), mset_eq, upd_at]
        have hv2 : upd b.2.2.1 b.2.1 (nI v) b.2.1 ≠ nI t := hne b.2.1 (Nat.lt_succ_self _)
        rw [pk_us] at hv2
        rw [if_neg (fun e => hv2 (by rw [e]))]
        refine (hD4.2 t ht).2 (fun w hw ew => ?_)
        have := hne w (Nat.lt_succ_of_lt hw)
        refine this ?_
        show upd b.2.2.1 b.2.1 (nI v) w = nI t
        rw [pk_un (by omega)]
        exact ew
      · unfold tx at h4 ⊢
        rw [mset_ne _ _ _ (by decide), mset_ne _ _ _ (by decide), mset_ne _ _ _ (by decide), mset_ne _ _ _ (by decide)]
        exact h4
  refine ⟨trivial, fCi htr (x_hourD m1 (by omega) hv9) (by omega) ?_⟩
  rw [e1 620 (by decide)]
  show ((m 620 v) = (-1 : Int32) → mWB l g d k_X0_readLine Φ 0 0 26 [.ref 619, .ref 587, .ref 590, .int (nI v), mJ] [] m1 o 0 0) ∧ (¬ (m 620 v) = (-1 : Int32) → True ∧ mCal l g d k_X0_readLine Φ 0 0 _ 23 k_X7_refuse false [.ref 587, .int (2 : Int32)] [] [.ref 619, .ref 587, .ref 590, .int (nI v), mJ] m1 o 0 0 0)
  have htd : bTd b (nI v) ↔ m 620 v ≠ -1 := by
    constructor
    · rintro ⟨t, ht, et⟩
      rw [(hD.2 v hv9).1 t ht et]
      obtain ⟨q, hq, eq⟩ := (hb.2.1 t ht).2
      rw [eq]
      exact nI_m1 (by omega)
    · intro q
      refine Classical.byContradiction (fun y => q ((hD.2 v hv9).2 (fun t ht et => y ⟨t, ht, et⟩)))
  refine ⟨fun q => k26 s1 m1 e1 h1 ?_, fun q => ⟨trivial, nCv htr (x_refuse h1 2) (by omega) ?_⟩⟩
  · rw [e1p, ifp_f (fun y => htd.mp y.2 q)]; exact r2
  · rintro m2 ⟨e2, h2⟩
    refine k26 _ m2 (eT_trans e1 e2) h2 ?_
    rw [e1p]
    by_cases y : p1.2.1 = 0
    · rw [ifp_t ⟨y, htd.mpr q⟩]
      exact xR_wr r2 (by decide) (by rw [hmk ((xR_kd r2).mp y), hskp])
    · rw [ifp_f (fun u => y u.1)]
      have e : xRf 2 s1 = s1 := ifp_f (fun u => y ((xR_kd r2).mpr u))
      rw [e]
      exact r2
end X23
