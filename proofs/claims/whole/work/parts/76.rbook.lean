set_option maxRecDepth 100000
/-! A BOOK, in the reference -/
def RBk (X0 : Mm) (b : BS) (X : Mm) : Prop := (∀ a, a ≠ 0 → a < 402 ∨ 410 < a → X a = X0 a) ∧ (∀ i, X 0 i = X0 0 i) ∧ ∀ t, t < b.2.1 → X (402 + t) 0 = b.2.2.1 t ∧ X (402 + t) 1 = b.2.2.2 t
theorem bkF_no {T : Nat → Int32} {n N f : Nat} {b : BS} (h : ¬ (b.1.2.1 = 0 ∧ b.1.1 < n)) : bkF T n N f b = b := by
  cases f with
  | zero => rfl
  | succ f => exact ifp_f h
theorem bkF_yes {T : Nat → Int32} {n N f : Nat} {b : BS} (h : b.1.2.1 = 0 ∧ b.1.1 < n) : bkF T n N (f + 1) b = bkF T n N f (bk1 T n N b) := ifp_t h
theorem mPS_set (X : Mm) (p : PS) {a : Nat} (ha : a ≠ 0) (i : Nat) (v : Int32) : mset (mPS X p) a i v = mPS (mset X a i v) p := by
  funext x j
  by_cases hx : x = a
  · subst hx
    rw [mset_eq, mPS_o _ _ ha, mPS_o _ _ ha, mset_eq]
  · rw [mset_ne _ _ _ hx]
    by_cases h0 : x = 0
    · subst h0
      by_cases h4 : j = 4
      · subst h4; rw [mPS_4, mPS_4]
      · by_cases h5 : j = 5
        · subst h5; rw [mPS_5, mPS_5]
        · by_cases h6 : j = 6
          · subst h6; rw [mPS_6, mPS_6]
          · rw [mPS_f _ _ h4 h5 h6, mPS_f _ _ h4 h5 h6, mset_ne _ _ _ (fun e => ha e.symm)]
    · rw [mPS_o _ _ h0, mPS_o _ _ h0, mset_ne _ _ _ hx]
section R27
variable {l : Launch} {g : mG} {d : Nat}
theorem r_bookL (htr : l.stackTraces = false) (o : Int64) {Φ : mR → Mm → Int64 → Prop} (hd : 5 ≤ d) {X0 : Mm} {n N : Nat} (hn : n ≤ 60) (hs : X0 0 2 = nI n) (hN : N ≤ 9) (h4 : X0 4 0 = nI N) (len : Int32) : ∀ (f : Nat) (b : BS) (X : Mm) (mk : Int32), (b.1.2.1 = 0 → n - b.1.1 ≤ f) → bOk n N b → RBk X0 b X → (∀ v, v < 32 → (hB mk v ↔ bTd b (nI v))) → (∀ X' mk', RBk X0 (bkF (X0 1) n N f b) X' → mWB l g d k_X12_book Φ 0 0 169 [.ref 0, .int len, .int (nI (bkF (X0 1) n N f b).2.1), .int mk', mJ, mJ, mJ] [] (mPS X' (bkF (X0 1) n N f b).1) o 0 0) → mWB l g d k_X12_book Φ 0 0 48 [.ref 0, .int len, .int (nI b.2.1), .int mk, mJ, mJ, mJ] [] (mPS X b.1) o 0 0 := by
  intro f
  induction f with
  | zero =>
    intro b X mk hf hb hR hmk kk
    have eX2 : X 0 2 = nI n := by rw [hR.2.1]; exact hs
    refine mGoOn (mOk (by decide)) rfl [48,110,162,169] 400 ?_
    show (¬ ((mPS X b.1) 0 5) = 0 → mWB l g d k_X12_book Φ 0 0 169 [.ref 0, .int len, .int (nI b.2.1), .int mk, mJ, mJ, mJ] [] (mPS X b.1) o 0 0) ∧ (((mPS X b.1) 0 5) = 0 → (((mPS X b.1) 0 2) ≤ ((mPS X b.1) 0 4) → mWB l g d k_X12_book Φ 0 0 169 [.ref 0, .int len, .int (nI b.2.1), .int mk, mJ, mJ, mJ] [] (mPS X b.1) o 0 0) ∧ (¬ ((mPS X b.1) 0 2) ≤ ((mPS X b.1) 0 4) → True ∧ mCal l g d k_X12_book Φ 0 0 _ 82 k_X12_number false [.ref 0, .int (0 : Int32), .int (((mPS X b.1) 4 0) - (1 : Int32))] [] [.ref 0, .int len, .int (nI b.2.1), .int mk, .int ((mPS X b.1) 0 4), mJ, mJ] (mPS X b.1) o 0 0 1))
    rw [mPS_5, mPS_f X b.1 (j := 2) (by decide) (by decide) (by decide), mPS_4, eX2, nI_leI (by omega) (by have := hb.1; omega)]
    exact ⟨fun _ => kk X mk hR, fun q => ⟨fun _ => kk X mk hR, fun z => absurd (show n ≤ b.1.1 by have := hf q; omega) z⟩⟩
  | succ f IH =>
    intro b X mk hf hb hR hmk kk
    have eX2 : X 0 2 = nI n := by rw [hR.2.1]; exact hs
    have eX4 : X 4 0 = nI N := by rw [hR.1 4 (by decide) (by omega)]; exact h4
    have eX1 : X 1 = X0 1 := hR.1 1 (by decide) (by omega)
    have hb1 := hb.1
    refine mGoOn (mOk (by decide)) rfl [48,110,162,169] 400 ?_
    show (¬ ((mPS X b.1) 0 5) = 0 → mWB l g d k_X12_book Φ 0 0 169 [.ref 0, .int len, .int (nI b.2.1), .int mk, mJ, mJ, mJ] [] (mPS X b.1) o 0 0) ∧ (((mPS X b.1) 0 5) = 0 → (((mPS X b.1) 0 2) ≤ ((mPS X b.1) 0 4) → mWB l g d k_X12_book Φ 0 0 169 [.ref 0, .int len, .int (nI b.2.1), .int mk, mJ, mJ, mJ] [] (mPS X b.1) o 0 0) ∧ (¬ ((mPS X b.1) 0 2) ≤ ((mPS X b.1) 0 4) → True ∧ mCal l g d k_X12_book Φ 0 0 _ 82 k_X12_number false [.ref 0, .int (0 : Int32), .int (((mPS X b.1) 4 0) - (1 : Int32))] [] [.ref 0, .int len, .int (nI b.2.1), .int mk, .int ((mPS X b.1) 0 4), mJ, mJ] (mPS X b.1) o 0 0 1))
    rw [mPS_5, mPS_f X b.1 (j := 2) (by decide) (by decide) (by decide), mPS_4, eX2, mPS_o X b.1 (x := 4) (by decide), eX4, nI_leI (by omega) (by omega)]
    refine ⟨fun z => ?_, fun z => ⟨fun z2 => ?_, fun z2 => ?_⟩⟩
    · rw [bkF_no (fun y => z y.1)] at kk; exact kk X mk hR
    · rw [bkF_no (fun y => by omega)] at kk; exact kk X mk hR
    · rw [bkF_yes ⟨z, by omega⟩] at kk
      have hnum := r_number (l := l) (g := g) (d := d - 1) X b.1 eX2 (by omega) hb1 (by omega) 0 (nI N - 1)
      rw [eX1] at hnum
      have hk := bk1_ok (T := X0 1) (n := n) hN hb
      have hp1 := pNum_ok (T := X0 1) (n := n) (lo := 0) (hi := nI N - 1) (p := b.1) hb1
      have e1p : b1p (X0 1) n N b = ifp ((pNum (X0 1) n 0 (nI N - 1) b.1).2.2.1 = 0 ∧ bTd b (pNum (X0 1) n 0 (nI N - 1) b.1).1) (pWr 2 (nI b.1.1) (pNum (X0 1) n 0 (nI N - 1) b.1).2) (pNum (X0 1) n 0 (nI N - 1) b.1).2 := rfl
      have ebk : bk1 (X0 1) n N b = ifp ((b2p (X0 1) n N b).2.1 = 0) (pBl (X0 1) n (b2p (X0 1) n N b), b.2.1 + 1, upd b.2.2.1 b.2.1 (pNum (X0 1) n 0 (nI N - 1) b.1).1, upd b.2.2.2 b.2.1 (pNum (X0 1) n 0 23 (b1p (X0 1) n N b)).1) (pBl (X0 1) n (b2p (X0 1) n N b), b.2) := rfl
      have e2p : b2p (X0 1) n N b = pSgn (X0 1) n 59 (pNum (X0 1) n 0 23 (b1p (X0 1) n N b)).2 := rfl
      have hb1p : (b1p (X0 1) n N b).1 ≤ n := by
        rw [e1p]
        by_cases y : (pNum (X0 1) n 0 (nI N - 1) b.1).2.2.1 = 0 ∧ bTd b (pNum (X0 1) n 0 (nI N - 1) b.1).1
        · rw [ifp_t y, (pWr_ok (by decide)).1]; exact hp1.1
        · rw [ifp_f y]; exact hp1.1
      refine ⟨trivial, fCi htr hnum (by omega) ?_⟩
      generalize hr1 : pNum (X0 1) n 0 (nI N - 1) b.1 = r1 at hk hp1 e1p ebk
      have k162 : ∀ X' v h mk', RBk X0 (bk1 (X0 1) n N b) X' → (∀ v, v < 32 → (hB mk' v ↔ bTd (bk1 (X0 1) n N b) (nI v))) → mWB l g d k_X12_book Φ 0 0 162 [.ref 0, .int len, .int (nI (bk1 (X0 1) n N b).2.1), .int mk', .int (nI b.1.1), .int v, .int h] [] (mPS X' (b2p (X0 1) n N b)) o 0 0 := by
        intro X' v h mk' hR' hmk'
        have eX2' : X' 0 2 = nI n := by rw [hR'.2.1]; exact hs
        have eX1' : X' 1 = X0 1 := hR'.1 1 (by decide) (by omega)
        have e1 : (bk1 (X0 1) n N b).1 = pBl (X0 1) n (b2p (X0 1) n N b) := by
          rw [ebk]
          by_cases y : (b2p (X0 1) n N b).2.1 = 0
          · rw [ifp_t y]
          · rw [ifp_f y]
        have hle : (b2p (X0 1) n N b).1 ≤ n := by
          rw [e2p]
          exact (pSgn_ok (by decide) (pNum_ok hb1p).1).1
        refine mGoOn (mOk (by decide)) rfl [48] 400 ?_
        show True ∧ mCal l g d k_X12_book Φ 0 0 _ 163 k_X12_blanks false [.ref 0] [] [.ref 0, .int len, .int (nI (bk1 (X0 1) n N b).2.1), .int mk', .int (nI b.1.1), .int v, .int h] (mPS X' (b2p (X0 1) n N b)) o 0 0 0
        have hbl := q_blanks (l := l) (g := g) (d := d - 1) X' (b2p (X0 1) n N b) eX2' (by omega) (by omega) (by omega)
        rw [eX1', ← e1] at hbl
        refine ⟨trivial, fCv htr hbl (by omega) ?_⟩
        exact mWB_wk (IH (bk1 (X0 1) n N b) X' mk' (fun y => by have := hk.2.1 y; have := hf z; omega) hk.1 hR' hmk' kk) ⟨Or.inr rfl, Or.inr rfl, Or.inr rfl, Or.inr rfl, Or.inl rfl, Or.inl rfl, Or.inl rfl, trivial⟩
      have k110 : ∀ v, v = r1.1 → mWB l g d k_X12_book Φ 0 0 110 [.ref 0, .int len, .int (nI b.2.1), .int mk, .int (nI b.1.1), .int v, mJ] [] (mPS X (b1p (X0 1) n N b)) o 0 0 := by
        rintro v rfl
        refine mGoOn (mOk (by decide)) rfl [48,162,169] 400 ?_
        show True ∧ mCal l g d k_X12_book Φ 0 0 _ 114 k_X12_number false [.ref 0, .int (0 : Int32), .int (23 : Int32)] [] [.ref 0, .int len, .int (nI b.2.1), .int mk, .int (nI b.1.1), .int r1.1, mJ] (mPS X (b1p (X0 1) n N b)) o 0 0 1
        have hnum2 := r_number (l := l) (g := g) (d := d - 1) X (b1p (X0 1) n N b) eX2 (by omega) hb1p (by omega) 0 23
        rw [eX1] at hnum2
        refine ⟨trivial, fCi htr hnum2 (by omega) ?_⟩
        show True ∧ mCal l g d k_X12_book Φ 0 0 _ 122 k_X12_sign false [.ref 0, .int (59 : Int32)] [] [.ref 0, .int len, .int (nI b.2.1), .int mk, .int (nI b.1.1), .int r1.1, .int ((pNum (X0 1) n 0 23 (b1p (X0 1) n N b)).1)] (mPS X (pNum (X0 1) n 0 23 (b1p (X0 1) n N b)).2) o 0 0 0
        have hsg := r_sign (l := l) (g := g) (d := d - 1) X (pNum (X0 1) n 0 23 (b1p (X0 1) n N b)).2 eX2 (by omega) (pNum_ok hb1p).1 (by omega) 59
        rw [eX1, ← e2p] at hsg
        refine ⟨trivial, fCv htr hsg (by omega) ?_⟩
        generalize hr2 : (pNum (X0 1) n 0 23 (b1p (X0 1) n N b)).1 = h at ebk hk
        show (¬ ((mPS X (b2p (X0 1) n N b)) 0 5) = 0 → mWB l g d k_X12_book Φ 0 0 162 [.ref 0, .int len, .int (nI b.2.1), .int mk, .int (nI b.1.1), .int r1.1, .int h] [] (mPS X (b2p (X0 1) n N b)) o 0 0) ∧ (((mPS X (b2p (X0 1) n N b)) 0 5) = 0 → mReq (mInB (nI b.2.1) 9) (mReq (mIsB (mRF 401 ((nI b.2.1).toNatClampNeg)) 1) (mReq (mInB (0 : Int32) (mLn (mRF 401 ((nI b.2.1).toNatClampNeg)))) (mReq (mInB (nI b.2.1) 9) (mReq (mIsB (mRF 401 ((nI b.2.1).toNatClampNeg)) 1) (mReq (mInB (1 : Int32) (mLn (mRF 401 ((nI b.2.1).toNatClampNeg)))) (mWB l g d k_X12_book Φ 0 0 162 [.ref 0, .int len, .int ((nI b.2.1) + (1 : Int32)), .int (mk ||| (jshl (1 : Int32) r1.1)), .int (nI b.1.1), .int r1.1, .int h] [] (mset (mset (mPS X (b2p (X0 1) n N b)) (mRF 401 ((nI b.2.1).toNatClampNeg)) 0 r1.1) (mRF 401 ((nI b.2.1).toNatClampNeg)) 1 h) o 0 0)))))))
        rw [mPS_5]
        refine ⟨fun y => ?_, fun y => ?_⟩
        · rw [ifp_f y] at ebk
          rw [ebk] at k162
          exact k162 X r1.1 h mk hR hmk
        · rw [ifp_t y] at ebk
          obtain ⟨g1, g2, g3, g4, g5⟩ := hk.2.2 y
          obtain ⟨v, hv, ev⟩ := g2
          rw [ebk] at k162
          rw [mIn_ok (show b.2.1 < 9 by omega) (by decide), nI_cl (by omega), rf_401, sB_4 (by omega), sL_4 (by omega), nI_1, mPS_set _ _ (by omega), mPS_set _ _ (by omega), ev]
          show mWB l g d k_X12_book Φ 0 0 162 [.ref 0, .int len, .int (nI (b.2.1 + 1)), .int (mk ||| jshl 1 (nI v)), .int (nI b.1.1), .int (nI v), .int h] [] (mPS (mset (mset X (402 + b.2.1) 0 (nI v)) (402 + b.2.1) 1 h) (b2p (X0 1) n N b)) o 0 0
          rw [ev] at k162 g4
          refine k162 _ (nI v) h _ ⟨fun a h1 h2 => ?_, fun i => ?_, fun t ht => ?_⟩ (fun u hu => ?_)
          · rw [mset_ne _ _ _ (by omega), mset_ne _ _ _ (by omega)]; exact hR.1 a h1 h2
          · rw [mset_ne _ _ _ (by omega), mset_ne _ _ _ (by omega)]; exact hR.2.1 i
          · show _ = upd b.2.2.1 b.2.1 (nI v) t ∧ _ = upd b.2.2.2 b.2.1 h t
            rw [upd_at, upd_at]
            by_cases e : t = b.2.1
            · subst e
              rw [if_pos rfl, if_pos rfl, mset_eq, pk_un (by decide), mset_eq, pk_us, pk_us]
              exact ⟨rfl, rfl⟩
            · have ht2 : t < b.2.1 := by
                have : t < b.2.1 + 1 := ht
                omega
              rw [if_neg e, if_neg e, mset_ne _ _ _ (by omega), mset_ne _ _ _ (by omega)]
              exact hR.2.2 t ht2
          · rw [hB_or, hmk u hu, hB_sh (by omega) hu]
            constructor
            · rintro (⟨t, ht, et⟩ | rfl)
              · exact ⟨t, Nat.lt_succ_of_lt ht, by show upd b.2.2.1 b.2.1 (nI v) t = _; rw [upd_at, if_neg (by omega)]; exact et⟩
              · exact ⟨b.2.1, Nat.lt_succ_self _, by show upd b.2.2.1 b.2.1 _ b.2.1 = _; rw [upd_at, if_pos rfl]⟩
            · rintro ⟨t, ht, et⟩
              have ht2 : t < b.2.1 + 1 := ht
              have et2 : upd b.2.2.1 b.2.1 (nI v) t = nI u := et
              rw [upd_at] at et2
              by_cases e : t = b.2.1
              · rw [if_pos e, nI_eq (by omega) (by omega)] at et2
                exact Or.inr et2.symm
              · rw [if_neg e] at et2
                exact Or.inl ⟨t, by omega, et2⟩
      show (¬ ((mPS X r1.2) 0 5) = 0 → mWB l g d k_X12_book Φ 0 0 110 [.ref 0, .int len, .int (nI b.2.1), .int mk, .int (nI b.1.1), .int r1.1, mJ] [] (mPS X r1.2) o 0 0) ∧ (((mPS X r1.2) 0 5) = 0 → mCal l g d k_X12_book Φ 0 0 _ 97 k_X12_has false [.int mk, .int r1.1] [] [.ref 0, .int len, .int (nI b.2.1), .int mk, .int (nI b.1.1), .int r1.1, mJ] (mPS X r1.2) o 0 0 1)
      rw [mPS_5]
      refine ⟨fun y => ?_, fun y => ?_⟩
      · rw [ifp_f (fun u => y u.1)] at e1p
        rw [e1p] at k110
        exact k110 _ rfl
      · obtain ⟨v, hv, ev⟩ := bound_in (by omega) (hp1.2.1 y).2.1
        rw [ev]
        refine fCi htr (q_has mk (k := v) (by omega) _) (by omega) ?_
        show ((pI (hB mk v)) = 0 → mWB l g d k_X12_book Φ 0 0 110 [.ref 0, .int len, .int (nI b.2.1), .int mk, .int (nI b.1.1), .int (nI v), mJ] [] (mPS X r1.2) o 0 0) ∧ (¬ (pI (hB mk v)) = 0 → True ∧ mCal l g d k_X12_book Φ 0 0 _ 107 k_X12_wrong false [.ref 0, .int (2 : Int32), .int (nI b.1.1)] [] [.ref 0, .int len, .int (nI b.2.1), .int mk, .int (nI b.1.1), .int (nI v), mJ] (mPS X r1.2) o 0 0 0)
        rw [ev] at e1p k110
        refine ⟨fun u => ?_, fun u => ⟨trivial, fCv htr (q_wrong 2 (nI b.1.1) X r1.2) (by omega) ?_⟩⟩
        · rw [ifp_f (fun x => pI_0.mp u ((hmk v (by omega)).mpr x.2))] at e1p
          rw [e1p] at k110
          exact k110 _ rfl
        · rw [ifp_t ⟨y, (hmk v (by omega)).mp (pI_1.mp u)⟩] at e1p
          rw [e1p] at k110
          exact k110 _ rfl
end R27
