set_option maxRecDepth 100000
def cp3 (x : Int32) : Int32 := if x < 1000 then x else 1000
noncomputable def dg3 (T : Nat → Int32) (n : Nat) : Nat → Nat → Int32 → Nat × Int32
  | 0, i, v => (i, v)
  | f + 1, i, v => ifp (isDg (bAt T n i)) (dg3 T n f (i + 1) (cp3 (v * 10 + bAt T n i - 48))) (i, v)
theorem dg3_no {T : Nat → Int32} {n f i : Nat} {v : Int32} (h : ¬ isDg (bAt T n i)) : dg3 T n f i v = (i, v) := by
  cases f with
  | zero => rfl
  | succ f => exact ifp_f h
theorem dg3_yes {T : Nat → Int32} {n f i : Nat} {v : Int32} (h : isDg (bAt T n i)) : dg3 T n (f + 1) i v = dg3 T n f (i + 1) (cp3 (v * 10 + bAt T n i - 48)) := ifp_t h
noncomputable def xNf (lo hi : Int32) (s : XS) (r : Nat × Int32) : Int32 × XS := ifp (lo ≤ r.2 ∧ r.2 ≤ hi) (r.2, (r.1, s.2)) (0, xRf 2 (r.1, s.2))
noncomputable def xNm (T : Nat → Int32) (n : Nat) (lo hi : Int32) (s : XS) : Int32 × XS := ifp (s.2.2.1 = 0) (ifp (isDg (bAt T n (skp T n s.1))) (xNf lo hi (xLk T n s) (dg3 T n (n - skp T n s.1) (skp T n s.1) 0)) (0, xRf 1 (xLk T n s))) (0, s)
noncomputable def xWd (T : Nat → Int32) (n : Nat) (s : XS) : XS := (swd T n (n - skp T n s.1) (skp T n s.1), skp T n s.1, s.2.2)
section X21
variable {l : Launch} {g : mG} {d : Nat} {T : Nat → Int32} {n : Nat} {z : Int32}
theorem x_isDigit (m : Mm) (c : Int32) : mFi l g d k_X7_isDigit [.int c] m (pI (isDg c)) m := by
  refine nFi 0 rfl rfl rfl (by decide) rfl (fun htr o Φ hΦ => mGoOn (mOk (by decide)) rfl [] 400 ?_)
  show (c < (48 : Int32) → ((0 : Int32) = 0 ∨ (0 : Int32) = 1) ∧ Φ (.inl (some (.int (0 : Int32)))) m o ∧ 0 ≤ 0 ∧ 0 ≤ 0) ∧ (¬ c < (48 : Int32) → ((57 : Int32) < c → ((0 : Int32) = 0 ∨ (0 : Int32) = 1) ∧ Φ (.inl (some (.int (0 : Int32)))) m o ∧ 0 ≤ 0 ∧ 0 ≤ 0) ∧ (¬ (57 : Int32) < c → ((1 : Int32) = 0 ∨ (1 : Int32) = 1) ∧ Φ (.inl (some (.int (1 : Int32)))) m o ∧ 0 ≤ 0 ∧ 0 ≤ 0))
  unfold isDg at hΦ
  refine ⟨fun q => ?_, fun q => ⟨fun q2 => ?_, fun q2 => ?_⟩⟩
  · rw [pI_f (fun y => Int32.not_le.mpr q y.1)] at hΦ; exact ⟨Or.inl rfl, eR hΦ⟩
  · rw [pI_f (fun y => Int32.not_le.mpr q2 y.2)] at hΦ; exact ⟨Or.inl rfl, eR hΦ⟩
  · rw [pI_t ⟨Int32.not_lt.mp q, Int32.not_lt.mp q2⟩] at hΦ; exact ⟨Or.inr rfl, eR hΦ⟩
theorem x_isLetter (m : Mm) (c : Int32) : mFi l g d k_X7_isLetter [.int c] m (pI (isSm c)) m := by
  refine nFi 0 rfl rfl rfl (by decide) rfl (fun htr o Φ hΦ => mGoOn (mOk (by decide)) rfl [] 400 ?_)
  show (c < (97 : Int32) → ((0 : Int32) = 0 ∨ (0 : Int32) = 1) ∧ Φ (.inl (some (.int (0 : Int32)))) m o ∧ 0 ≤ 0 ∧ 0 ≤ 0) ∧ (¬ c < (97 : Int32) → ((122 : Int32) < c → ((0 : Int32) = 0 ∨ (0 : Int32) = 1) ∧ Φ (.inl (some (.int (0 : Int32)))) m o ∧ 0 ≤ 0 ∧ 0 ≤ 0) ∧ (¬ (122 : Int32) < c → ((1 : Int32) = 0 ∨ (1 : Int32) = 1) ∧ Φ (.inl (some (.int (1 : Int32)))) m o ∧ 0 ≤ 0 ∧ 0 ≤ 0))
  unfold isSm at hΦ
  refine ⟨fun q => ?_, fun q => ⟨fun q2 => ?_, fun q2 => ?_⟩⟩
  · rw [pI_f (fun y => Int32.not_le.mpr q y.1)] at hΦ; exact ⟨Or.inl rfl, eR hΦ⟩
  · rw [pI_f (fun y => Int32.not_le.mpr q2 y.2)] at hΦ; exact ⟨Or.inl rfl, eR hΦ⟩
  · rw [pI_t ⟨Int32.not_lt.mp q, Int32.not_lt.mp q2⟩] at hΦ; exact ⟨Or.inr rfl, eR hΦ⟩
theorem x_number {s : XS} {m : Mm} (h : tx T n z s m) (hn : n ≤ 600) (hs : s.1 ≤ n) (lo hi : Int32) (hd : 2 ≤ d) : mHi l g d k_X7_number [.ref 587, .int lo, .int hi] m (fun x m2 => x = (xNm T n lo hi s).1 ∧ eT m m2 ∧ tx T n z (xNm T n lo hi s).2 m2) := by
  refine nBi 1 rfl rfl rfl (by decide) rfl (fun htr o Φ hΦ => mGoOn (mOk (by decide)) rfl [28] 400 ?_)
  show True ∧ mCal l g d k_X7_number Φ 0 0 _ 1 k_X7_good false [.ref 587] [] [.ref 587, .int lo, .int hi, mJ] m o 0 0 1
  refine ⟨trivial, fCi htr (x_good h) (by omega) ?_⟩
  show (¬ (pI (s.2.2.1 = 0)) = 0 → True ∧ mCal l g d k_X7_number Φ 0 0 _ 10 k_X7_look false [.ref 587] [] [.ref 587, .int lo, .int hi, mJ] m o 0 0 1) ∧ ((pI (s.2.2.1 = 0)) = 0 → Φ (.inl (some (.int (0 : Int32)))) m o ∧ 0 ≤ 0 ∧ 0 ≤ 0)
  refine ⟨fun q => ⟨trivial, nCi htr (x_look h hn hs (by omega)) (by omega) ?_⟩, fun q => eR (hΦ _ _ ?_)⟩
  · have q := pI_1.mp q
    rintro x m2 ⟨rfl, h1, h2⟩
    show mCal l g d k_X7_number Φ 0 0 _ 13 k_X7_isDigit false [.int (bAt T n (skp T n s.1))] [] [.ref 587, .int lo, .int hi, mJ] m2 o 0 0 1
    refine fCi htr (x_isDigit m2 _) (by omega) ?_
    show (¬ (pI (isDg (bAt T n (skp T n s.1)))) = 0 → mWB l g d k_X7_number Φ 0 0 28 [.ref 587, .int lo, .int hi, .int (0 : Int32)] [] m2 o 0 0) ∧ ((pI (isDg (bAt T n (skp T n s.1)))) = 0 → True ∧ mCal l g d k_X7_number Φ 0 0 _ 21 k_X7_refuse false [.ref 587, .int (1 : Int32)] [] [.ref 587, .int lo, .int hi, mJ] m2 o 0 0 0)
    refine ⟨fun y => ?_, fun y => ⟨trivial, nCv htr (x_refuse h2 1) (by omega) ?_⟩⟩
    · have y := pI_1.mp y
      have e : xNm T n lo hi s = xNf lo hi (xLk T n s) (dg3 T n (n - skp T n s.1) (skp T n s.1) 0) := by unfold xNm; rw [ifp_t q, ifp_t y]
      rw [e] at hΦ
      have k95 : ∀ (i : Nat) (v : Int32) (m3 : Mm), eT m m3 → tx T n z (i, (xLk T n s).2) m3 → (∀ x m2, x = (xNf lo hi (xLk T n s) (i, v)).1 ∧ eT m m2 ∧ tx T n z (xNf lo hi (xLk T n s) (i, v)).2 m2 → Φ (.inl (some (.int x))) m2 o) → mWB l g d k_X7_number Φ 0 0 95 [.ref 587, .int lo, .int hi, .int v] [] m3 o 0 0 := by
        intro i v m3 h3 h4 hΦ
        refine mGoOn (mOk (by decide)) rfl [] 400 ?_
        show mCal l g d k_X7_number Φ 0 0 _ 98 k_X11_within true [.int v, .int lo, .int hi] [] [.ref 587, .int lo, .int hi, .int v] m3 o 0 0 1
        refine fCi htr (x_within m3 v lo hi) (by omega) ?_
        show (¬ (pI (lo ≤ v ∧ v ≤ hi)) = 0 → Φ (.inl (some (.int v))) m3 o ∧ 0 ≤ 0 ∧ 0 ≤ 0) ∧ ((pI (lo ≤ v ∧ v ≤ hi)) = 0 → True ∧ mCal l g d k_X7_number Φ 0 0 _ 106 k_X7_refuse false [.ref 587, .int (2 : Int32)] [] [.ref 587, .int lo, .int hi, .int v] m3 o 0 0 0)
        refine ⟨fun u => ?_, fun u => ⟨trivial, nCv htr (x_refuse h4 2) (by omega) ?_⟩⟩
        · have e2 : xNf lo hi (xLk T n s) (i, v) = (v, (i, (xLk T n s).2)) := ifp_t (pI_1.mp u)
          rw [e2] at hΦ
          exact eR (hΦ _ _ ⟨rfl, h3, h4⟩)
        · have e2 : xNf lo hi (xLk T n s) (i, v) = (0, xRf 2 (i, (xLk T n s).2)) := ifp_f (pI_0.mp u)
          rw [e2] at hΦ
          rintro m4 ⟨h5, h6⟩
          show Φ (.inl (some (.int (0 : Int32)))) m4 o ∧ 0 ≤ 0 ∧ 0 ≤ 0
          exact eR (hΦ _ _ ⟨rfl, eT_trans h3 h5, h6⟩)
      have key : ∀ (f i : Nat) (v : Int32) (m3 : Mm), n - i ≤ f → i ≤ n → eT m m3 → tx T n z (i, (xLk T n s).2) m3 → (∀ x m2, x = (xNf lo hi (xLk T n s) (dg3 T n f i v)).1 ∧ eT m m2 ∧ tx T n z (xNf lo hi (xLk T n s) (dg3 T n f i v)).2 m2 → Φ (.inl (some (.int x))) m2 o) → mWB l g d k_X7_number Φ 0 0 28 [.ref 587, .int lo, .int hi, .int v] [] m3 o 0 0 := by
        intro f
        induction f with
        | zero =>
          intro i v m3 hf hi2 h3 h4 hΦ
          refine mGoOn (mOk (by decide)) rfl [28,95] 400 ?_
          show ((m3 587 4) ≤ (m3 587 5) → mWB l g d k_X7_number Φ 0 0 95 [.ref 587, .int lo, .int hi, .int v] [] m3 o 0 0) ∧ (¬ (m3 587 4) ≤ (m3 587 5) → mCal l g d k_X7_number Φ 0 0 _ 47 k_X11_at true [.ref 588, .int (m3 587 5)] [] [.ref 587, .int lo, .int hi, .int v] m3 o 0 0 1)
          have e5 : m3 587 5 = nI i := h4.2.2.2.1.1
          rw [e5, h4.2.1, nI_leI (by omega) (by omega)]
          exact ⟨fun _ => k95 i v m3 h3 h4 hΦ, fun u => absurd (show n ≤ i by omega) u⟩
        | succ f IH =>
          intro i v m3 hf hi2 h3 h4 hΦ
          refine mGoOn (mOk (by decide)) rfl [28,95] 400 ?_
          show ((m3 587 4) ≤ (m3 587 5) → mWB l g d k_X7_number Φ 0 0 95 [.ref 587, .int lo, .int hi, .int v] [] m3 o 0 0) ∧ (¬ (m3 587 4) ≤ (m3 587 5) → mCal l g d k_X7_number Φ 0 0 _ 47 k_X11_at true [.ref 588, .int (m3 587 5)] [] [.ref 587, .int lo, .int hi, .int v] m3 o 0 0 1)
          have e5 : m3 587 5 = nI i := h4.2.2.2.1.1
          rw [e5, h4.2.1, nI_leI (by omega) (by omega)]
          refine ⟨fun u => k95 i v m3 h3 h4 ?_, fun u => fCi htr (x_at m3 (a := 588) (n := 600) rfl rfl (by decide) (k := i) (by omega)) (by omega) ?_⟩
          · rw [dg3_no (fun y => by have := dg_lt y; omega)] at hΦ; exact hΦ
          · have hb : bAt T n i = T i := if_pos (by omega)
            rw [h4.1, ← hb]
            show mCal l g d k_X7_number Φ 0 0 _ 50 k_X7_isDigit false [.int (bAt T n i)] [] [.ref 587, .int lo, .int hi, .int v] m3 o 0 0 1
            refine fCi htr (x_isDigit m3 _) (by omega) ?_
            show ((pI (isDg (bAt T n i))) = 0 → mWB l g d k_X7_number Φ 0 0 95 [.ref 587, .int lo, .int hi, .int v] [] m3 o 0 0) ∧ (¬ (pI (isDg (bAt T n i))) = 0 → mCal l g d k_X7_number Φ 0 0 _ 71 k_X11_at true [.ref 588, .int (m3 587 5)] [.int (v * (10 : Int32)), .int (1000 : Int32)] [.ref 587, .int lo, .int hi, .int v] m3 o 0 0 1)
            rw [e5]
            refine ⟨fun w => k95 i v m3 h3 h4 ?_, fun w => fCi htr (x_at m3 (a := 588) (n := 600) rfl rfl (by decide) (k := i) (by omega)) (by omega) ?_⟩
            · rw [dg3_no (pI_0.mp w)] at hΦ; exact hΦ
            · rw [h4.1, ← hb]
              show 1 ≤ d ∧ (([] : List Value).map fun v => v.category).sum ≤ 8 ∧ 0 ≤ 0 ∧ 0 ≤ 0 ∧ ((Value.ref 587).category = 1 ∧ (mWB l g d k_X7_number Φ 0 0 28 [.ref 587, .int lo, .int hi, .int (if (((v * 10) + (bAt T n i)) - (48 : Int32)) < (1000 : Int32) then (((v * 10) + (bAt T n i)) - (48 : Int32)) else (1000 : Int32))] [] (mset m3 587 5 ((m3 587 5) + (1 : Int32))) o 0 0))
              rw [e5, nI_1]
              refine ⟨by omega, by decide, Nat.le_refl _, Nat.le_refl _, rfl, ?_⟩
              rw [dg3_yes (pI_1.mp w)] at hΦ
              exact IH (i + 1) _ _ (by omega) (by omega) (eT_set h3 _ _) (tx_5 h4 (i + 1)) hΦ
      exact key (n - skp T n s.1) (skp T n s.1) 0 m2 (Nat.le_refl _) (skp_le (n - s.1) s.1 (Nat.le_refl _) hs).1 h1 h2 hΦ
    · have e : xNm T n lo hi s = (0, xRf 1 (xLk T n s)) := by unfold xNm; rw [ifp_t q, ifp_f (pI_0.mp y)]
      rw [e] at hΦ
      rintro m3 ⟨h3, h4⟩
      show Φ (.inl (some (.int (0 : Int32)))) m3 o ∧ 0 ≤ 0 ∧ 0 ≤ 0
      exact eR (hΦ _ _ ⟨rfl, eT_trans h1 h3, h4⟩)
  · have e : xNm T n lo hi s = (0, s) := ifp_f (pI_0.mp q)
    rw [e]
    exact ⟨rfl, eT_refl _, h⟩
theorem x_word {s : XS} {m : Mm} (h : tx T n z s m) (hn : n ≤ 600) (hs : s.1 ≤ n) (hd : 2 ≤ d) : mHv l g d k_X7_word [.ref 587] m (fun m2 => eT m m2 ∧ tx T n z (xWd T n s) m2) := by
  refine nBv 0 rfl rfl rfl (by decide) rfl (fun htr o Φ hΦ => mGoOn (mOk (by decide)) rfl [5] 400 ?_)
  show True ∧ mCal l g d k_X7_word Φ 0 0 _ 1 k_X7_look false [.ref 587] [] [.ref 587] m o 0 0 1
  refine ⟨trivial, nCi htr (x_look h hn hs (by omega)) (by omega) ?_⟩
  rintro x m2 ⟨rfl, h1, h2⟩
  show (Value.int (bAt T n (skp T n s.1))).category = 1 ∧ (mWB l g d k_X7_word Φ 0 0 5 [.ref 587] [] m2 o 0 0)
  refine ⟨rfl, ?_⟩
  have key : ∀ (f i : Nat) (m3 : Mm), n - i ≤ f → i ≤ n → eT m m3 → tx T n z (i, (xLk T n s).2) m3 → (∀ m2, eT m m2 ∧ tx T n z (swd T n f i, (xLk T n s).2) m2 → Φ (.inl none) m2 o) → mWB l g d k_X7_word Φ 0 0 5 [.ref 587] [] m3 o 0 0 := by
    intro f
    induction f with
    | zero =>
      intro i m3 hf hi2 h3 h4 hΦ
      refine mGoOn (mOk (by decide)) rfl [5] 400 ?_
      show ((m3 587 4) ≤ (m3 587 5) → Φ (.inl none) m3 o ∧ 0 ≤ 0 ∧ 0 ≤ 0) ∧ (¬ (m3 587 4) ≤ (m3 587 5) → mCal l g d k_X7_word Φ 0 0 _ 24 k_X11_at true [.ref 588, .int (m3 587 5)] [] [.ref 587] m3 o 0 0 1)
      have e5 : m3 587 5 = nI i := h4.2.2.2.1.1
      rw [e5, h4.2.1, nI_leI (by omega) (by omega)]
      exact ⟨fun _ => eR (hΦ _ ⟨h3, h4⟩), fun u => absurd (show n ≤ i by omega) u⟩
    | succ f IH =>
      intro i m3 hf hi2 h3 h4 hΦ
      refine mGoOn (mOk (by decide)) rfl [5] 400 ?_
      show ((m3 587 4) ≤ (m3 587 5) → Φ (.inl none) m3 o ∧ 0 ≤ 0 ∧ 0 ≤ 0) ∧ (¬ (m3 587 4) ≤ (m3 587 5) → mCal l g d k_X7_word Φ 0 0 _ 24 k_X11_at true [.ref 588, .int (m3 587 5)] [] [.ref 587] m3 o 0 0 1)
      have e5 : m3 587 5 = nI i := h4.2.2.2.1.1
      rw [e5, h4.2.1, nI_leI (by omega) (by omega)]
      refine ⟨fun u => ?_, fun u => fCi htr (x_at m3 (a := 588) (n := 600) rfl rfl (by decide) (k := i) (by omega)) (by omega) ?_⟩
      · rw [swd_no (fun y => by have := sm_lt y; omega)] at hΦ; exact eR (hΦ _ ⟨h3, h4⟩)
      · have hb : bAt T n i = T i := if_pos (by omega)
        rw [h4.1, ← hb]
        show mCal l g d k_X7_word Φ 0 0 _ 27 k_X7_isLetter false [.int (bAt T n i)] [] [.ref 587] m3 o 0 0 1
        refine fCi htr (x_isLetter m3 _) (by omega) ?_
        show ((pI (isSm (bAt T n i))) = 0 → Φ (.inl none) m3 o ∧ 0 ≤ 0 ∧ 0 ≤ 0) ∧ (¬ (pI (isSm (bAt T n i))) = 0 → (Value.ref 587).category = 1 ∧ (mWB l g d k_X7_word Φ 0 0 5 [.ref 587] [] (mset m3 587 5 ((m3 587 5) + (1 : Int32))) o 0 0))
        rw [e5, nI_1]
        refine ⟨fun w => ?_, fun w => ⟨rfl, ?_⟩⟩
        · rw [swd_no (pI_0.mp w)] at hΦ; exact eR (hΦ _ ⟨h3, h4⟩)
        · rw [swd_yes (pI_1.mp w)] at hΦ
          exact IH (i + 1) _ (by omega) (by omega) (eT_set h3 _ _) (tx_5 h4 (i + 1)) hΦ
  exact key (n - skp T n s.1) (skp T n s.1) m2 (Nat.le_refl _) (skp_le (n - s.1) s.1 (Nat.le_refl _) hs).1 h1 h2 hΦ
end X21
