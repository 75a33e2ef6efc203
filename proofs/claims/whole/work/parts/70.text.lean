set_option maxRecDepth 100000
/-! THE TEXT, in the class -/
/-- next, mark, kind, place -/
abbrev XS : Type := Nat × Nat × Int32 × Int32
/-- the class's text: its tape, its bytes, how many are fed, where it is read -/
def tx (T : Nat → Int32) (n : Nat) (z : Int32) (s : XS) (m : Mm) : Prop := m 588 = T ∧ m 587 4 = nI n ∧ m 587 1 = z ∧ (m 587 5 = nI s.1 ∧ m 587 6 = nI s.2.1) ∧ m 587 2 = s.2.2.1 ∧ m 587 3 = s.2.2.2
/-- all but the text is left -/
def eT (m m2 : Mm) : Prop := ∀ a, a ≠ 587 → m2 a = m a
theorem eT_refl (m : Mm) : eT m m := fun _ _ => rfl
theorem eT_trans {m m2 m3 : Mm} (h : eT m m2) (h2 : eT m2 m3) : eT m m3 := fun a ha => (h2 a ha).trans (h a ha)
theorem eT_set {m m2 : Mm} (h : eT m m2) (i : Nat) (v : Int32) : eT m (mset m2 587 i v) := fun a ha => by rw [mset_ne _ _ _ ha]; exact h a ha
def xLk (T : Nat → Int32) (n : Nat) (s : XS) : XS := ⟨skp T n s.1, skp T n s.1, s.2.2.1, s.2.2.2⟩
noncomputable def xRf (f : Int32) (s : XS) : XS := ifp (s.2.2.1 = 0) ⟨s.1, s.2.1, f, nI s.2.1⟩ s
def xPs (s : XS) : XS := ⟨s.1 + 1, s.2.1, s.2.2.1, s.2.2.2⟩
noncomputable def xSg (T : Nat → Int32) (n : Nat) (c : Int32) (s : XS) : XS := ifp (s.2.2.1 = 0) (ifp (bAt T n (skp T n s.1) = c) (xPs (xLk T n s)) (xRf 1 (xLk T n s))) s
section X20
variable {l : Launch} {g : mG} {d : Nat} {T : Nat → Int32} {n : Nat} {z : Int32}
theorem tx_5 {s : XS} {m : Mm} (h : tx T n z s m) (b : Nat) : tx T n z ⟨b, s.2.1, s.2.2.1, s.2.2.2⟩ (mset m 587 5 (nI b)) := by
  unfold tx
  rw [mset_ne _ _ _ (by decide), mset_eq, pk_un (by decide), pk_un (by decide), pk_us, pk_un (by decide), pk_un (by decide), pk_un (by decide)]
  exact ⟨h.1, h.2.1, h.2.2.1, ⟨rfl, h.2.2.2.1.2⟩, h.2.2.2.2⟩
theorem tx_6 {s : XS} {m : Mm} (h : tx T n z s m) (b : Nat) : tx T n z ⟨s.1, b, s.2.2.1, s.2.2.2⟩ (mset m 587 6 (nI b)) := by
  unfold tx
  rw [mset_ne _ _ _ (by decide), mset_eq, pk_un (by decide), pk_un (by decide), pk_un (by decide), pk_us, pk_un (by decide), pk_un (by decide)]
  exact ⟨h.1, h.2.1, h.2.2.1, ⟨h.2.2.2.1.1, rfl⟩, h.2.2.2.2⟩
theorem x_look {s : XS} {m : Mm} (h : tx T n z s m) (hn : n ≤ 600) (hs : s.1 ≤ n) (hd : 1 ≤ d) : mHi l g d k_X7_look [.ref 587] m (fun x m2 => x = bAt T n (skp T n s.1) ∧ eT m m2 ∧ tx T n z (xLk T n s) m2) := by
  refine nBi 0 rfl rfl rfl (by decide) rfl (fun htr o Φ hΦ => ?_)
  show mWB l g d k_X7_look Φ 0 0 0 [.ref 587] [] m o 0 0
  have key : ∀ (f i : Nat) (m2 : Mm), n - i ≤ f → i ≤ n → skp T n i = skp T n s.1 → eT m m2 → tx T n z ⟨i, s.2.1, s.2.2.1, s.2.2.2⟩ m2 → mWB l g d k_X7_look Φ 0 0 0 [.ref 587] [] m2 o 0 0 := by
    intro f
    have stop : ∀ (i : Nat) (m2 : Mm), i ≤ n → bAt T n i ≠ 32 → skp T n i = skp T n s.1 → eT m m2 → tx T n z ⟨i, s.2.1, s.2.2.1, s.2.2.2⟩ m2 → mWB l g d k_X7_look Φ 0 0 40 [.ref 587] [] m2 o 0 0 := by
      intro i m2 hi hb he e1 h2
      rw [skp_no hb] at he
      refine mGoOn (mOk (by decide)) rfl [] 400 ?_
      show (((mset m2 587 6 (m2 587 5)) 587 4) ≤ ((mset m2 587 6 (m2 587 5)) 587 5) → Φ (.inl (some (.int (-1 : Int32)))) (mset m2 587 6 (m2 587 5)) o ∧ 0 ≤ 0 ∧ 0 ≤ 0) ∧ (¬ ((mset m2 587 6 (m2 587 5)) 587 4) ≤ ((mset m2 587 6 (m2 587 5)) 587 5) → mCal l g d k_X7_look Φ 0 0 _ 67 k_X11_at true [.ref 588, .int ((mset m2 587 6 (m2 587 5)) 587 5)] [] [.ref 587] (mset m2 587 6 (m2 587 5)) o 0 0 1)
      have h3 := tx_6 h2 i
      have e5 : m2 587 5 = nI i := h2.2.2.2.1.1
      rw [e5]
      have h4 := eT_set e1 6 (nI i)
      generalize mset m2 587 6 (nI i) = m3 at h3 h4 ⊢
      have e5 : m3 587 5 = nI i := h3.2.2.2.1.1
      rw [e5, h3.2.1, nI_leI (by omega) (by omega)]
      have h5 : tx T n z (xLk T n s) m3 := by unfold xLk; rw [← he]; exact h3
      refine ⟨fun q => eR (hΦ _ _ ⟨?_, h4, h5⟩), fun q => fCi htr (x_at m3 (a := 588) (n := 600) rfl rfl (by decide) (k := i) (by omega)) hd ?_⟩
      · rw [← he, bAt_end q]
      · rw [h3.1]
        show Φ (.inl (some (.int (T i)))) m3 o ∧ 0 ≤ 0 ∧ 0 ≤ 0
        refine eR (hΦ _ _ ⟨?_, h4, h5⟩)
        rw [← he]
        unfold bAt
        rw [if_pos (by omega)]
    induction f with
    | zero =>
      intro i m2 hf hi he e1 h2
      have hb : bAt T n i ≠ 32 := by rw [bAt_end (by omega)]; decide
      refine mGoOn (mOk (by decide)) rfl [0,40] 400 ?_
      show ((m2 587 4) ≤ (m2 587 5) → mWB l g d k_X7_look Φ 0 0 40 [.ref 587] [] m2 o 0 0) ∧ (¬ (m2 587 4) ≤ (m2 587 5) → mCal l g d k_X7_look Φ 0 0 _ 19 k_X11_at true [.ref 588, .int (m2 587 5)] [] [.ref 587] m2 o 0 0 1)
      have e5 : m2 587 5 = nI i := h2.2.2.2.1.1
      rw [e5, h2.2.1, nI_leI (by omega) (by omega)]
      exact ⟨fun _ => stop i m2 hi hb he e1 h2, fun q => absurd (show n ≤ i by omega) q⟩
    | succ f IH =>
      intro i m2 hf hi he e1 h2
      refine mGoOn (mOk (by decide)) rfl [0,40] 400 ?_
      show ((m2 587 4) ≤ (m2 587 5) → mWB l g d k_X7_look Φ 0 0 40 [.ref 587] [] m2 o 0 0) ∧ (¬ (m2 587 4) ≤ (m2 587 5) → mCal l g d k_X7_look Φ 0 0 _ 19 k_X11_at true [.ref 588, .int (m2 587 5)] [] [.ref 587] m2 o 0 0 1)
      have e5 : m2 587 5 = nI i := h2.2.2.2.1.1
      rw [e5, h2.2.1, nI_leI (by omega) (by omega)]
      refine ⟨fun q => stop i m2 hi (by rw [bAt_end q]; decide) he e1 h2, fun q => fCi htr (x_at m2 (a := 588) (n := 600) rfl rfl (by decide) (k := i) (by omega)) hd ?_⟩
      have hb : bAt T n i = T i := if_pos (by omega)
      rw [h2.1, ← hb]
      show (¬ (bAt T n i) = (32 : Int32) → mWB l g d k_X7_look Φ 0 0 40 [.ref 587] [] m2 o 0 0) ∧ ((bAt T n i) = (32 : Int32) → (Value.ref 587).category = 1 ∧ (mWB l g d k_X7_look Φ 0 0 0 [.ref 587] [] (mset m2 587 5 ((m2 587 5) + (1 : Int32))) o 0 0))
      rw [e5, nI_1]
      refine ⟨fun q2 => stop i m2 hi q2 he e1 h2, fun q2 => ⟨rfl, ?_⟩⟩
      exact IH (i + 1) _ (by omega) (by omega) (by rw [← he, skp_yes q2]) (eT_set e1 _ _) (tx_5 h2 (i + 1))
  exact key (n - s.1) s.1 m (Nat.le_refl _) hs rfl (eT_refl _) h
theorem x_good {s : XS} {m : Mm} (h : tx T n z s m) : mFi l g d k_X7_good [.ref 587] m (pI (s.2.2.1 = 0)) m := by
  refine nFi 0 rfl rfl rfl (by decide) rfl (fun htr o Φ hΦ => mGoOn (mOk (by decide)) rfl [] 400 ?_)
  show (¬ (m 587 2) = 0 → ((0 : Int32) = 0 ∨ (0 : Int32) = 1) ∧ Φ (.inl (some (.int (0 : Int32)))) m o ∧ 0 ≤ 0 ∧ 0 ≤ 0) ∧ ((m 587 2) = 0 → ((1 : Int32) = 0 ∨ (1 : Int32) = 1) ∧ Φ (.inl (some (.int (1 : Int32)))) m o ∧ 0 ≤ 0 ∧ 0 ≤ 0)
  rw [h.2.2.2.2.1]
  refine ⟨fun q => ?_, fun q => ?_⟩
  · rw [pI_f q] at hΦ; exact ⟨Or.inl rfl, eR hΦ⟩
  · rw [pI_t q] at hΦ; exact ⟨Or.inr rfl, eR hΦ⟩
theorem x_pass {s : XS} {m : Mm} (h : tx T n z s m) : mHv l g d k_X7_pass [.ref 587] m (fun m2 => eT m m2 ∧ tx T n z (xPs s) m2) := by
  refine nBv 0 rfl rfl rfl (by decide) rfl (fun htr o Φ hΦ => mGoOn (mOk (by decide)) rfl [] 400 ?_)
  show (Value.ref 587).category = 1 ∧ (Φ (.inl none) (mset m 587 5 ((m 587 5) + (1 : Int32))) o ∧ 0 ≤ 0 ∧ 0 ≤ 0)
  rw [h.2.2.2.1.1, nI_1]
  exact ⟨rfl, eR (hΦ _ ⟨eT_set (eT_refl _) _ _, tx_5 h _⟩)⟩
theorem x_refuse {s : XS} {m : Mm} (h : tx T n z s m) (f : Int32) : mHv l g d k_X7_refuse [.ref 587, .int f] m (fun m2 => eT m m2 ∧ tx T n z (xRf f s) m2) := by
  refine nBv 0 rfl rfl rfl (by decide) rfl (fun htr o Φ hΦ => mGoOn (mOk (by decide)) rfl [] 400 ?_)
  show (¬ (m 587 2) = 0 → Φ (.inl none) m o ∧ 0 ≤ 0 ∧ 0 ≤ 0) ∧ ((m 587 2) = 0 → Φ (.inl none) (mset (mset m 587 2 f) 587 3 ((mset m 587 2 f) 587 6)) o ∧ 0 ≤ 0 ∧ 0 ≤ 0)
  rw [h.2.2.2.2.1, mset_eq, pk_un (by decide), h.2.2.2.1.2]
  unfold xRf at hΦ
  refine ⟨fun q => ?_, fun q => ?_⟩
  · rw [ifp_f q] at hΦ
    exact eR (hΦ _ ⟨eT_refl _, h⟩)
  · rw [ifp_t q] at hΦ
    refine eR (hΦ _ ⟨eT_set (eT_set (eT_refl _) _ _) _ _, ?_⟩)
    refine ⟨by rw [mset_ne _ _ _ (by decide), mset_ne _ _ _ (by decide)]; exact h.1, ?_, ?_, ⟨?_, ?_⟩, ?_, ?_⟩
    · rw [mset_at, if_neg (by decide), mset_at, if_neg (by decide)]; exact h.2.1
    · rw [mset_at, if_neg (by decide), mset_at, if_neg (by decide)]; exact h.2.2.1
    · rw [mset_at, if_neg (by decide), mset_at, if_neg (by decide)]; exact h.2.2.2.1.1
    · rw [mset_at, if_neg (by decide), mset_at, if_neg (by decide)]; exact h.2.2.2.1.2
    · rw [mset_at, if_neg (by decide), mset_at, if_pos ⟨rfl, rfl⟩]
    · rw [mset_at, if_pos ⟨rfl, rfl⟩]
theorem x_ended {s : XS} {m : Mm} (h : tx T n z s m) (hn : n ≤ 600) (hs : s.1 ≤ n) (hb : ∀ i, i < n → T i ≠ -1) (hd : 2 ≤ d) : mHi l g d k_X7_ended [.ref 587] m (fun x m2 => x = pI (n ≤ skp T n s.1) ∧ eT m m2 ∧ tx T n z (xLk T n s) m2) := by
  refine nBi 0 rfl rfl rfl (by decide) rfl (fun htr o Φ hΦ => mGoOn (mOk (by decide)) rfl [] 400 ?_)
  show True ∧ mCal l g d k_X7_ended Φ 0 0 _ 1 k_X7_look false [.ref 587] [] [.ref 587] m o 0 0 1
  refine ⟨trivial, nCi htr (x_look h hn hs (by omega)) (by omega) ?_⟩
  rintro x m2 ⟨rfl, h1, h2⟩
  show (¬ (bAt T n (skp T n s.1)) = (-1 : Int32) → ((0 : Int32) = 0 ∨ (0 : Int32) = 1) ∧ Φ (.inl (some (.int (0 : Int32)))) m2 o ∧ 0 ≤ 0 ∧ 0 ≤ 0) ∧ ((bAt T n (skp T n s.1)) = (-1 : Int32) → ((1 : Int32) = 0 ∨ (1 : Int32) = 1) ∧ Φ (.inl (some (.int (1 : Int32)))) m2 o ∧ 0 ≤ 0 ∧ 0 ≤ 0)
  refine ⟨fun q => ⟨Or.inl rfl, eR (hΦ _ _ ⟨?_, h1, h2⟩)⟩, fun q => ⟨Or.inr rfl, eR (hΦ _ _ ⟨?_, h1, h2⟩)⟩⟩
  · rw [pI_f (fun y => q (bAt_end y))]
  · rw [pI_t ?_]
    by_cases y : n ≤ skp T n s.1
    · exact y
    · unfold bAt at q
      rw [if_pos (by omega)] at q
      exact absurd q (hb _ (by omega))
theorem x_needSign {s : XS} {m : Mm} (h : tx T n z s m) (hn : n ≤ 600) (hs : s.1 ≤ n) (c : Int32) (hd : 2 ≤ d) : mHi l g d k_X7_needSign [.ref 587, .int c] m (fun x m2 => x = pI ((xSg T n c s).2.2.1 = 0) ∧ eT m m2 ∧ tx T n z (xSg T n c s) m2) := by
  refine nBi 0 rfl rfl rfl (by decide) rfl (fun htr o Φ hΦ => mGoOn (mOk (by decide)) rfl [22,34] 400 ?_)
  show True ∧ mCal l g d k_X7_needSign Φ 0 0 _ 1 k_X7_good false [.ref 587] [] [.ref 587, .int c] m o 0 0 1
  have k34 : ∀ m2, eT m m2 → tx T n z (xSg T n c s) m2 → mWB l g d k_X7_needSign Φ 0 0 34 [.ref 587, .int c] [] m2 o 0 0 := by
    intro m2 h1 h2
    refine mGoOn (mOk (by decide)) rfl [] 400 ?_
    show True ∧ mCal l g d k_X7_needSign Φ 0 0 _ 35 k_X7_good false [.ref 587] [] [.ref 587, .int c] m2 o 0 0 1
    exact ⟨trivial, fCi htr (x_good h2) (by omega) ⟨pI_01 _, eR (hΦ _ _ ⟨rfl, h1, h2⟩)⟩⟩
  refine ⟨trivial, fCi htr (x_good h) (by omega) ?_⟩
  show ((pI (s.2.2.1 = 0)) = 0 → mWB l g d k_X7_needSign Φ 0 0 22 [.ref 587, .int c] [] m o 0 0) ∧ (¬ (pI (s.2.2.1 = 0)) = 0 → True ∧ mCal l g d k_X7_needSign Φ 0 0 _ 8 k_X7_look false [.ref 587] [] [.ref 587, .int c] m o 0 0 1)
  refine ⟨fun q => ?_, fun q => ⟨trivial, nCi htr (x_look h hn hs (by omega)) (by omega) ?_⟩⟩
  · have q := pI_0.mp q
    have e : xSg T n c s = s := ifp_f q
    rw [e] at k34
    refine mGoOn (mOk (by decide)) rfl [34] 400 ?_
    show True ∧ mCal l g d k_X7_needSign Φ 0 0 _ 23 k_X7_good false [.ref 587] [] [.ref 587, .int c] m o 0 0 1
    refine ⟨trivial, fCi htr (x_good h) (by omega) ?_⟩
    show ((pI (s.2.2.1 = 0)) = 0 → mWB l g d k_X7_needSign Φ 0 0 34 [.ref 587, .int c] [] m o 0 0) ∧ (¬ (pI (s.2.2.1 = 0)) = 0 → True ∧ mCal l g d k_X7_needSign Φ 0 0 _ 31 k_X7_refuse false [.ref 587, .int (1 : Int32)] [] [.ref 587, .int c] m o 0 0 0)
    exact ⟨fun _ => k34 m (eT_refl _) h, fun y => absurd (pI_1.mp y) q⟩
  · have q := pI_1.mp q
    rintro x m2 ⟨rfl, h1, h2⟩
    show (¬ (bAt T n (skp T n s.1)) = c → mWB l g d k_X7_needSign Φ 0 0 22 [.ref 587, .int c] [] m2 o 0 0) ∧ ((bAt T n (skp T n s.1)) = c → True ∧ mCal l g d k_X7_needSign Φ 0 0 _ 16 k_X7_pass false [.ref 587] [] [.ref 587, .int c] m2 o 0 0 0)
    refine ⟨fun y => ?_, fun y => ⟨trivial, nCv htr (x_pass h2) (by omega) ?_⟩⟩
    · have e : xSg T n c s = xRf 1 (xLk T n s) := by unfold xSg; rw [ifp_t q, ifp_f y]
      refine mGoOn (mOk (by decide)) rfl [34] 400 ?_
      show True ∧ mCal l g d k_X7_needSign Φ 0 0 _ 23 k_X7_good false [.ref 587] [] [.ref 587, .int c] m2 o 0 0 1
      refine ⟨trivial, fCi htr (x_good h2) (by omega) ?_⟩
      show ((pI ((xLk T n s).2.2.1 = 0)) = 0 → mWB l g d k_X7_needSign Φ 0 0 34 [.ref 587, .int c] [] m2 o 0 0) ∧ (¬ (pI ((xLk T n s).2.2.1 = 0)) = 0 → True ∧ mCal l g d k_X7_needSign Φ 0 0 _ 31 k_X7_refuse false [.ref 587, .int (1 : Int32)] [] [.ref 587, .int c] m2 o 0 0 0)
      refine ⟨fun u => absurd q (pI_0.mp u), fun _ => ⟨trivial, nCv htr (x_refuse h2 1) (by omega) ?_⟩⟩
      rintro m3 ⟨h3, h4⟩
      exact k34 m3 (eT_trans h1 h3) (by rw [e]; exact h4)
    · have e : xSg T n c s = xPs (xLk T n s) := by unfold xSg; rw [ifp_t q, ifp_t y]
      rintro m3 ⟨h3, h4⟩
      exact k34 m3 (eT_trans h1 h3) (by rw [e]; exact h4)
end X20
