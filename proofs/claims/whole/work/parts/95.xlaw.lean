set_option maxRecDepth 100000
/-! A LAW'S TEXT, in the class -/
/-- all but the text's cursor and the draft -/
def eLw (m m2 : Mm) : Prop := ∀ a, a ≠ 587 → a ≠ 614 → a ≠ 615 → m2 a = m a
theorem eLw_refl (m : Mm) : eLw m m := fun _ _ _ _ => rfl
theorem eLw_trans {m m2 m3 : Mm} (h : eLw m m2) (h2 : eLw m2 m3) : eLw m m3 := fun a h1 h3 h4 => (h2 a h1 h3 h4).trans (h a h1 h3 h4)
theorem eLw_T {m m2 : Mm} (h : eT m m2) : eLw m m2 := fun a h1 _ _ => h a h1
/-- the draft holds these codes -/
def dLw (cs : List (Nat × Nat)) (m : Mm) : Prop := m 614 2 = nI cs.length ∧ ∀ i, i < cs.length → m 615 i = cdW (cAt cs i).1 (cAt cs i).2
theorem dLw_T {cs : List (Nat × Nat)} {m m2 : Mm} (h : eT m m2) (hd : dLw cs m) : dLw cs m2 := by
  unfold dLw
  rw [h 614 (by decide), h 615 (by decide)]
  exact hd
theorem tx_eq {T : Nat → Int32} {n : Nat} {z : Int32} {s : XS} {m m2 : Mm} (h : tx T n z s m) (e1 : m2 588 = m 588) (e2 : m2 587 = m 587) : tx T n z s m2 := by
  unfold tx
  rw [e1, e2]
  exact h
noncomputable def nmR (w : Int32) : Int32 := ifp (w = kwA 0) 0 (ifp (w = kwA 1) 1 (ifp (w = kwA 2) 2 (ifp (w = kwA 3) 3 (ifp (w = kwA 4) 4 (ifp (w = kwA 5) 5 (ifp (w = kwA 6) 6 (ifp (w = kwA 7) 7 (-1))))))))
theorem nmR_at {w : Int32} : (∃ i, i < 8 ∧ w = kwA i ∧ nmR w = nI i) ∨ ((∀ i, i < 8 → w ≠ kwA i) ∧ nmR w = -1) := by
  unfold nmR
  by_cases h0 : w = kwA 0
  · rw [ifp_t h0]; exact Or.inl ⟨0, by decide, h0, rfl⟩
  by_cases h1 : w = kwA 1
  · rw [ifp_f h0, ifp_t h1]; exact Or.inl ⟨1, by decide, h1, rfl⟩
  by_cases h2 : w = kwA 2
  · rw [ifp_f h0, ifp_f h1, ifp_t h2]; exact Or.inl ⟨2, by decide, h2, rfl⟩
  by_cases h3 : w = kwA 3
  · rw [ifp_f h0, ifp_f h1, ifp_f h2, ifp_t h3]; exact Or.inl ⟨3, by decide, h3, rfl⟩
  by_cases h4 : w = kwA 4
  · rw [ifp_f h0, ifp_f h1, ifp_f h2, ifp_f h3, ifp_t h4]; exact Or.inl ⟨4, by decide, h4, rfl⟩
  by_cases h5 : w = kwA 5
  · rw [ifp_f h0, ifp_f h1, ifp_f h2, ifp_f h3, ifp_f h4, ifp_t h5]; exact Or.inl ⟨5, by decide, h5, rfl⟩
  by_cases h6 : w = kwA 6
  · rw [ifp_f h0, ifp_f h1, ifp_f h2, ifp_f h3, ifp_f h4, ifp_f h5, ifp_t h6]; exact Or.inl ⟨6, by decide, h6, rfl⟩
  by_cases h7 : w = kwA 7
  · rw [ifp_f h0, ifp_f h1, ifp_f h2, ifp_f h3, ifp_f h4, ifp_f h5, ifp_f h6, ifp_t h7]; exact Or.inl ⟨7, by decide, h7, rfl⟩
  rw [ifp_f h0, ifp_f h1, ifp_f h2, ifp_f h3, ifp_f h4, ifp_f h5, ifp_f h6, ifp_f h7]
  refine Or.inr ⟨fun i hi => ?_, rfl⟩
  rcases i with _ | _ | _ | _ | _ | _ | _ | _ | i
  · exact h0
  · exact h1
  · exact h2
  · exact h3
  · exact h4
  · exact h5
  · exact h6
  · exact h7
  · omega
section XL
variable {l : Launch} {g : mG} {d : Nat} {T : Nat → Int32} {n : Nat} {z : Int32}
theorem x_add (m : Mm) (v : Int32) (hd : 1 ≤ d) : mHv l g d k_X4_add [.ref 614, .int v] m (fun m2 => (∀ a, a ≠ 614 → a ≠ 615 → m2 a = m a) ∧ ∀ c, c < 150 → m 614 2 = nI c → m2 614 2 = nI (c + 1) ∧ m2 615 = upd (m 615) c v) := by
  refine nBv 0 rfl rfl rfl (by decide) rfl (fun htr o Φ hΦ => mGoOn (mOk (by decide)) rfl [] 400 ?_)
  show mCal l g d k_X4_add Φ 0 0 _ 9 k_X11_put true [.ref 615, .int (m 614 2), .int v] [] [.ref 614, .int v] m o 0 0 0
  refine fCv htr (x_putG m (a := 615) (n := 150) (by decide +kernel) (by decide +kernel) (by decide) (m 614 2) v) (by omega) ?_
  have e : ptv m 615 150 (m 614 2) v 614 = m 614 := by
    unfold ptv
    by_cases q : 0 ≤ m 614 2 ∧ m 614 2 < nI 150
    · rw [if_pos q, mset_ne _ _ _ (by decide)]
    · rw [if_neg q]
  show (Value.ref 614).category = 1 ∧ (Φ (.inl none) (mset (ptv m 615 150 (m 614 2) v) 614 2 (((ptv m 615 150 (m 614 2) v) 614 2) + (1 : Int32))) o ∧ 0 ≤ 0 ∧ 0 ≤ 0)
  rw [e]
  refine ⟨rfl, eR (hΦ _ ⟨fun a h1 h2 => ?_, fun c hc h => ?_⟩)⟩
  · rw [mset_ne _ _ _ h1]
    unfold ptv
    by_cases q : 0 ≤ m 614 2 ∧ m 614 2 < nI 150
    · rw [if_pos q, mset_ne _ _ _ h2]
    · rw [if_neg q]
  · rw [mset_eq, pk_us, mset_ne _ _ _ (by decide), h, nI_1]
    refine ⟨rfl, ?_⟩
    unfold ptv
    rw [if_pos ⟨nI_pos' (by omega), nI_lt hc (by decide)⟩, nI_clamp (by omega), mset_eq]
theorem dLw_add {cs : List (Nat × Nat)} {a b : Nat} {m m2 : Mm} {v : Int32} (h : dLw cs m) (hc : cs.length < 150) (hv : v = cdW a b) (h2 : ∀ c, c < 150 → m 614 2 = nI c → m2 614 2 = nI (c + 1) ∧ m2 615 = upd (m 615) c v) : dLw (cs ++ [(a, b)]) m2 := by
  have hlen : (cs ++ [(a, b)]).length = cs.length + 1 := by rw [List.length_append]; rfl
  obtain ⟨e1, e2⟩ := h2 _ hc h.1
  unfold dLw
  rw [hlen]
  refine ⟨e1, fun i hi => ?_⟩
  rw [e2, upd_at]
  by_cases q : i = cs.length
  · subst q
    rw [if_pos rfl, cAt_new]
    exact hv
  · rw [if_neg q, cAt_app (by omega)]
    exact h.2 i (by omega)
theorem xWd_mk {t : XS} (hs : t.1 ≤ n) : (xWd T n t).1 ≤ n ∧ (xWd T n t).2.1 ≤ (xWd T n t).1 ∧ t.1 ≤ (xWd T n t).1 := by
  have h1 := swd_le (T := T) (n := n) (n - skp T n t.1) (skp T n t.1) (skp_in hs)
  have h2 := skp_ge (T := T) hs
  exact ⟨h1.2, h1.1, Nat.le_trans h2 h1.1⟩
theorem x_isW {t : XS} {m : Mm} (h : tx T n z (xWd T n t) m) (hn : n ≤ 600) (hs : t.1 ≤ n) {i : Nat} (hi : i < mTx.length) (hw : isWd i = true) {w : Int32} (ew : wc i = w) (hd : 4 ≤ d) : mFi l g d k_X7_isWord [.ref 587, .ref (mSt i)] m (pI (wHere T n (skp T n t.1) = w)) m := by
  have e : isW T i (xWd T n t) = (wHere T n (skp T n t.1) = w) := by rw [← ew]; exact propext (isW_iff hs hw)
  have hx := x_isWord (l := l) (g := g) (d := d) h hn (xWd_mk hs).1 (xWd_mk hs).2.1 hi hd
  rwa [e] at hx
theorem x_nameOf {t : XS} {m : Mm} (h : tx T n z (xWd T n t) m) (hn : n ≤ 600) (hs : t.1 ≤ n) (hd : 5 ≤ d) : mFi l g d k_X4_nameOf [.ref 587] m (nmR (wHere T n (skp T n t.1))) m := by
  refine nFi 0 rfl rfl rfl (by decide) rfl (fun htr o Φ hΦ => mGoOn (mOk (by decide)) rfl [93] 400 ?_)
  show True ∧ mCal l g d k_X4_nameOf Φ 0 0 _ 3 k_X7_isWord false [.ref 587, .ref 1000006] [] [.ref 587] m o 0 0 1
  obtain ⟨a0, b0, a1, b1, a2, b2, a3, b3, a4, b4, a5, b5, a6, b6, a7, b7, _⟩ := wc_all
  generalize hw : wHere T n (skp T n t.1) = w at hΦ
  unfold nmR at hΦ
  have h0 := x_isW (l := l) (g := g) (d := d - 1) h hn hs (i := 5) (by decide) a0 (w := kwA 0) b0 (by omega)
  rw [hw] at h0
  refine ⟨trivial, fCi htr h0 (by omega) ?_⟩
  show ((pI (w = kwA 0)) = 0 → True ∧ mCal l g d k_X4_nameOf Φ 0 0 _ 14 k_X7_isWord false [.ref 587, .ref 1000007] [] [.ref 587] m o 0 0 1) ∧ (¬ (pI (w = kwA 0)) = 0 → Φ (.inl (some (.int (0 : Int32)))) m o ∧ 0 ≤ 0 ∧ 0 ≤ 0)
  refine ⟨fun q => ?_, fun q => by rw [ifp_t (pI_1.mp q)] at hΦ; exact eR hΦ⟩
  rw [ifp_f (pI_0.mp q)] at hΦ
  have h1 := x_isW (l := l) (g := g) (d := d - 1) h hn hs (i := 6) (by decide) a1 (w := kwA 1) b1 (by omega)
  rw [hw] at h1
  refine ⟨trivial, fCi htr h1 (by omega) ?_⟩
  show ((pI (w = kwA 1)) = 0 → True ∧ mCal l g d k_X4_nameOf Φ 0 0 _ 25 k_X7_isWord false [.ref 587, .ref 1000008] [] [.ref 587] m o 0 0 1) ∧ (¬ (pI (w = kwA 1)) = 0 → Φ (.inl (some (.int (1 : Int32)))) m o ∧ 0 ≤ 0 ∧ 0 ≤ 0)
  refine ⟨fun q => ?_, fun q => by rw [ifp_t (pI_1.mp q)] at hΦ; exact eR hΦ⟩
  rw [ifp_f (pI_0.mp q)] at hΦ
  have h2 := x_isW (l := l) (g := g) (d := d - 1) h hn hs (i := 7) (by decide) a2 (w := kwA 2) b2 (by omega)
  rw [hw] at h2
  refine ⟨trivial, fCi htr h2 (by omega) ?_⟩
  show ((pI (w = kwA 2)) = 0 → True ∧ mCal l g d k_X4_nameOf Φ 0 0 _ 36 k_X7_isWord false [.ref 587, .ref 1000002] [] [.ref 587] m o 0 0 1) ∧ (¬ (pI (w = kwA 2)) = 0 → Φ (.inl (some (.int (2 : Int32)))) m o ∧ 0 ≤ 0 ∧ 0 ≤ 0)
  refine ⟨fun q => ?_, fun q => by rw [ifp_t (pI_1.mp q)] at hΦ; exact eR hΦ⟩
  rw [ifp_f (pI_0.mp q)] at hΦ
  have h3 := x_isW (l := l) (g := g) (d := d - 1) h hn hs (i := 1) (by decide) a3 (w := kwA 3) b3 (by omega)
  rw [hw] at h3
  refine ⟨trivial, fCi htr h3 (by omega) ?_⟩
  show ((pI (w = kwA 3)) = 0 → True ∧ mCal l g d k_X4_nameOf Φ 0 0 _ 47 k_X7_isWord false [.ref 587, .ref 1000009] [] [.ref 587] m o 0 0 1) ∧ (¬ (pI (w = kwA 3)) = 0 → Φ (.inl (some (.int (3 : Int32)))) m o ∧ 0 ≤ 0 ∧ 0 ≤ 0)
  refine ⟨fun q => ?_, fun q => by rw [ifp_t (pI_1.mp q)] at hΦ; exact eR hΦ⟩
  rw [ifp_f (pI_0.mp q)] at hΦ
  have h4 := x_isW (l := l) (g := g) (d := d - 1) h hn hs (i := 8) (by decide) a4 (w := kwA 4) b4 (by omega)
  rw [hw] at h4
  refine ⟨trivial, fCi htr h4 (by omega) ?_⟩
  show ((pI (w = kwA 4)) = 0 → True ∧ mCal l g d k_X4_nameOf Φ 0 0 _ 58 k_X7_isWord false [.ref 587, .ref 1000010] [] [.ref 587] m o 0 0 1) ∧ (¬ (pI (w = kwA 4)) = 0 → Φ (.inl (some (.int (4 : Int32)))) m o ∧ 0 ≤ 0 ∧ 0 ≤ 0)
  refine ⟨fun q => ?_, fun q => by rw [ifp_t (pI_1.mp q)] at hΦ; exact eR hΦ⟩
  rw [ifp_f (pI_0.mp q)] at hΦ
  have h5 := x_isW (l := l) (g := g) (d := d - 1) h hn hs (i := 9) (by decide) a5 (w := kwA 5) b5 (by omega)
  rw [hw] at h5
  refine ⟨trivial, fCi htr h5 (by omega) ?_⟩
  show ((pI (w = kwA 5)) = 0 → True ∧ mCal l g d k_X4_nameOf Φ 0 0 _ 69 k_X7_isWord false [.ref 587, .ref 1000011] [] [.ref 587] m o 0 0 1) ∧ (¬ (pI (w = kwA 5)) = 0 → Φ (.inl (some (.int (5 : Int32)))) m o ∧ 0 ≤ 0 ∧ 0 ≤ 0)
  refine ⟨fun q => ?_, fun q => by rw [ifp_t (pI_1.mp q)] at hΦ; exact eR hΦ⟩
  rw [ifp_f (pI_0.mp q)] at hΦ
  have h6 := x_isW (l := l) (g := g) (d := d - 1) h hn hs (i := 10) (by decide) a6 (w := kwA 6) b6 (by omega)
  rw [hw] at h6
  refine ⟨trivial, fCi htr h6 (by omega) ?_⟩
  show ((pI (w = kwA 6)) = 0 → True ∧ mCal l g d k_X4_nameOf Φ 0 0 _ 81 k_X7_isWord false [.ref 587, .ref 1000012] [] [.ref 587] m o 0 0 1) ∧ (¬ (pI (w = kwA 6)) = 0 → Φ (.inl (some (.int (6 : Int32)))) m o ∧ 0 ≤ 0 ∧ 0 ≤ 0)
  refine ⟨fun q => ?_, fun q => by rw [ifp_t (pI_1.mp q)] at hΦ; exact eR hΦ⟩
  rw [ifp_f (pI_0.mp q)] at hΦ
  have h7 := x_isW (l := l) (g := g) (d := d - 1) h hn hs (i := 11) (by decide) a7 (w := kwA 7) b7 (by omega)
  rw [hw] at h7
  refine ⟨trivial, fCi htr h7 (by omega) ?_⟩
  show ((pI (w = kwA 7)) = 0 → mWB l g d k_X4_nameOf Φ 0 0 93 [.ref 587] [.int (-1 : Int32)] m o 0 0) ∧ (¬ (pI (w = kwA 7)) = 0 → mWB l g d k_X4_nameOf Φ 0 0 93 [.ref 587] [.int (7 : Int32)] m o 0 0)
  refine ⟨fun q => ?_, fun q => ?_⟩
  · rw [ifp_f (pI_0.mp q)] at hΦ
    refine mGoOn (mOk (by decide)) rfl [] 400 ?_
    show Φ (.inl (some (.int (-1 : Int32)))) m o ∧ 0 ≤ 0 ∧ 0 ≤ 0
    exact eR hΦ
  · rw [ifp_t (pI_1.mp q)] at hΦ
    refine mGoOn (mOk (by decide)) rfl [] 400 ?_
    show Φ (.inl (some (.int (7 : Int32)))) m o ∧ 0 ≤ 0 ∧ 0 ≤ 0
    exact eR hΦ
end XL
