set_option maxRecDepth 100000
/-- what the class has behind a piece that is read -/
def xQ (T : Nat → Int32) (n : Nat) (z : Int32) (s' : QS) (m m2 : Mm) : Prop := ∃ t', xR T n s'.1 t' ∧ eLw m m2 ∧ tx T n z t' m2 ∧ (s'.1.2.1 = 0 → dLw s'.2 m2)
def xC (l : Launch) (g : mG) (T : Nat → Int32) (n : Nat) (z : Int32) (km md D f : Nat) : Prop := ∀ (d k : Nat) (s s' : QS) (t : XS) (m : Mm), 4 * (6 - k) + D ≤ d → k ≤ 6 → Lw T n f md k s s' → xR T n s.1 t → s.2.length ≤ s.1.1 → okL s.2 0 → tx T n z t m → (s.1.2.1 = 0 → dLw s.2 m) → mHv l g d km [.ref 614, .ref 587, .int (nI k)] m (xQ T n z s' m)
section XO
variable {l : Launch} {g : mG} {T : Nat → Int32} {n : Nat} {z : Int32}
theorem xQ_tr {s' : QS} {m m2 m3 : Mm} (h : eLw m m2) (h2 : xQ T n z s' m2 m3) : xQ T n z s' m m3 := by
  obtain ⟨t, a, b, c, e⟩ := h2
  exact ⟨t, a, eLw_trans h b, c, e⟩
/-- a code is added -/
theorem xQ_add {s1 : QS} {a b : Nat} {t : XS} {m m1 m2 : Mm} {v : Int32} (hx : xR T n s1.1 t) (h : tx T n z t m1) (e : eLw m m1) (hd : s1.1.2.1 = 0 → dLw s1.2 m1) (hc : s1.1.2.1 = 0 → s1.2.length < 150) (hv : s1.1.2.1 = 0 → v = cdW a b) (h2 : (∀ a, a ≠ 614 → a ≠ 615 → m2 a = m1 a) ∧ ∀ c, c < 150 → m1 614 2 = nI c → m2 614 2 = nI (c + 1) ∧ m2 615 = upd (m1 615) c v) : xQ T n z (lNt a b s1) m m2 := by
  refine ⟨t, by rw [lNt_1]; exact hx, fun x q1 q2 q3 => (h2.1 x q2 q3).trans (e x q1 q2 q3), tx_eq h (h2.1 588 (by decide) (by decide)) (h2.1 587 (by decide) (by decide)), fun q => ?_⟩
  rw [lNt_1] at q
  have ee : lNt a b s1 = (s1.1, s1.2 ++ [(a, b)]) := ifp_t q
  rw [ee]
  exact dLw_add (hd q) (hc q) (hv q) h2.2
theorem xR_at {p : PS} {t : XS} (hx : xR T n p t) (hf : p.2.1 = 0) : t.2.2.1 = 0 ∧ t.2.2.2 = -1 ∧ skp T n t.1 = skp T n p.1 := by
  rcases hx.2.1 with ⟨_, h1, h2⟩ | ⟨h1, _⟩
  · exact ⟨h1, hx.2.2 h1, h2.symm⟩
  · exact absurd hf h1
theorem xR_mk {q : Nat} {fs : Int32 × Int32} {t : XS} (hq : q ≤ n) (hf : fs.1 = 0) (h1 : t.1 = q) (h2 : t.2.2.1 = 0) (h3 : t.2.2.2 = -1) : xR T n (q, fs) t := ⟨⟨hq, by rw [h1]; exact hq⟩, Or.inl ⟨hf, h2, by rw [h1]⟩, fun _ => h3⟩
theorem xR_ft {q : Nat} {w x : Int32} {t : XS} (hq : q ≤ n) (ht : t.1 ≤ n) (hw : w ≠ 0) (h2 : t.2.2.1 = w) (h3 : t.2.2.2 = x) : xR T n (q, w, x) t := ⟨⟨hq, ht⟩, Or.inr ⟨hw, h2, h3⟩, fun y => absurd (h2.symm.trans y) hw⟩
theorem xRf_at {f : Int32} {t : XS} (h : t.2.2.1 = 0) : xRf f t = (t.1, t.2.1, f, nI t.2.1) := ifp_t h
theorem x_innerN (hn : n ≤ 150) {f : Nat} (IH : xC l g T n z k_X4_readSum 4 12 f) {d k : Nat} {s s' : QS} {t : XS} {m : Mm} (hd : 4 * (6 - k) + 9 ≤ d) (hk : k ≤ 6) (hL : LB T n (Lw T n f 4) k s s') (hf : s.1.2.1 = 0) (hx : xR T n s.1 t) (hlen : s.2.length ≤ s.1.1) (hok : okL s.2 0) (h : tx T n z (xLk T n t) m) (hD : dLw s.2 m) : mHv l g d k_X4_readInner [.ref 614, .ref 587, .int (nI k)] m (xQ T n z s' m) := by
  obtain ⟨t1, t2, t3⟩ := xR_at hx hf
  have hqn := skp_in (T := T) hx.1.1
  have hge := skp_ge (T := T) hx.1.1
  refine nBv 0 rfl rfl rfl (by decide) rfl (fun htr o Φ hΦ => mGoOn (mOk (by decide)) rfl [] 400 ?_)
  show ((nI k) < (6 : Int32) → True ∧ mCal l g d k_X4_readInner Φ 0 0 _ 13 k_X7_pass false [.ref 587] [] [.ref 614, .ref 587, .int (nI k)] m o 0 0 0) ∧ (¬ (nI k) < (6 : Int32) → True ∧ mCal l g d k_X4_readInner Φ 0 0 _ 8 k_X7_refuse false [.ref 587, .int (3 : Int32)] [] [.ref 614, .ref 587, .int (nI k)] m o 0 0 0)
  rw [show (6 : Int32) = nI 6 from rfl, nI_ltI (by omega) (by decide)]
  obtain ⟨h40, hL⟩ := hL
  have hlt := bAt_lt (T := T) h40 (by decide)
  refine ⟨fun q => ?_, fun q => ?_⟩
  · rcases hL with ⟨_, s1, L1, rfl⟩ | ⟨y, _⟩
    · refine ⟨trivial, nCv htr (x_pass h) (by omega) ?_⟩
      rintro m1 ⟨e1, h1⟩
      show True ∧ mCal l g d k_X4_readInner Φ 0 0 _ 21 k_X4_readSum false [.ref 614, .ref 587, .int ((nI k) + (1 : Int32))] [] [.ref 614, .ref 587, .int (nI k)] m1 o 0 0 0
      rw [nI_1]
      have hx1 : xR T n (skp T n s.1.1 + 1, s.1.2) (xPs (xLk T n t)) := xR_mk hlt hf (by show skp T n t.1 + 1 = _; rw [t3]) t1 t2
      refine ⟨trivial, nCv htr (IH (d - 1) (k + 1) ((skp T n s.1.1 + 1, s.1.2), s.2) s1 (xPs (xLk T n t)) m1 (by omega) (by omega) L1 hx1 (by show s.2.length ≤ skp T n s.1.1 + 1; omega) hok h1 (fun _ => dLw_T e1 hD)) (by omega) ?_⟩
      rintro m2 ⟨t', x2, e2, h2, d2⟩
      show True ∧ mCal l g d k_X4_readInner Φ 0 0 _ 27 k_X7_needSign false [.ref 587, .int (41 : Int32)] [] [.ref 614, .ref 587, .int (nI k)] m2 o 0 0 1
      refine ⟨trivial, nCi htr (x_needSign h2 (by omega) x2.1.2 41 (by omega)) (by omega) ?_⟩
      rintro x m3 ⟨rfl, e3, h3⟩
      show (Value.int (pI ((xSg T n 41 t').2.2.1 = 0))).category = 1 ∧ (Φ (.inl none) m3 o ∧ 0 ≤ 0 ∧ 0 ≤ 0)
      refine ⟨rfl, eR (hΦ _ ⟨_, xR_sg x2 (by decide), eLw_trans (eLw_T e1) (eLw_trans e2 (eLw_T e3)), h3, fun y => dLw_T e3 (d2 (pSgn_ok (by decide) x2.1.1 |>.2 y).1)⟩)⟩
    · exact absurd q y
  · rcases hL with ⟨y, _⟩ | ⟨_, rfl⟩
    · exact absurd y q
    · refine ⟨trivial, nCv htr (x_refuse h 3) (by omega) ?_⟩
      rintro m1 ⟨e1, h1⟩
      have er : xRf 3 (xLk T n t) = (skp T n t.1, skp T n t.1, 3, nI (skp T n t.1)) := xRf_at t1
      rw [er] at h1
      refine eR (hΦ _ ⟨_, xR_ft hqn (skp_in hx.1.2) (by decide) rfl (by rw [t3]), eLw_T e1, h1, fun y => absurd (show (3 : Int32) = 0 from y) (by decide)⟩)
end XO
