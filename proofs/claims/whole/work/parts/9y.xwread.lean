set_option maxRecDepth 100000
/-! A WORK'S TEXT, in the class -/
def eWk (m m2 : Mm) : Prop := ∀ a, a ≠ 587 → a < 621 ∨ 624 < a → m2 a = m a
theorem eWk_refl (m : Mm) : eWk m m := fun _ _ _ => rfl
theorem eWk_trans {m m2 m3 : Mm} (h : eWk m m2) (h2 : eWk m2 m3) : eWk m m3 := fun a h1 h3 => (h2 a h1 h3).trans (h a h1 h3)
theorem eWk_T {m m2 : Mm} (h : eT m m2) : eWk m m2 := fun a h1 _ => h a h1
def dW1 (m : Mm) (i : Nat) (e : W5) : Prop := m 622 i = nI e.1 ∧ m 623 i = nI e.2.1 ∧ (e.1 = 0 → m 624 i = nI e.2.2.1) ∧ (e.1 = 4 → e.2.2.2.1 ≠ 0 → m 624 i = nI e.2.2.2.1)
def dWk (a : WA) (m : Mm) : Prop := m 621 3 = nI a.1 ∧ ∀ i, i < a.1 → dW1 m i (a.2 i)
theorem dWk_T {a : WA} {m m2 : Mm} (h : dWk a m) (e : eT m m2) : dWk a m2 := by
  unfold dWk dW1
  rw [e 621 (by decide), e 622 (by decide), e 623 (by decide), e 624 (by decide)]
  exact h
def adW (m m2 : Mm) (k f s : Int32) : Prop := (∀ a, a < 621 ∨ 624 < a → m2 a = m a) ∧ ∀ c, c < 150 → m 621 3 = nI c → m2 621 3 = nI (c + 1) ∧ m2 622 = upd (m 622) c k ∧ m2 623 = upd (m 623) c f ∧ m2 624 = upd (m 624) c s
theorem dWk_add {a : WA} {m m2 : Mm} {k f s : Int32} {e : W5} (h : dWk a m) (hc : a.1 < 150) (hA : adW m m2 k f s) (h1 : k = nI e.1) (h2 : f = nI e.2.1) (h3 : e.1 = 0 → s = nI e.2.2.1) (h4 : e.1 = 4 → e.2.2.2.1 = 0) : dWk (wAdd a e) m2 := by
  obtain ⟨b1, b2, b3, b4⟩ := hA.2 a.1 hc h.1
  refine ⟨b1, fun i hi => ?_⟩
  have hi' : i < a.1 + 1 := hi
  unfold dW1
  rw [b2, b3, b4, upd_at, upd_at, upd_at]
  by_cases q : i = a.1
  · have eF : (wAdd a e).2 i = e := if_pos q
    rw [eF, if_pos q, if_pos q, if_pos q]
    exact ⟨h1, h2, h3, fun z z2 => absurd (h4 z) z2⟩
  · have eF : (wAdd a e).2 i = a.2 i := if_neg q
    rw [eF, if_neg q, if_neg q, if_neg q]
    exact h.2 i (by omega)
theorem wc_wk : (isWd 14 = true ∧ wc 14 = 204) ∧ (isWd 15 = true ∧ wc 15 = wCa) ∧ (isWd 16 = true ∧ wc 16 = wBe) ∧ (isWd 6 = true ∧ wc 6 = wHo) ∧ (isWd 17 = true ∧ wc 17 = wAg) := by decide +kernel
/-- what the class has behind a step and behind steps -/
def xQs (T : Nat → Int32) (n : Nat) (z : Int32) (s' : QW) (m m2 : Mm) : Prop := ∃ p' t', s'.1 = pSgn T n 59 p' ∧ xR T n p' t' ∧ eWk m m2 ∧ tx T n z t' m2 ∧ (p'.2.1 = 0 → dWk s'.2 m2)
def xQw (T : Nat → Int32) (n : Nat) (z : Int32) (s' : QW) (m m2 : Mm) : Prop := ∃ t', xR T n s'.1 t' ∧ eWk m m2 ∧ tx T n z t' m2 ∧ (s'.1.2.1 = 0 → dWk s'.2 m2)
def xSq (l : Launch) (g : mG) (T : Nat → Int32) (n M S : Nat) (z : Int32) (f : Nat) : Prop := ∀ (d k : Nat) (s s' : QW) (t : XS) (m : Mm), 3 * (6 - k) + 10 ≤ d → k ≤ 6 → Wk T n M S f 1 k s s' → xR T n s.1 t → (s.1.2.1 = 0 → 2 * s.2.1 ≤ s.1.1) → tx T n z t m → (s.1.2.1 = 0 → dWk s.2 m) → m 590 2 = nI M → m 590 0 = nI S → mHv l g d k_X9_readSteps [.ref 621, .ref 587, .ref 590, .int (nI k)] m (xQw T n z s' m)
section XWr
variable {l : Launch} {g : mG} {T : Nat → Int32} {n M S : Nat} {z : Int32}
theorem x_wadd {d : Nat} (m : Mm) (k f s : Int32) (hd : 1 ≤ d) : mHv l g d k_X9_add [.ref 621, .int k, .int f, .int s] m (fun m2 => adW m m2 k f s) := by
  have hp : ∀ (M : Mm) (a : Nat) (j v : Int32), a ≠ 621 → ptv M a 150 j v 621 = M 621 ∧ (∀ x, x ≠ a → ptv M a 150 j v x = M x) ∧ ∀ c, c < 150 → j = nI c → ptv M a 150 j v a = upd (M a) c v := by
    intro M a j v ha
    unfold ptv
    by_cases q : 0 ≤ j ∧ j < nI 150
    · rw [if_pos q]
      refine ⟨mset_ne _ _ _ (fun e => ha e.symm), fun x hx => mset_ne _ _ _ hx, fun c hc e => ?_⟩
      rw [mset_eq, e, nI_clamp (by omega)]
    · rw [if_neg q]
      refine ⟨rfl, fun _ _ => rfl, fun c hc e => absurd ?_ q⟩
      rw [e]
      exact ⟨nI_pos' (by omega), nI_lt hc (by decide)⟩
  refine nBv 0 rfl rfl rfl (by decide) rfl (fun htr o Φ hΦ => mGoOn (mOk (by decide)) rfl [] 400 ?_)
  show mCal l g d k_X9_add Φ 0 0 _ 9 k_X11_put true [.ref 622, .int (m 621 3), .int k] [] [.ref 621, .int k, .int f, .int s] m o 0 0 0
  refine fCv htr (x_putG m (a := 622) (n := 150) (by decide +kernel) (by decide +kernel) (by decide) (m 621 3) k) (by omega) ?_
  have p1 := hp m 622 (m 621 3) k (by decide)
  generalize ptv m 622 150 (m 621 3) k = M1 at p1 ⊢
  show mCal l g d k_X9_add Φ 0 0 _ 21 k_X11_put true [.ref 623, .int (M1 621 3), .int f] [] [.ref 621, .int k, .int f, .int s] M1 o 0 0 0
  rw [p1.1]
  refine fCv htr (x_putG M1 (a := 623) (n := 150) (by decide +kernel) (by decide +kernel) (by decide) (m 621 3) f) (by omega) ?_
  have p2 := hp M1 623 (m 621 3) f (by decide)
  generalize ptv M1 623 150 (m 621 3) f = M2 at p2 ⊢
  show mCal l g d k_X9_add Φ 0 0 _ 33 k_X11_put true [.ref 624, .int (M2 621 3), .int s] [] [.ref 621, .int k, .int f, .int s] M2 o 0 0 0
  rw [p2.1, p1.1]
  refine fCv htr (x_putG M2 (a := 624) (n := 150) (by decide +kernel) (by decide +kernel) (by decide) (m 621 3) s) (by omega) ?_
  have p3 := hp M2 624 (m 621 3) s (by decide)
  generalize ptv M2 624 150 (m 621 3) s = M3 at p3 ⊢
  show (Value.ref 621).category = 1 ∧ (Φ (.inl none) (mset M3 621 3 ((M3 621 3) + (1 : Int32))) o ∧ 0 ≤ 0 ∧ 0 ≤ 0)
  rw [p3.1, p2.1, p1.1]
  refine ⟨rfl, eR (hΦ _ ⟨fun a ha => ?_, fun c hc e => ⟨?_, ?_, ?_, ?_⟩⟩)⟩
  · rw [mset_ne _ _ _ (by omega), p3.2.1 a (by omega), p2.2.1 a (by omega), p1.2.1 a (by omega)]
  · rw [mset_eq, pk_us, e, nI_1]
  · rw [mset_ne _ _ _ (by decide), p3.2.1 622 (by decide), p2.2.1 622 (by decide), p1.2.2 c hc e]
  · rw [mset_ne _ _ _ (by decide), p3.2.1 623 (by decide), p2.2.2 c hc e, p1.2.1 623 (by decide)]
  · rw [mset_ne _ _ _ (by decide), p3.2.2 c hc e, p2.2.1 624 (by decide), p1.2.1 624 (by decide)]
theorem adW_tx {t : XS} {m m2 : Mm} {k f s : Int32} (hA : adW m m2 k f s) (h : tx T n z t m) : tx T n z t m2 := tx_eq h (hA.1 588 (by decide)) (hA.1 587 (by decide))
theorem adW_e {m m2 : Mm} {k f s : Int32} (hA : adW m m2 k f s) : eWk m m2 := fun a _ h => hA.1 a h
theorem x_wagain (hn : n ≤ 150) (hM : M ≤ 6) (hS : S ≤ 9) {f : Nat} (IH : xSq l g T n M S z f) {d k : Nat} {s s' : QW} {t : XS} {m : Mm} (hd : 3 * (6 - k) + 8 ≤ d) (hk : k ≤ 6) (hf : s.1.2.1 = 0) (hs : s.1.1 ≤ n) (hsw : s.1.1 + 2 ≤ swd T n (n - s.1.1) s.1.1 ∧ swd T n (n - s.1.1) s.1.1 ≤ n) (hc : 2 * s.2.1 ≤ s.1.1)
    (hL : (k < 6 ∧ ∃ s1, Wk T n M S f 1 (k + 1) (pSgn T n 91 (pNum T n 0 60 (swd T n (n - s.1.1) s.1.1, s.1.2)).2, wAdd s.2 (4, nv (pNum T n 0 60 (swd T n (n - s.1.1) s.1.1, s.1.2)).1, 0, 0, k)) s1 ∧ s' = (pSgn T n 59 (pSgn T n 93 s1.1), wEnd s1.2 s.2.1)) ∨ (¬ k < 6 ∧ s' = ((s.1.1, 3, nI s.1.1), s.2)))
    (hx : xR T n (swd T n (n - s.1.1) s.1.1, s.1.2) t) (hmk : t.2.1 = s.1.1) (h : tx T n z t m) (hD : dWk s.2 m) (hm2 : m 590 2 = nI M) (hm0 : m 590 0 = nI S) : mHv l g d k_X9_readAgain [.ref 621, .ref 587, .ref 590, .int (nI k)] m (xQs T n z s' m) := by
  obtain ⟨p1, p2⟩ := hsw
  have t1 := (xR_at hx hf).1
  refine nBv 1 rfl rfl rfl (by decide) rfl (fun htr o Φ hΦ => mGoOn (mOk (by decide)) rfl [] 400 ?_)
  show ((nI k) < (6 : Int32) → True ∧ mCal l g d k_X9_readAgain Φ 0 0 _ 24 k_X7_number false [.ref 587, .int (0 : Int32), .int (60 : Int32)] [.int (4 : Int32), .ref 621] [.ref 621, .ref 587, .ref 590, .int (nI k), .int (m 621 3)] m o 0 0 1) ∧ (¬ (nI k) < (6 : Int32) → True ∧ mCal l g d k_X9_readAgain Φ 0 0 _ 8 k_X7_refuse false [.ref 587, .int (3 : Int32)] [] [.ref 621, .ref 587, .ref 590, .int (nI k), mJ] m o 0 0 0)
  rw [show (6 : Int32) = nI 6 from rfl, nI_ltI (by omega) (by decide)]
  refine ⟨fun hk6 => ?_, fun hk6 => ?_⟩
  · rcases hL with ⟨_, s1, L1, rfl⟩ | ⟨y, _⟩
    · refine ⟨trivial, nCi htr (x_number h (by omega) hx.1.2 0 60 (by omega)) (by omega) ?_⟩
      rintro x m1 ⟨rfl, e1, h1⟩
      have r := xR_nm hx 0 (hi := 60) (by decide)
      rw [← r.1]
      have v1 := num_60 (T := T) (n := n) (p := (swd T n (n - s.1.1) s.1.1, s.1.2)) p2
      have k1 := num_in (T := T) (n := n) (lo := 0) (hi := 60) (p := (swd T n (n - s.1.1) s.1.1, s.1.2)) p2
      have k1' : swd T n (n - s.1.1) s.1.1 ≤ (pNum T n 0 60 (swd T n (n - s.1.1) s.1.1, s.1.2)).2.1 := k1.2.1
      have r2 := r.2
      generalize pNum T n 0 60 (swd T n (n - s.1.1) s.1.1, s.1.2) = w1 at L1 v1 k1 k1' r2 ⊢
      generalize (xNm T n 0 60 t).2 = t2 at h1 r2
      rw [hD.1]
      show True ∧ mCal l g d k_X9_readAgain Φ 0 0 _ 28 k_X9_add false [.ref 621, .int (4 : Int32), .int w1.1, .int (0 : Int32)] [] [.ref 621, .ref 587, .ref 590, .int (nI k), .int (nI s.2.1)] m1 o 0 0 0
      refine ⟨trivial, nCv htr (x_wadd m1 4 w1.1 0 (by omega)) (by omega) ?_⟩
      intro m2 hA
      have D1 := dWk_T hD e1
      have D2 : dWk (wAdd s.2 (4, nv w1.1, 0, 0, k)) m2 := dWk_add D1 (by omega) hA rfl v1.1 (fun y => absurd (show (4 : Nat) = 0 from y) (by decide)) (fun _ => rfl)
      have h2 := adW_tx hA h1
      show True ∧ mCal l g d k_X9_readAgain Φ 0 0 _ 34 k_X7_needSign false [.ref 587, .int (91 : Int32)] [] [.ref 621, .ref 587, .ref 590, .int (nI k), .int (nI s.2.1)] m2 o 0 0 1
      refine ⟨trivial, nCi htr (x_needSign h2 (by omega) r2.1.2 91 (by omega)) (by omega) ?_⟩
      rintro x m3 ⟨rfl, e3, h3⟩
      have x3 := xR_sg r2 (c := 91) (by decide)
      have h91 := pSgn_ok (T := T) (n := n) (c := 91) (by decide) k1.1
      have E3 : eWk m m3 := eWk_trans (eWk_T e1) (eWk_trans (adW_e hA) (eWk_T e3))
      show (Value.int (pI ((xSg T n 91 t2).2.2.1 = 0))).category = 1 ∧ (True ∧ mCal l g d k_X9_readAgain Φ 0 0 _ 44 k_X9_readSteps false [.ref 621, .ref 587, .ref 590, .int ((nI k) + (1 : Int32))] [] [.ref 621, .ref 587, .ref 590, .int (nI k), .int (nI s.2.1)] m3 o 0 0 0)
      rw [nI_1]
      refine ⟨rfl, trivial, nCv htr (IH (d - 1) (k + 1) (pSgn T n 91 w1.2, wAdd s.2 (4, nv w1.1, 0, 0, k)) s1 (xSg T n 91 t2) m3 (by omega) (by omega) L1 x3 (fun q => ?_) h3 (fun _ => dWk_T D2 e3) (by rw [E3 590 (by decide) (by omega)]; exact hm2) (by rw [E3 590 (by decide) (by omega)]; exact hm0)) (by omega) ?_⟩
      · have q1 := (h91.2 q).2
        show 2 * (s.2.1 + 1) ≤ (pSgn T n 91 w1.2).1
        omega
      rintro m4 ⟨t4, x4, e4, h4, d4⟩
      show True ∧ mCal l g d k_X9_readAgain Φ 0 0 _ 50 k_X7_needSign false [.ref 587, .int (93 : Int32)] [] [.ref 621, .ref 587, .ref 590, .int (nI k), .int (nI s.2.1)] m4 o 0 0 1
      refine ⟨trivial, nCi htr (x_needSign h4 (by omega) x4.1.2 93 (by omega)) (by omega) ?_⟩
      rintro x m5 ⟨rfl, e5, h5⟩
      have x5 := xR_sg x4 (c := 93) (by decide)
      have h93 := pSgn_ok (T := T) (n := n) (c := 93) (by decide) x4.1.1
      show (Value.int (pI ((xSg T n 93 t4).2.2.1 = 0))).category = 1 ∧ (mCal l g d k_X9_readAgain Φ 0 0 _ 64 k_X11_put true [.ref 624, .int (nI s.2.1), .int (m5 621 3)] [] [.ref 621, .ref 587, .ref 590, .int (nI k), .int (nI s.2.1)] m5 o 0 0 0)
      refine ⟨rfl, fCv htr (x_put m5 (a := 624) (n := 150) (by decide +kernel) (by decide +kernel) (by decide) (show s.2.1 < 150 by omega) (m5 621 3)) (by omega) ?_⟩
      have B := Wk_ok hM hS _ _ _ _ _ L1 h91.1 (by omega)
      refine eR (hΦ _ ⟨pSgn T n 93 s1.1, xSg T n 93 t4, rfl, x5, eWk_trans E3 (eWk_trans e4 (eWk_trans (eWk_T e5) (fun a b1 b2 => mset_ne _ _ _ (by omega)))), tx_eq h5 (mset_ne _ _ _ (by decide)) (mset_ne _ _ _ (by decide)), fun q => ?_⟩)
      have q1 := (h93.2 q).1
      have D5 := dWk_T (d4 q1) e5
      obtain ⟨b1, b2, b3, b4, b5, b6⟩ := B.2 q1
      have b4' : s.2.1 + 1 ≤ s1.2.1 := b4
      have bF : s1.2.2 s.2.1 = (4, nv w1.1, 0, 0, k) := by
        rw [b5 s.2.1 (Nat.lt_succ_self _)]
        exact if_pos rfl
      have eN : (wEnd s1.2 s.2.1).2 s.2.1 = (4, nv w1.1, 0, s1.2.1, k) := by
        show (if s.2.1 = s.2.1 then _ else s1.2.2 s.2.1) = _
        rw [if_pos rfl, bF]
      refine ⟨by rw [mset_ne _ _ _ (by decide)]; exact D5.1, fun i hi => ?_⟩
      have hi' : i < s1.2.1 := hi
      have q := D5.2 i hi'
      unfold dW1
      rw [mset_ne _ _ _ (show (622 : Nat) ≠ 624 by decide), mset_ne _ _ _ (show (623 : Nat) ≠ 624 by decide)]
      by_cases e : i = s.2.1
      · subst e
        rw [bF] at q
        show _ = nI ((wEnd s1.2 s.2.1).2 s.2.1).1 ∧ _ = nI ((wEnd s1.2 s.2.1).2 s.2.1).2.1 ∧ (((wEnd s1.2 s.2.1).2 s.2.1).1 = 0 → _ = nI ((wEnd s1.2 s.2.1).2 s.2.1).2.2.1) ∧ (((wEnd s1.2 s.2.1).2 s.2.1).1 = 4 → ((wEnd s1.2 s.2.1).2 s.2.1).2.2.2.1 ≠ 0 → _ = nI ((wEnd s1.2 s.2.1).2 s.2.1).2.2.2.1)
        rw [eN]
        exact ⟨q.1, q.2.1, fun y => absurd (show (4 : Nat) = 0 from y) (by decide), fun _ _ => by rw [mset_eq, pk_us]; exact D5.1⟩
      · have eF : (wEnd s1.2 s.2.1).2 i = s1.2.2 i := if_neg e
        show _ = nI ((wEnd s1.2 s.2.1).2 i).1 ∧ _ = nI ((wEnd s1.2 s.2.1).2 i).2.1 ∧ (((wEnd s1.2 s.2.1).2 i).1 = 0 → _ = nI ((wEnd s1.2 s.2.1).2 i).2.2.1) ∧ (((wEnd s1.2 s.2.1).2 i).1 = 4 → ((wEnd s1.2 s.2.1).2 i).2.2.2.1 ≠ 0 → _ = nI ((wEnd s1.2 s.2.1).2 i).2.2.2.1)
        rw [eF, mset_eq, pk_un e]
        exact q
    · exact absurd hk6 y
  · rcases hL with ⟨y, _⟩ | ⟨_, rfl⟩
    · exact absurd y hk6
    · refine ⟨trivial, nCv htr (x_refuse h 3) (by omega) ?_⟩
      rintro m1 ⟨e1, h1⟩
      rw [xRf_at t1, hmk] at h1
      have e59 : ((s.1.1, 3, nI s.1.1) : PS) = pSgn T n 59 (s.1.1, 3, nI s.1.1) := (pSgn_f (p := (s.1.1, 3, nI s.1.1)) (show (3 : Int32) ≠ 0 by decide)).symm
      exact eR (hΦ _ ⟨(s.1.1, 3, nI s.1.1), (t.1, s.1.1, 3, nI s.1.1), e59, xR_ft hs hx.1.2 (by decide) rfl rfl, eWk_T e1, h1, fun y => absurd (show (3 : Int32) = 0 from y) (by decide)⟩)
end XWr
