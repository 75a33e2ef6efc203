set_option maxRecDepth 100000
/-! A CITY'S TEXT, in the class -/
def eCt (m m2 : Mm) : Prop := ∀ a, a ≠ 587 → a < 604 ∨ 613 < a → m2 a = m a
theorem eCt_refl (m : Mm) : eCt m m := fun _ _ _ => rfl
theorem eCt_trans {m m2 m3 : Mm} (h : eCt m m2) (h2 : eCt m2 m3) : eCt m m3 := fun a h1 h3 => (h2 a h1 h3).trans (h a h1 h3)
theorem eCt_T {m m2 : Mm} (h : eT m m2) : eCt m m2 := fun a h1 _ => h a h1
def dCt (D : CD) (m : Mm) : Prop := (∀ k, k < 4 → m 604 k = nI (D k).length) ∧ (∀ i, i < (D 0).length → m 605 i = (eAt (D 0) i).1) ∧ (∀ i, i < (D 1).length → m 607 i = (eAt (D 1) i).1 ∧ m 608 i = (eAt (D 1) i).2.1) ∧ (∀ i, i < (D 2).length → m 609 i = (eAt (D 2) i).1 ∧ m 610 i = (eAt (D 2) i).2.1 ∧ m 611 i = (eAt (D 2) i).2.2) ∧ (∀ i, i < (D 3).length → m 612 i = (eAt (D 3) i).1 ∧ m 613 i = (eAt (D 3) i).2.1) ∧ ∀ s, s < 9 → ∀ j, j < 32 → (hB (m 606 s) j ↔ lnIn (D 1) (nI s) (nI j))
theorem dCt_eq {D : CD} {m m2 : Mm} (h : dCt D m) (e0 : ∀ k, k < 4 → m2 604 k = m 604 k) (e : ∀ a, 605 ≤ a → a ≤ 613 → m2 a = m a) : dCt D m2 := by
  unfold dCt
  rw [e 605 (by decide) (by decide), e 606 (by decide) (by decide), e 607 (by decide) (by decide), e 608 (by decide) (by decide), e 609 (by decide) (by decide), e 610 (by decide) (by decide), e 611 (by decide) (by decide), e 612 (by decide) (by decide), e 613 (by decide) (by decide)]
  exact ⟨fun k hk => by rw [e0 k hk]; exact h.1 k hk, h.2⟩
theorem dCt_T {D : CD} {m m2 : Mm} (h : dCt D m) (e : eT m m2) : dCt D m2 := dCt_eq h (fun k _ => by rw [e 604 (by decide)]) (fun a h1 h2 => e a (by omega))
theorem lnE_sym {a b : Int32} {e : Ent} : lnE a b e ↔ lnE b a e := ⟨fun h => h.elim Or.inr Or.inl, fun h => h.elim Or.inr Or.inl⟩
theorem lnIn_app {L : List Ent} {e : Ent} {a b : Int32} : lnIn (L ++ [e]) a b ↔ lnIn L a b ∨ lnE a b e := by
  constructor
  · rintro ⟨i, hi, h⟩
    rw [len_app] at hi
    by_cases q : i = L.length
    · subst q; rw [eAt_new] at h; exact Or.inr h
    · rw [eAt_app (by omega)] at h; exact Or.inl ⟨i, by omega, h⟩
  · rintro (⟨i, hi, h⟩ | h)
    · exact ⟨i, by rw [len_app]; omega, by rw [eAt_app hi]; exact h⟩
    · exact ⟨L.length, by rw [len_app]; omega, by rw [eAt_new]; exact h⟩
theorem row_new {L : List Ent} {e : Ent} {R R2 : Nat → Int32} {v : Int32} {f : Ent → Int32} (h : ∀ i, i < L.length → R i = f (eAt L i)) (hv : v = f e) (h2 : R2 = upd R L.length v) : ∀ i, i < (L ++ [e]).length → R2 i = f (eAt (L ++ [e]) i) := by
  intro i hi
  rw [len_app] at hi
  rw [h2, upd_at]
  by_cases q : i = L.length
  · rw [if_pos q, q, eAt_new]; exact hv
  · rw [if_neg q, eAt_app (by omega)]; exact h i (by omega)
theorem dCt_0 {D : CD} {m m2 : Mm} {e : Ent} (h : dCt D m) (e0 : m2 604 0 = nI ((D 0).length + 1)) (ej : ∀ j, j ≠ 0 → j < 4 → m2 604 j = m 604 j) (e5 : m2 605 = upd (m 605) (D 0).length e.1) (fr : ∀ a, 606 ≤ a → a ≤ 613 → m2 a = m a) : dCt (updD D 0 (D 0 ++ [e])) m2 := by
  obtain ⟨a1, a2, a3, a4, a5, a6⟩ := h
  unfold dCt
  rw [fr 606 (by decide) (by decide), fr 607 (by decide) (by decide), fr 608 (by decide) (by decide), fr 609 (by decide) (by decide), fr 610 (by decide) (by decide), fr 611 (by decide) (by decide), fr 612 (by decide) (by decide), fr 613 (by decide) (by decide), updD_at, updD_at, updD_at, updD_at, if_pos rfl, if_neg (by decide), if_neg (by decide), if_neg (by decide)]
  refine ⟨fun k hk => ?_, row_new (f := fun e => e.1) a2 rfl e5, a3, a4, a5, a6⟩
  rw [updD_at]
  by_cases q : k = 0
  · rw [if_pos q, len_app, q, e0]
  · rw [if_neg q, ej k q hk]; exact a1 k hk
theorem dCt_3 {D : CD} {m m2 : Mm} {e : Ent} (h : dCt D m) (e0 : m2 604 3 = nI ((D 3).length + 1)) (ej : ∀ j, j ≠ 3 → j < 4 → m2 604 j = m 604 j) (e5 : m2 612 = upd (m 612) (D 3).length e.1) (e6 : m2 613 = upd (m 613) (D 3).length e.2.1) (fr : ∀ a, 605 ≤ a → a ≤ 611 → m2 a = m a) : dCt (updD D 3 (D 3 ++ [e])) m2 := by
  obtain ⟨a1, a2, a3, a4, a5, a6⟩ := h
  unfold dCt
  rw [fr 605 (by decide) (by decide), fr 606 (by decide) (by decide), fr 607 (by decide) (by decide), fr 608 (by decide) (by decide), fr 609 (by decide) (by decide), fr 610 (by decide) (by decide), fr 611 (by decide) (by decide), updD_at, updD_at, updD_at, updD_at, if_pos rfl, if_neg (by decide), if_neg (by decide), if_neg (by decide)]
  refine ⟨fun k hk => ?_, a2, a3, a4, fun i hi => ⟨row_new (f := fun e => e.1) (fun i hi => (a5 i hi).1) rfl e5 i hi, row_new (f := fun e => e.2.1) (fun i hi => (a5 i hi).2) rfl e6 i hi⟩, a6⟩
  rw [updD_at]
  by_cases q : k = 3
  · rw [if_pos q, len_app, q, e0]
  · rw [if_neg q, ej k q hk]; exact a1 k hk
theorem dCt_2 {D : CD} {m m2 : Mm} {e : Ent} (h : dCt D m) (e0 : m2 604 2 = nI ((D 2).length + 1)) (ej : ∀ j, j ≠ 2 → j < 4 → m2 604 j = m 604 j) (e5 : m2 609 = upd (m 609) (D 2).length e.1) (e6 : m2 610 = upd (m 610) (D 2).length e.2.1) (e7 : m2 611 = upd (m 611) (D 2).length e.2.2) (fr : ∀ a, 605 ≤ a → a ≤ 608 ∨ 612 ≤ a → a ≤ 613 → m2 a = m a) : dCt (updD D 2 (D 2 ++ [e])) m2 := by
  obtain ⟨a1, a2, a3, a4, a5, a6⟩ := h
  unfold dCt
  rw [fr 605 (by decide) (by decide) (by decide), fr 606 (by decide) (by decide) (by decide), fr 607 (by decide) (by decide) (by decide), fr 608 (by decide) (by decide) (by decide), fr 612 (by decide) (by decide) (by decide), fr 613 (by decide) (by decide) (by decide), updD_at, updD_at, updD_at, updD_at, if_pos rfl, if_neg (by decide), if_neg (by decide), if_neg (by decide)]
  refine ⟨fun k hk => ?_, a2, a3, fun i hi => ⟨row_new (f := fun e => e.1) (fun i hi => (a4 i hi).1) rfl e5 i hi, row_new (f := fun e => e.2.1) (fun i hi => (a4 i hi).2.1) rfl e6 i hi, row_new (f := fun e => e.2.2) (fun i hi => (a4 i hi).2.2) rfl e7 i hi⟩, a5, a6⟩
  rw [updD_at]
  by_cases q : k = 2
  · rw [if_pos q, len_app, q, e0]
  · rw [if_neg q, ej k q hk]; exact a1 k hk
theorem dCt_1 {D : CD} {m m2 : Mm} {e : Ent} (h : dCt D m) (e0 : m2 604 1 = nI ((D 1).length + 1)) (ej : ∀ j, j ≠ 1 → j < 4 → m2 604 j = m 604 j) (e5 : m2 607 = upd (m 607) (D 1).length e.1) (e6 : m2 608 = upd (m 608) (D 1).length e.2.1) (e7 : ∀ s, s < 9 → ∀ j, j < 32 → (hB (m2 606 s) j ↔ hB (m 606 s) j ∨ lnE (nI s) (nI j) e)) (fr : ∀ a, a = 605 ∨ 609 ≤ a ∧ a ≤ 613 → m2 a = m a) : dCt (updD D 1 (D 1 ++ [e])) m2 := by
  obtain ⟨a1, a2, a3, a4, a5, a6⟩ := h
  unfold dCt
  rw [fr 605 (by decide), fr 609 (by decide), fr 610 (by decide), fr 611 (by decide), fr 612 (by decide), fr 613 (by decide), updD_at, updD_at, updD_at, updD_at, if_pos rfl, if_neg (by decide), if_neg (by decide), if_neg (by decide)]
  refine ⟨fun k hk => ?_, a2, fun i hi => ⟨row_new (f := fun e => e.1) (fun i hi => (a3 i hi).1) rfl e5 i hi, row_new (f := fun e => e.2.1) (fun i hi => (a3 i hi).2) rfl e6 i hi⟩, a4, a5, fun s hs j hj => ?_⟩
  · rw [updD_at]
    by_cases q : k = 1
    · rw [if_pos q, len_app, q, e0]
    · rw [if_neg q, ej k q hk]; exact a1 k hk
  · rw [e7 s hs j hj, a6 s hs j hj, lnIn_app]
/-- what the class has behind a clause -/
def xQc (T : Nat → Int32) (n : Nat) (z : Int32) (c : CS) (m m2 : Mm) : Prop := ∃ t', xR T n c.1 t' ∧ eCt m m2 ∧ tx T n z t' m2 ∧ dCt c.2 m2 ∧ m2 604 4 = m 604 4
section XCi
variable {l : Launch} {g : mG} {d : Nat} {T : Nat → Int32} {n : Nat} {z : Int32}
theorem x_needPlace {m : Mm} {u : XS} {p0 p1 : PS} {D : CD} {k : Nat} (h : tx T n z u m) (hx : xR T n p0 u) (hf : p0.2.1 = 0) (hk : k < 4) (hD : cDok D) (h4 : m 604 4 = nI (tot D)) (hp1 : ifp (tot D = 60 ∨ (D k).length = most k) (u.2.1, 3, nI u.2.1) p0 = p1) (hu : u.2.1 ≤ n) (hd : 1 ≤ d) : mHv l g d k_X1_needPlace [.ref 604, .ref 587, .int (nI (D k).length), .int (nI (most k))] m (fun m2 => ∃ u1, xR T n p1 u1 ∧ eT m m2 ∧ tx T n z u1 m2) := by
  have hl := (hD.2 k hk).1
  have hm := most_le k
  have ht := hD.1
  obtain ⟨t1, t2, t3⟩ := xR_at hx hf
  refine nBv 0 rfl rfl rfl (by decide) rfl (fun htr o Φ hΦ => mGoOn (mOk (by decide)) rfl [14] 400 ?_)
  show ((nI (most k)) ≤ (nI (D k).length) → mWB l g d k_X1_needPlace Φ 0 0 14 [.ref 604, .ref 587, .int (nI (D k).length), .int (nI (most k))] [] m o 0 0) ∧ (¬ (nI (most k)) ≤ (nI (D k).length) → ((m 604 4) < (60 : Int32) → Φ (.inl none) m o ∧ 0 ≤ 0 ∧ 0 ≤ 0) ∧ (¬ (m 604 4) < (60 : Int32) → mWB l g d k_X1_needPlace Φ 0 0 14 [.ref 604, .ref 587, .int (nI (D k).length), .int (nI (most k))] [] m o 0 0))
  rw [h4, show (60 : Int32) = nI 60 from rfl, nI_leI (by omega) (by omega), nI_ltI (by omega) (by decide)]
  have k14 : (tot D = 60 ∨ (D k).length = most k) → mWB l g d k_X1_needPlace Φ 0 0 14 [.ref 604, .ref 587, .int (nI (D k).length), .int (nI (most k))] [] m o 0 0 := by
    intro q
    rw [ifp_t q] at hp1
    refine mGoOn (mOk (by decide)) rfl [] 400 ?_
    show True ∧ mCal l g d k_X1_needPlace Φ 0 0 _ 16 k_X7_refuse false [.ref 587, .int (3 : Int32)] [] [.ref 604, .ref 587, .int (nI (D k).length), .int (nI (most k))] m o 0 0 0
    refine ⟨trivial, nCv htr (x_refuse h 3) hd ?_⟩
    rintro m1 ⟨e1, h1⟩
    rw [xRf_at t1] at h1
    rw [← hp1] at hΦ
    exact eR (hΦ _ ⟨(u.1, u.2.1, 3, nI u.2.1), xR_ft hu hx.1.2 (by decide) rfl rfl, e1, h1⟩)
  refine ⟨fun q => k14 (Or.inr (by omega)), fun q => ⟨fun q2 => ?_, fun q2 => k14 (Or.inl (by omega))⟩⟩
  rw [ifp_f (fun y => by omega)] at hp1
  rw [← hp1] at hΦ
  exact eR (hΦ _ ⟨u, hx, eT_refl m, h⟩)
theorem p1_nf {F : Prop} {q : Nat} {x : Int32} {p0 p1 : PS} (hp1 : ifp F (q, 3, x) p0 = p1) (h : p1.2.1 = 0) : ¬ F ∧ p1 = p0 := by
  by_cases y : F
  · rw [ifp_t y] at hp1; rw [← hp1] at h; exact absurd (show (3 : Int32) = 0 from h) (by decide)
  · rw [ifp_f y] at hp1; exact ⟨y, hp1.symm⟩
theorem xSg_0 {p : PS} {t : XS} {c : Int32} (hc : c ≠ -1) (hx : xR T n p t) : ((xSg T n c t).2.2.1 = 0 ↔ (pSgn T n c p).2.1 = 0) := (xR_kd (xR_sg hx hc)).symm
theorem x_rdStreet {m : Mm} {u : XS} {p0 p1 : PS} {D : CD} (h : tx T n z u m) (hn : n ≤ 600) (hx : xR T n p0 u) (hf : p0.2.1 = 0) (hD : cDok D) (hC : dCt D m) (h4 : m 604 4 = nI (tot D)) (hp1 : ifp (tot D = 60 ∨ (D 0).length = most 0) (u.2.1, 3, nI u.2.1) p0 = p1) (hu : u.2.1 ≤ n) (hd : 3 ≤ d) : mHv l g d k_X1_readStreet [.ref 604, .ref 587] m (xQc T n z (cE T n D 0 (cB0 T n p1)) m) := by
  have l0 : (D 0).length ≤ 9 := (hD.2 0 (by decide)).1
  refine nBv 1 rfl rfl rfl (by decide) rfl (fun htr o Φ hΦ => mGoOn (mOk (by decide)) rfl [50] 400 ?_)
  show True ∧ mCal l g d k_X1_readStreet Φ 0 0 _ 8 k_X1_needPlace false [.ref 604, .ref 587, .int (m 604 0), .int (9 : Int32)] [] [.ref 604, .ref 587, mJ] m o 0 0 0
  rw [hC.1 0 (by decide)]
  refine ⟨trivial, nCv htr (x_needPlace (k := 0) h hx hf (by decide) hD h4 hp1 hu (by omega)) (by omega) ?_⟩
  rintro m1 ⟨u1, x1, e1, h1⟩
  show True ∧ mCal l g d k_X1_readStreet Φ 0 0 _ 15 k_X7_number false [.ref 587, .int (0 : Int32), .int (30 : Int32)] [] [.ref 604, .ref 587, mJ] m1 o 0 0 1
  refine ⟨trivial, nCi htr (x_number h1 hn x1.1.2 0 30 (by omega)) (by omega) ?_⟩
  rintro x m2 ⟨rfl, e2, h2⟩
  have r := xR_nm x1 0 (hi := 30) (by decide)
  rw [← r.1]
  show True ∧ mCal l g d k_X1_readStreet Φ 0 0 _ 22 k_X7_needSign false [.ref 587, .int (59 : Int32)] [] [.ref 604, .ref 587, .int ((pNum T n 0 30 p1).1)] m2 o 0 0 1
  refine ⟨trivial, nCi htr (x_needSign h2 hn r.2.1.2 59 (by omega)) (by omega) ?_⟩
  rintro x m3 ⟨rfl, e3, h3⟩
  have x3 := xR_sg r.2 (c := 59) (by decide)
  have C3 := dCt_T (dCt_T (dCt_T hC e1) e2) e3
  have E3 : eCt m m3 := eCt_trans (eCt_T e1) (eCt_trans (eCt_T e2) (eCt_T e3))
  have k3 : m3 604 4 = m 604 4 := by rw [e3 604 (by decide), e2 604 (by decide), e1 604 (by decide)]
  have hce : cE T n D 0 (cB0 T n p1) = ifp ((pSgn T n 59 (pNum T n 0 30 p1).2).2.1 = 0) (pSgn T n 59 (pNum T n 0 30 p1).2, updD D 0 (D 0 ++ [((pNum T n 0 30 p1).1, 0, 0)])) (pSgn T n 59 (pNum T n 0 30 p1).2, D) := rfl
  rw [hce] at hΦ
  have hxs := xSg_0 (c := 59) (by decide) r.2
  have l9 : (pSgn T n 59 (pNum T n 0 30 p1).2).2.1 = 0 → (D 0).length < 9 := fun q => by
    have q1 := (pSgn_ok (by decide) (pNum_ok x1.1.1).1).2 q
    have q2 := (num_in x1.1.1).2.2 q1.1
    have q3 := (p1_nf hp1 q2.1).1
    have q4 : ¬ (D 0).length = 9 := fun y => q3 (Or.inr y)
    omega
  generalize pNum T n 0 30 p1 = w at hΦ x3 hxs l9 ⊢
  generalize (xNm T n 0 30 u1).2 = u2 at h3 x3 hxs ⊢
  show ((pI ((xSg T n 59 u2).2.2.1 = 0)) = 0 → mWB l g d k_X1_readStreet Φ 0 0 50 [.ref 604, .ref 587, .int w.1] [] m3 o 0 0) ∧ (¬ (pI ((xSg T n 59 u2).2.2.1 = 0)) = 0 → mCal l g d k_X1_readStreet Φ 0 0 _ 37 k_X11_put true [.ref 605, .int (m3 604 0), .int w.1] [] [.ref 604, .ref 587, .int w.1] m3 o 0 0 0)
  refine ⟨fun y => ?_, fun y => ?_⟩
  · have y0 : ¬ (pSgn T n 59 w.2).2.1 = 0 := fun q => pI_0.mp y (hxs.mpr q)
    rw [ifp_f y0] at hΦ
    refine mGoOn (mOk (by decide)) rfl [] 400 ?_
    show Φ (.inl none) m3 o ∧ 0 ≤ 0 ∧ 0 ≤ 0
    exact eR (hΦ _ ⟨_, x3, E3, h3, C3, k3⟩)
  · have y0 : (pSgn T n 59 w.2).2.1 = 0 := hxs.mp (pI_1.mp y)
    rw [ifp_t y0] at hΦ
    rw [C3.1 0 (by decide)]
    refine fCv htr (x_put m3 (a := 605) (n := 9) rfl rfl (by decide) (l9 y0) w.1) (by omega) ?_
    show (Value.ref 604).category = 1 ∧ (mWB l g d k_X1_readStreet Φ 0 0 50 [.ref 604, .ref 587, .int w.1] [] (mset (mset m3 605 (D 0).length w.1) 604 0 (((mset m3 605 (D 0).length w.1) 604 0) + (1 : Int32))) o 0 0)
    rw [mset_ne _ (a := 605) (x := 604) _ _ (by decide), C3.1 0 (by decide), nI_1]
    refine ⟨rfl, ?_⟩
    refine mGoOn (mOk (by decide)) rfl [] 400 ?_
    show Φ (.inl none) (mset (mset m3 605 (D 0).length w.1) 604 0 (nI ((D 0).length + 1))) o ∧ 0 ≤ 0 ∧ 0 ≤ 0
    refine eR (hΦ _ ⟨_, x3, eCt_trans E3 (fun a b1 b2 => by rw [mset_ne _ _ _ (by omega), mset_ne _ _ _ (by omega)]), tx_eq h3 (by rw [mset_ne _ _ _ (by decide), mset_ne _ _ _ (by decide)]) (by rw [mset_ne _ _ _ (by decide), mset_ne _ _ _ (by decide)]), dCt_0 C3 ?_ (fun j j1 j2 => ?_) ?_ (fun a b1 b2 => ?_), ?_⟩)
    · rw [mset_eq, pk_us]
    · rw [mset_eq, pk_un j1, mset_ne _ _ _ (by decide)]
    · rw [mset_ne _ _ _ (by decide), mset_eq]
    · rw [mset_ne _ _ _ (by omega), mset_ne _ _ _ (by omega)]
    · rw [mset_eq, pk_un (by decide), mset_ne _ _ _ (by decide)]; exact k3
theorem x_rdSleeper {m : Mm} {u : XS} {p0 p1 : PS} {D : CD} (h : tx T n z u m) (hn : n ≤ 600) (hx : xR T n p0 u) (hf : p0.2.1 = 0) (hD : cDok D) (hC : dCt D m) (h4 : m 604 4 = nI (tot D)) (hp1 : ifp (tot D = 60 ∨ (D 3).length = most 3) (u.2.1, 3, nI u.2.1) p0 = p1) (hu : u.2.1 ≤ n) (hd : 3 ≤ d) : mHv l g d k_X1_readSleeper [.ref 604, .ref 587] m (xQc T n z (cE T n D 3 (cB3 T n (D 0).length p1)) m) := by
  have l0 : (D 0).length ≤ 9 := (hD.2 0 (by decide)).1
  have lk : (D 3).length ≤ 8 := (hD.2 3 (by decide)).1
  refine nBv 2 rfl rfl rfl (by decide) rfl (fun htr o Φ hΦ => mGoOn (mOk (by decide)) rfl [74] 400 ?_)
  show True ∧ mCal l g d k_X1_readSleeper Φ 0 0 _ 8 k_X1_needPlace false [.ref 604, .ref 587, .int (m 604 3), .int (8 : Int32)] [] [.ref 604, .ref 587, mJ, mJ] m o 0 0 0
  rw [hC.1 3 (by decide)]
  refine ⟨trivial, nCv htr (x_needPlace (k := 3) h hx hf (by decide) hD h4 hp1 hu (by omega)) (by omega) ?_⟩
  rintro m1 ⟨u1, x1, e1, h1⟩
  have C1 := dCt_T hC e1
  show True ∧ mCal l g d k_X1_readSleeper Φ 0 0 _ 19 k_X7_number false [.ref 587, .int (0 : Int32), .int ((m1 604 0) - (1 : Int32))] [] [.ref 604, .ref 587, mJ, mJ] m1 o 0 0 1
  rw [C1.1 0 (by decide)]
  refine ⟨trivial, nCi htr (x_number h1 hn x1.1.2 0 (nI (D 0).length - 1) (by omega)) (by omega) ?_⟩
  rintro x m2 ⟨rfl, e2, h2⟩
  have r := xR_nm x1 0 (hi_1000 l0)
  have C2 := dCt_T C1 e2
  rw [← r.1]
  have lmax : (pSgn T n 59 (cB3 T n (D 0).length p1).1).2.1 = 0 → (D 3).length < 8 := fun q => by
    have hB := cB_ok (T := T) (n := n) (N := (D 0).length) (L := D 1) (k := 3) (p := p1) (by omega) x1.1.1
    have q1 := (pSgn_ok (by decide) hB.1).2 q
    have q3 := (p1_nf hp1 (hB.2.2 q1.1).1).1
    have q4 : ¬ (D 3).length = 8 := fun y => q3 (Or.inr y)
    omega
  have hce : cE T n D 3 (cB3 T n (D 0).length p1) = ifp ((pSgn T n 59 (pNum T n 0 23 (pNum T n 0 (nI (D 0).length - 1) p1).2).2).2.1 = 0) (pSgn T n 59 (pNum T n 0 23 (pNum T n 0 (nI (D 0).length - 1) p1).2).2, updD D 3 (D 3 ++ [((pNum T n 0 (nI (D 0).length - 1) p1).1, (pNum T n 0 23 (pNum T n 0 (nI (D 0).length - 1) p1).2).1, 0)])) (pSgn T n 59 (pNum T n 0 23 (pNum T n 0 (nI (D 0).length - 1) p1).2).2, D) := rfl
  have eB : (cB3 T n (D 0).length p1).1 = (pNum T n 0 23 (pNum T n 0 (nI (D 0).length - 1) p1).2).2 := rfl
  rw [hce] at hΦ
  rw [eB] at lmax
  clear hce eB
  have r2 := r.2
  generalize pNum T n 0 (nI (D 0).length - 1) p1 = w1 at hΦ lmax r2 ⊢
  generalize (xNm T n 0 (nI (D 0).length - 1) u1).2 = u2 at h2 r2
  clear r
  show True ∧ mCal l g d k_X1_readSleeper Φ 0 0 _ 27 k_X7_number false [.ref 587, .int (0 : Int32), .int (23 : Int32)] [] [.ref 604, .ref 587, .int w1.1, mJ] m2 o 0 0 1
  refine ⟨trivial, nCi htr (x_number h2 hn r2.1.2 0 23 (by omega)) (by omega) ?_⟩
  rintro x m3 ⟨rfl, e3, h3⟩
  have q := xR_nm r2 0 (hi := 23) (by decide)
  rw [← q.1]
  have q2 := q.2
  generalize pNum T n 0 23 w1.2 = w2 at hΦ lmax q2 ⊢
  generalize (xNm T n 0 23 u2).2 = u3 at h3 q2
  clear q
  show True ∧ mCal l g d k_X1_readSleeper Φ 0 0 _ 34 k_X7_needSign false [.ref 587, .int (59 : Int32)] [] [.ref 604, .ref 587, .int w1.1, .int w2.1] m3 o 0 0 1
  refine ⟨trivial, nCi htr (x_needSign h3 hn q2.1.2 59 (by omega)) (by omega) ?_⟩
  rintro x m4 ⟨rfl, e4, h4'⟩
  have x4 := xR_sg q2 (c := 59) (by decide)
  have hxs := xSg_0 (c := 59) (by decide) q2
  have C4 := dCt_T (dCt_T C2 e3) e4
  have E4 : eCt m m4 := eCt_trans (eCt_T e1) (eCt_trans (eCt_T e2) (eCt_trans (eCt_T e3) (eCt_T e4)))
  have k4 : m4 604 4 = m 604 4 := by rw [e4 604 (by decide), e3 604 (by decide), e2 604 (by decide), e1 604 (by decide)]
  show ((pI ((xSg T n 59 u3).2.2.1 = 0)) = 0 → mWB l g d k_X1_readSleeper Φ 0 0 74 [.ref 604, .ref 587, .int w1.1, .int w2.1] [] m4 o 0 0) ∧ (¬ (pI ((xSg T n 59 u3).2.2.1 = 0)) = 0 → mCal l g d k_X1_readSleeper Φ 0 0 _ 49 k_X11_put true [.ref 612, .int (m4 604 3), .int w1.1] [] [.ref 604, .ref 587, .int w1.1, .int w2.1] m4 o 0 0 0)
  refine ⟨fun y => ?_, fun y => ?_⟩
  · have y0 : ¬ (pSgn T n 59 w2.2).2.1 = 0 := fun q => pI_0.mp y (hxs.mpr q)
    rw [ifp_f y0] at hΦ
    refine mGoOn (mOk (by decide)) rfl [] 400 ?_
    show Φ (.inl none) m4 o ∧ 0 ≤ 0 ∧ 0 ≤ 0
    exact eR (hΦ _ ⟨_, x4, E4, h4', C4, k4⟩)
  · have y0 : (pSgn T n 59 w2.2).2.1 = 0 := hxs.mp (pI_1.mp y)
    rw [ifp_t y0] at hΦ
    rw [C4.1 3 (by decide)]
    refine fCv htr (x_put m4 (a := 612) (n := 8) rfl rfl (by decide) (lmax y0) w1.1) (by omega) ?_
    show mCal l g d k_X1_readSleeper Φ 0 0 _ 61 k_X11_put true [.ref 613, .int ((mset m4 612 (D 3).length w1.1) 604 3), .int w2.1] [] [.ref 604, .ref 587, .int w1.1, .int w2.1] (mset m4 612 (D 3).length w1.1) o 0 0 0
    rw [mset_ne _ (a := 612) (x := 604) _ _ (by decide), C4.1 3 (by decide)]
    refine fCv htr (x_put _ (a := 613) (n := 8) rfl rfl (by decide) (lmax y0) w2.1) (by omega) ?_
    show (Value.ref 604).category = 1 ∧ (mWB l g d k_X1_readSleeper Φ 0 0 74 [.ref 604, .ref 587, .int w1.1, .int w2.1] [] (mset (mset (mset m4 612 (D 3).length w1.1) 613 (D 3).length w2.1) 604 3 (((mset (mset m4 612 (D 3).length w1.1) 613 (D 3).length w2.1) 604 3) + (1 : Int32))) o 0 0)
    rw [mset_ne _ (a := 613) (x := 604) _ _ (by decide), mset_ne _ (a := 612) (x := 604) _ _ (by decide), C4.1 3 (by decide), nI_1]
    refine ⟨rfl, ?_⟩
    refine mGoOn (mOk (by decide)) rfl [] 400 ?_
    show Φ (.inl none) (mset (mset (mset m4 612 (D 3).length w1.1) 613 (D 3).length w2.1) 604 3 (nI ((D 3).length + 1))) o ∧ 0 ≤ 0 ∧ 0 ≤ 0
    refine eR (hΦ _ ⟨_, x4, eCt_trans E4 (fun a b1 b2 => by rw [mset_ne _ _ _ (by omega), mset_ne _ _ _ (by omega), mset_ne _ _ _ (by omega)]), tx_eq h4' (by rw [mset_ne _ _ _ (by decide), mset_ne _ _ _ (by decide), mset_ne _ _ _ (by decide)]) (by rw [mset_ne _ _ _ (by decide), mset_ne _ _ _ (by decide), mset_ne _ _ _ (by decide)]), dCt_3 C4 ?_ (fun j j1 j2 => ?_) ?_ ?_ (fun a b1 b2 => ?_), ?_⟩)
    · rw [mset_eq, pk_us]
    · rw [mset_eq, pk_un j1, mset_ne _ _ _ (by decide), mset_ne _ _ _ (by decide)]
    · rw [mset_ne _ _ _ (by decide), mset_ne _ _ _ (by decide), mset_eq]
    · rw [mset_ne _ _ _ (by decide), mset_eq, mset_ne _ _ _ (by decide)]
    · rw [mset_ne _ _ _ (by omega), mset_ne _ _ _ (by omega), mset_ne _ _ _ (by omega)]
    · rw [mset_eq, pk_un (by decide), mset_ne _ _ _ (by decide), mset_ne _ _ _ (by decide)]; exact k4
theorem x_rdMan {m : Mm} {u : XS} {p0 p1 : PS} {D : CD} (h : tx T n z u m) (hn : n ≤ 600) (hx : xR T n p0 u) (hf : p0.2.1 = 0) (hD : cDok D) (hC : dCt D m) (h4 : m 604 4 = nI (tot D)) (hp1 : ifp (tot D = 60 ∨ (D 2).length = most 2) (u.2.1, 3, nI u.2.1) p0 = p1) (hu : u.2.1 ≤ n) (hd : 3 ≤ d) : mHv l g d k_X1_readMan [.ref 604, .ref 587] m (xQc T n z (cE T n D 2 (cB2 T n (D 0).length p1)) m) := by
  have l0 : (D 0).length ≤ 9 := (hD.2 0 (by decide)).1
  have lk : (D 2).length ≤ 6 := (hD.2 2 (by decide)).1
  refine nBv 3 rfl rfl rfl (by decide) rfl (fun htr o Φ hΦ => mGoOn (mOk (by decide)) rfl [96] 400 ?_)
  show True ∧ mCal l g d k_X1_readMan Φ 0 0 _ 8 k_X1_needPlace false [.ref 604, .ref 587, .int (m 604 2), .int (6 : Int32)] [] [.ref 604, .ref 587, mJ, mJ, mJ] m o 0 0 0
  rw [hC.1 2 (by decide)]
  refine ⟨trivial, nCv htr (x_needPlace (k := 2) h hx hf (by decide) hD h4 hp1 hu (by omega)) (by omega) ?_⟩
  rintro m1 ⟨u1, x1, e1, h1⟩
  have C1 := dCt_T hC e1
  show True ∧ mCal l g d k_X1_readMan Φ 0 0 _ 19 k_X7_number false [.ref 587, .int (0 : Int32), .int ((m1 604 0) - (1 : Int32))] [] [.ref 604, .ref 587, mJ, mJ, mJ] m1 o 0 0 1
  rw [C1.1 0 (by decide)]
  refine ⟨trivial, nCi htr (x_number h1 hn x1.1.2 0 (nI (D 0).length - 1) (by omega)) (by omega) ?_⟩
  rintro x m2 ⟨rfl, e2, h2⟩
  have r := xR_nm x1 0 (hi_1000 l0)
  have C2 := dCt_T C1 e2
  rw [← r.1]
  have lmax : (pSgn T n 59 (cB2 T n (D 0).length p1).1).2.1 = 0 → (D 2).length < 6 := fun q => by
    have hB := cB_ok (T := T) (n := n) (N := (D 0).length) (L := D 1) (k := 2) (p := p1) (by omega) x1.1.1
    have q1 := (pSgn_ok (by decide) hB.1).2 q
    have q3 := (p1_nf hp1 (hB.2.2 q1.1).1).1
    have q4 : ¬ (D 2).length = 6 := fun y => q3 (Or.inr y)
    omega
  have hce : cE T n D 2 (cB2 T n (D 0).length p1) = ifp ((pSgn T n 59 (pNum T n 1 24 (pNum T n 0 23 (pNum T n 0 (nI (D 0).length - 1) p1).2).2).2).2.1 = 0) (pSgn T n 59 (pNum T n 1 24 (pNum T n 0 23 (pNum T n 0 (nI (D 0).length - 1) p1).2).2).2, updD D 2 (D 2 ++ [((pNum T n 0 (nI (D 0).length - 1) p1).1, (pNum T n 0 23 (pNum T n 0 (nI (D 0).length - 1) p1).2).1, (pNum T n 1 24 (pNum T n 0 23 (pNum T n 0 (nI (D 0).length - 1) p1).2).2).1)])) (pSgn T n 59 (pNum T n 1 24 (pNum T n 0 23 (pNum T n 0 (nI (D 0).length - 1) p1).2).2).2, D) := rfl
  have eB : (cB2 T n (D 0).length p1).1 = (pNum T n 1 24 (pNum T n 0 23 (pNum T n 0 (nI (D 0).length - 1) p1).2).2).2 := rfl
  rw [hce] at hΦ
  rw [eB] at lmax
  clear hce eB
  have r2 := r.2
  generalize pNum T n 0 (nI (D 0).length - 1) p1 = w1 at hΦ lmax r2 ⊢
  generalize (xNm T n 0 (nI (D 0).length - 1) u1).2 = u2 at h2 r2
  clear r
  show True ∧ mCal l g d k_X1_readMan Φ 0 0 _ 27 k_X7_number false [.ref 587, .int (0 : Int32), .int (23 : Int32)] [] [.ref 604, .ref 587, .int w1.1, mJ, mJ] m2 o 0 0 1
  refine ⟨trivial, nCi htr (x_number h2 hn r2.1.2 0 23 (by omega)) (by omega) ?_⟩
  rintro x m3 ⟨rfl, e3, h3⟩
  have q := xR_nm r2 0 (hi := 23) (by decide)
  rw [← q.1]
  have q2 := q.2
  generalize pNum T n 0 23 w1.2 = w2 at hΦ lmax q2 ⊢
  generalize (xNm T n 0 23 u2).2 = u3 at h3 q2
  clear q
  show True ∧ mCal l g d k_X1_readMan Φ 0 0 _ 35 k_X7_number false [.ref 587, .int (1 : Int32), .int (24 : Int32)] [] [.ref 604, .ref 587, .int w1.1, .int w2.1, mJ] m3 o 0 0 1
  refine ⟨trivial, nCi htr (x_number h3 hn q2.1.2 1 24 (by omega)) (by omega) ?_⟩
  rintro x m5 ⟨rfl, e5, h5⟩
  have q := xR_nm q2 1 (hi := 24) (by decide)
  rw [← q.1]
  have q3 := q.2
  generalize pNum T n 1 24 w2.2 = w3 at hΦ lmax q3 ⊢
  generalize (xNm T n 1 24 u3).2 = u4 at h5 q3
  clear q
  show True ∧ mCal l g d k_X1_readMan Φ 0 0 _ 43 k_X7_needSign false [.ref 587, .int (59 : Int32)] [] [.ref 604, .ref 587, .int w1.1, .int w2.1, .int w3.1] m5 o 0 0 1
  refine ⟨trivial, nCi htr (x_needSign h5 hn q3.1.2 59 (by omega)) (by omega) ?_⟩
  rintro x m4 ⟨rfl, e4, h4'⟩
  have x4 := xR_sg q3 (c := 59) (by decide)
  have hxs := xSg_0 (c := 59) (by decide) q3
  have C4 := dCt_T (dCt_T (dCt_T C2 e3) e5) e4
  have E4 : eCt m m4 := eCt_trans (eCt_T e1) (eCt_trans (eCt_T e2) (eCt_trans (eCt_T e3) (eCt_trans (eCt_T e5) (eCt_T e4))))
  have k4 : m4 604 4 = m 604 4 := by rw [e4 604 (by decide), e5 604 (by decide), e3 604 (by decide), e2 604 (by decide), e1 604 (by decide)]
  show ((pI ((xSg T n 59 u4).2.2.1 = 0)) = 0 → mWB l g d k_X1_readMan Φ 0 0 96 [.ref 604, .ref 587, .int w1.1, .int w2.1, .int w3.1] [] m4 o 0 0) ∧ (¬ (pI ((xSg T n 59 u4).2.2.1 = 0)) = 0 → mCal l g d k_X1_readMan Φ 0 0 _ 58 k_X11_put true [.ref 609, .int (m4 604 2), .int w1.1] [] [.ref 604, .ref 587, .int w1.1, .int w2.1, .int w3.1] m4 o 0 0 0)
  refine ⟨fun y => ?_, fun y => ?_⟩
  · have y0 : ¬ (pSgn T n 59 w3.2).2.1 = 0 := fun q => pI_0.mp y (hxs.mpr q)
    rw [ifp_f y0] at hΦ
    refine mGoOn (mOk (by decide)) rfl [] 400 ?_
    show Φ (.inl none) m4 o ∧ 0 ≤ 0 ∧ 0 ≤ 0
    exact eR (hΦ _ ⟨_, x4, E4, h4', C4, k4⟩)
  · have y0 : (pSgn T n 59 w3.2).2.1 = 0 := hxs.mp (pI_1.mp y)
    rw [ifp_t y0] at hΦ
    rw [C4.1 2 (by decide)]
    refine fCv htr (x_put m4 (a := 609) (n := 6) rfl rfl (by decide) (lmax y0) w1.1) (by omega) ?_
    show mCal l g d k_X1_readMan Φ 0 0 _ 70 k_X11_put true [.ref 610, .int ((mset m4 609 (D 2).length w1.1) 604 2), .int w2.1] [] [.ref 604, .ref 587, .int w1.1, .int w2.1, .int w3.1] (mset m4 609 (D 2).length w1.1) o 0 0 0
    rw [mset_ne _ (a := 609) (x := 604) _ _ (by decide), C4.1 2 (by decide)]
    refine fCv htr (x_put _ (a := 610) (n := 6) rfl rfl (by decide) (lmax y0) w2.1) (by omega) ?_
    show mCal l g d k_X1_readMan Φ 0 0 _ 83 k_X11_put true [.ref 611, .int ((mset (mset m4 609 (D 2).length w1.1) 610 (D 2).length w2.1) 604 2), .int w3.1] [] [.ref 604, .ref 587, .int w1.1, .int w2.1, .int w3.1] (mset (mset m4 609 (D 2).length w1.1) 610 (D 2).length w2.1) o 0 0 0
    rw [mset_ne _ (a := 610) (x := 604) _ _ (by decide), mset_ne _ (a := 609) (x := 604) _ _ (by decide), C4.1 2 (by decide)]
    refine fCv htr (x_put _ (a := 611) (n := 6) rfl rfl (by decide) (lmax y0) w3.1) (by omega) ?_
    show (Value.ref 604).category = 1 ∧ (mWB l g d k_X1_readMan Φ 0 0 96 [.ref 604, .ref 587, .int w1.1, .int w2.1, .int w3.1] [] (mset (mset (mset (mset m4 609 (D 2).length w1.1) 610 (D 2).length w2.1) 611 (D 2).length w3.1) 604 2 (((mset (mset (mset m4 609 (D 2).length w1.1) 610 (D 2).length w2.1) 611 (D 2).length w3.1) 604 2) + (1 : Int32))) o 0 0)
    rw [mset_ne _ (a := 611) (x := 604) _ _ (by decide), mset_ne _ (a := 610) (x := 604) _ _ (by decide), mset_ne _ (a := 609) (x := 604) _ _ (by decide), C4.1 2 (by decide), nI_1]
    refine ⟨rfl, ?_⟩
    refine mGoOn (mOk (by decide)) rfl [] 400 ?_
    show Φ (.inl none) (mset (mset (mset (mset m4 609 (D 2).length w1.1) 610 (D 2).length w2.1) 611 (D 2).length w3.1) 604 2 (nI ((D 2).length + 1))) o ∧ 0 ≤ 0 ∧ 0 ≤ 0
    refine eR (hΦ _ ⟨_, x4, eCt_trans E4 (fun a b1 b2 => by rw [mset_ne _ _ _ (by omega), mset_ne _ _ _ (by omega), mset_ne _ _ _ (by omega), mset_ne _ _ _ (by omega)]), tx_eq h4' (by rw [mset_ne _ _ _ (by decide), mset_ne _ _ _ (by decide), mset_ne _ _ _ (by decide), mset_ne _ _ _ (by decide)]) (by rw [mset_ne _ _ _ (by decide), mset_ne _ _ _ (by decide), mset_ne _ _ _ (by decide), mset_ne _ _ _ (by decide)]), dCt_2 C4 ?_ (fun j j1 j2 => ?_) ?_ ?_ ?_ (fun a b1 b2 b3 => ?_), ?_⟩)
    · rw [mset_eq, pk_us]
    · rw [mset_eq, pk_un j1, mset_ne _ _ _ (by decide), mset_ne _ _ _ (by decide), mset_ne _ _ _ (by decide)]
    · rw [mset_ne _ _ _ (by decide), mset_ne _ _ _ (by decide), mset_ne _ _ _ (by decide), mset_eq]
    · rw [mset_ne _ _ _ (by decide), mset_ne _ _ _ (by decide), mset_eq, mset_ne _ _ _ (by decide)]
    · rw [mset_ne _ _ _ (by decide), mset_eq, mset_ne _ _ _ (by decide), mset_ne _ _ _ (by decide)]
    · rw [mset_ne _ _ _ (by omega), mset_ne _ _ _ (by omega), mset_ne _ _ _ (by omega), mset_ne _ _ _ (by omega)]
    · rw [mset_eq, pk_un (by decide), mset_ne _ _ _ (by decide), mset_ne _ _ _ (by decide), mset_ne _ _ _ (by decide)]; exact k4
end XCi
