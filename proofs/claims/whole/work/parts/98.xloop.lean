set_option maxRecDepth 100000
theorem opP_u {a b : Nat} {c : Int32} (h : opP a c) (h2 : opP b c) : a = b := by
  rcases h with ⟨rfl, rfl⟩ | ⟨rfl, rfl⟩ | ⟨rfl, rfl⟩ <;> rcases h2 with ⟨rfl, e⟩ | ⟨rfl, e⟩ | ⟨rfl, e⟩ <;> first | rfl | exact absurd e (by decide)
theorem opS_u {a b : Nat} {c : Int32} (h : opS a c) (h2 : opS b c) : a = b := by
  rcases h with ⟨rfl, rfl⟩ | ⟨rfl, rfl⟩ <;> rcases h2 with ⟨rfl, e⟩ | ⟨rfl, e⟩ <;> first | rfl | exact absurd e (by decide)
theorem opP_c {a : Nat} {c : Int32} (h : opP a c) : 2000 + c = cdW a 0 := by
  rcases h with ⟨rfl, rfl⟩ | ⟨rfl, rfl⟩ | ⟨rfl, rfl⟩ <;> decide
theorem opS_c {a : Nat} {c : Int32} (h : opS a c) : 2000 + c = cdW a 0 := by
  rcases h with ⟨rfl, rfl⟩ | ⟨rfl, rfl⟩ <;> decide
def xLP (l : Launch) (g : mG) (T : Nat → Int32) (n : Nat) (z : Int32) (f : Nat) : Prop := l.stackTraces = false → ∀ (d k : Nat) (s s' : QS) (t : XS) (m : Mm) (o : Int64) (Φ : mR → Mm → Int64 → Prop) (i : Nat), 4 * (6 - k) + 11 ≤ d → k ≤ 6 → Lw T n f 1 k s s' → i ≤ s.1.1 → xR T n s.1 t → s.2.length ≤ s.1.1 → okL s.2 0 → (s.1.2.1 = 0 → 1 ≤ hg s.2 0) → tx T n z t m → (s.1.2.1 = 0 → dLw s.2 m) → (∀ m2, xQ T n z s' m m2 → Φ (.inl none) m2 o) → mWB l g d k_X4_readProduct Φ 0 0 8 [.ref 614, .ref 587, .int (nI k), .int (nI i), mJ] [] m o 0 0
def xLS (l : Launch) (g : mG) (T : Nat → Int32) (n : Nat) (z : Int32) (f : Nat) : Prop := l.stackTraces = false → ∀ (d k : Nat) (s s' : QS) (t : XS) (m : Mm) (o : Int64) (Φ : mR → Mm → Int64 → Prop) (i : Nat), 4 * (6 - k) + 12 ≤ d → k ≤ 6 → Lw T n f 3 k s s' → i ≤ s.1.1 → xR T n s.1 t → s.2.length ≤ s.1.1 → okL s.2 0 → (s.1.2.1 = 0 → 1 ≤ hg s.2 0) → tx T n z t m → (s.1.2.1 = 0 → dLw s.2 m) → (∀ m2, xQ T n z s' m m2 → Φ (.inl none) m2 o) → mWB l g d k_X4_readSum Φ 0 0 8 [.ref 614, .ref 587, .int (nI k), .int (nI i), mJ] [] m o 0 0
section XLo
variable {l : Launch} {g : mG} {T : Nat → Int32} {n : Nat} {z : Int32}
theorem x_prodL (hn : n ≤ 150) {f : Nat} (IH0 : xC l g T n z k_X4_readUnit 0 10 f) (IH1 : xLP l g T n z f) : xLP l g T n z (f + 1) := by
  intro htr d k s s' t m o Φ i hd hk hL hi hx hlen hok hhg h hD hΦ
  have hxn := hx.1.1
  refine mGoOn (mOk (by decide)) rfl [50] 400 ?_
  show ((150 : Int32) ≤ (nI i) → Φ (.inl none) m o ∧ 0 ≤ 0 ∧ 0 ≤ 0) ∧ (¬ (150 : Int32) ≤ (nI i) → True ∧ mCal l g d k_X4_readProduct Φ 0 0 _ 16 k_X7_good false [.ref 587] [] [.ref 614, .ref 587, .int (nI k), .int (nI i), mJ] m o 0 0 1)
  rw [show (150 : Int32) = nI 150 from rfl, nI_leI (by decide) (by omega)]
  by_cases hf : s.1.2.1 = 0
  · obtain ⟨t1, t2, t3⟩ := xR_at hx hf
    have hqn := skp_in (T := T) hx.1.1
    have hqq := skp_skp (T := T) hx.1.1
    have hge := skp_ge (T := T) hx.1.1
    have hL' : LL T n opP (Lw T n f 0) (Lw T n f 1) k s s' := by
      rcases hL with ⟨q, _⟩ | ⟨_, ⟨q, _⟩ | ⟨q, L⟩ | ⟨q, _⟩ | ⟨q, L⟩ | ⟨q, _⟩⟩
      · exact absurd hf q
      all_goals first | exact L | exact absurd q (by decide)
    have hend : (∀ a, ¬ opP a (bAt T n (skp T n s.1.1))) → ∀ t', t' = t ∨ t' = xLk T n t → ∀ m2, eT m m2 → tx T n z t' m2 → Φ (.inl none) m2 o := by
      intro hno t' ht' m2 e2 h2
      rcases hL' with ⟨a, ho, _⟩ | ⟨_, rfl⟩
      · exact absurd ho (hno a)
      · refine hΦ _ ⟨t', ?_, eLw_T e2, h2, fun _ => dLw_T e2 (hD hf)⟩
        rcases ht' with rfl | rfl
        · exact xR_bl hx
        · exact xR_bl (xR_lk hx)
    refine ⟨fun q => ?_, fun q => ⟨trivial, fCi htr (x_good h) (by omega) ?_⟩⟩
    · refine eR (hend (fun a ho => ?_) t (Or.inl rfl) m (eT_refl m) h)
      have := bAt_lt (T := T) rfl (opP_n ho).1
      omega
    show ((pI (t.2.2.1 = 0)) = 0 → Φ (.inl none) m o ∧ 0 ≤ 0 ∧ 0 ≤ 0) ∧ (¬ (pI (t.2.2.1 = 0)) = 0 → True ∧ mCal l g d k_X4_readProduct Φ 0 0 _ 23 k_X7_look false [.ref 587] [] [.ref 614, .ref 587, .int (nI k), .int (nI i), mJ] m o 0 0 1)
    refine ⟨fun y => absurd t1 (pI_0.mp y), fun _ => ⟨trivial, nCi htr (x_look h (by omega) hx.1.2 (by omega)) (by omega) ?_⟩⟩
    rintro x m1 ⟨rfl, e1, h1⟩
    rw [t3]
    have kp : ∀ a, 2 ≤ a → a ≤ 8 → opP a (bAt T n (skp T n s.1.1)) → mWB l g d k_X4_readProduct Φ 0 0 50 [.ref 614, .ref 587, .int (nI k), .int (nI i), .int (bAt T n (skp T n s.1.1))] [] m1 o 0 0 := by
      intro a ha2 ha8 hop
      have hlt := bAt_lt (T := T) rfl (opP_n hop).1
      obtain ⟨s1, L1, L2⟩ : ∃ s1, Lw T n f 0 k ((skp T n s.1.1 + 1, s.1.2), s.2) s1 ∧ Lw T n f 1 k (lNt a 0 s1) s' := by
        rcases hL' with ⟨a', ho, s1, q1, q2⟩ | ⟨hno, _⟩
        · rw [opP_u hop ho]; exact ⟨s1, q1, q2⟩
        · exact absurd hop (hno a)
      refine mGoOn (mOk (by decide)) rfl [8] 400 ?_
      show True ∧ mCal l g d k_X4_readProduct Φ 0 0 _ 51 k_X7_pass false [.ref 587] [] [.ref 614, .ref 587, .int (nI k), .int (nI i), .int (bAt T n (skp T n s.1.1))] m1 o 0 0 0
      refine ⟨trivial, nCv htr (x_pass h1) (by omega) ?_⟩
      rintro m2 ⟨e2, h2⟩
      show True ∧ mCal l g d k_X4_readProduct Φ 0 0 _ 57 k_X4_readUnit false [.ref 614, .ref 587, .int (nI k)] [] [.ref 614, .ref 587, .int (nI k), .int (nI i), .int (bAt T n (skp T n s.1.1))] m2 o 0 0 0
      have hx1 : xR T n (skp T n s.1.1 + 1, s.1.2) (xPs (xLk T n t)) := xR_mk hlt hf (by show skp T n t.1 + 1 = _; rw [t3]) t1 t2
      have D2 := dLw_T e2 (dLw_T e1 (hD hf))
      have hlen2 : s.2.length ≤ skp T n s.1.1 + 1 := by omega
      refine ⟨trivial, nCv htr (IH0 (d - 1) k ((skp T n s.1.1 + 1, s.1.2), s.2) s1 (xPs (xLk T n t)) m2 (by omega) hk L1 hx1 hlen2 hok h2 (fun _ => D2)) (by omega) ?_⟩
      rintro m3 ⟨t', x3, e3, h3, d3⟩
      show True ∧ mCal l g d k_X4_readProduct Φ 0 0 _ 67 k_X4_add false [.ref 614, .int ((2000 : Int32) + (bAt T n (skp T n s.1.1)))] [] [.ref 614, .ref 587, .int (nI k), .int (nI i), .int (bAt T n (skp T n s.1.1))] m3 o 0 0 0
      have B := Lw_ok _ _ _ _ _ L1 hlt hok (fun z => by omega)
      have B3 : s1.2.length + (skp T n s.1.1 + 1) ≤ s1.1.1 + s.2.length := B.2.2.1
      have B1 : s1.1.1 ≤ n := B.1.1
      have B2 : skp T n s.1.1 + 1 ≤ s1.1.1 := B.1.2
      have C : Aft n 0 s (lNt a 0 s1) := by
        refine Aft_nt (v := 1) (Aft_up (s := s) B (by show s.1.1 ≤ skp T n s.1.1 + 1; omega) rfl rfl) (fun q => ?_) (fun q => ?_) (fun q => ?_)
        · omega
        · have e : hg s1.2 0 = hg s.2 0 + 1 := B.2.2.2.2 q
          have := hhg hf
          exact ⟨ha8, (by decide : (0 : Nat) ≤ 999), fun z => absurd z (by show ¬ a = 1; omega), fun _ => by rw [e]; omega⟩
        · rw [if_neg (by omega)]; omega
      refine ⟨trivial, nCv htr (x_add m3 _ (by omega)) (by omega) ?_⟩
      intro m4 h4
      obtain ⟨t4, x4, e4, g4, d4⟩ := xQ_add (a := a) (b := 0) x3 h3 (eLw_trans (eLw_T e1) (eLw_trans (eLw_T e2) e3)) d3 (fun _ => by omega) (fun _ => opP_c hop) h4
      show mWB l g d k_X4_readProduct Φ 0 0 8 [.ref 614, .ref 587, .int (nI k), .int ((nI i) + (1 : Int32)), .int (bAt T n (skp T n s.1.1))] [] m4 o 0 0
      rw [nI_1]
      have hlen4 : (lNt a 0 s1).2.length ≤ (lNt a 0 s1).1.1 := by have := C.2.2.1; omega
      have kk := IH1 htr d k (lNt a 0 s1) s' t4 m4 o Φ (i + 1) hd hk L2 (by rw [lNt_1]; omega) x4 hlen4 C.2.2.2.1 (fun q => by rw [C.2.2.2.2 q]; exact hhg hf) g4 d4 (fun m5 h5 => hΦ m5 (xQ_tr e4 h5))
      exact mWB_wk kk ⟨Or.inr rfl, Or.inr rfl, Or.inr rfl, Or.inr rfl, Or.inl rfl, trivial⟩
    show ((bAt T n (skp T n s.1.1)) = (42 : Int32) → mWB l g d k_X4_readProduct Φ 0 0 50 [.ref 614, .ref 587, .int (nI k), .int (nI i), .int (bAt T n (skp T n s.1.1))] [] m1 o 0 0) ∧ (¬ (bAt T n (skp T n s.1.1)) = (42 : Int32) → ((bAt T n (skp T n s.1.1)) = (47 : Int32) → mWB l g d k_X4_readProduct Φ 0 0 50 [.ref 614, .ref 587, .int (nI k), .int (nI i), .int (bAt T n (skp T n s.1.1))] [] m1 o 0 0) ∧ (¬ (bAt T n (skp T n s.1.1)) = (47 : Int32) → ((bAt T n (skp T n s.1.1)) = (37 : Int32) → mWB l g d k_X4_readProduct Φ 0 0 50 [.ref 614, .ref 587, .int (nI k), .int (nI i), .int (bAt T n (skp T n s.1.1))] [] m1 o 0 0) ∧ (¬ (bAt T n (skp T n s.1.1)) = (37 : Int32) → Φ (.inl none) m1 o ∧ 0 ≤ 0 ∧ 0 ≤ 0)))
    refine ⟨fun y42 => kp 4 (by decide) (by decide) (by rw [y42]; unfold opP; decide), fun y42 => ⟨fun y47 => kp 5 (by decide) (by decide) (by rw [y47]; unfold opP; decide), fun y47 => ⟨fun y37 => kp 6 (by decide) (by decide) (by rw [y37]; unfold opP; decide), fun y37 => eR (hend ?_ _ (Or.inr rfl) m1 e1 h1)⟩⟩⟩
    intro a ho
    rcases ho with ⟨_, e⟩ | ⟨_, e⟩ | ⟨_, e⟩
    · exact y42 e
    · exact y47 e
    · exact y37 e
  · have e := Lw_fe hf hL
    subst e
    have t1 : t.2.2.1 ≠ 0 := fun y => hf ((xR_kd hx).mpr y)
    have hfin := hΦ m ⟨t, hx, eLw_refl m, h, fun y => absurd y hf⟩
    refine ⟨fun q => eR hfin, fun q => ⟨trivial, fCi htr (x_good h) (by omega) ?_⟩⟩
    show ((pI (t.2.2.1 = 0)) = 0 → Φ (.inl none) m o ∧ 0 ≤ 0 ∧ 0 ≤ 0) ∧ (¬ (pI (t.2.2.1 = 0)) = 0 → True ∧ mCal l g d k_X4_readProduct Φ 0 0 _ 23 k_X7_look false [.ref 587] [] [.ref 614, .ref 587, .int (nI k), .int (nI i), mJ] m o 0 0 1)
    exact ⟨fun _ => eR hfin, fun y => absurd (pI_1.mp y) t1⟩
theorem x_sumL (hn : n ≤ 150) {f : Nat} (IH0 : xC l g T n z k_X4_readProduct 2 11 f) (IH1 : xLS l g T n z f) : xLS l g T n z (f + 1) := by
  intro htr d k s s' t m o Φ i hd hk hL hi hx hlen hok hhg h hD hΦ
  have hxn := hx.1.1
  refine mGoOn (mOk (by decide)) rfl [43] 400 ?_
  show ((150 : Int32) ≤ (nI i) → Φ (.inl none) m o ∧ 0 ≤ 0 ∧ 0 ≤ 0) ∧ (¬ (150 : Int32) ≤ (nI i) → True ∧ mCal l g d k_X4_readSum Φ 0 0 _ 16 k_X7_good false [.ref 587] [] [.ref 614, .ref 587, .int (nI k), .int (nI i), mJ] m o 0 0 1)
  rw [show (150 : Int32) = nI 150 from rfl, nI_leI (by decide) (by omega)]
  by_cases hf : s.1.2.1 = 0
  · obtain ⟨t1, t2, t3⟩ := xR_at hx hf
    have hqn := skp_in (T := T) hx.1.1
    have hqq := skp_skp (T := T) hx.1.1
    have hge := skp_ge (T := T) hx.1.1
    have hL' : LL T n opS (Lw T n f 2) (Lw T n f 3) k s s' := by
      rcases hL with ⟨q, _⟩ | ⟨_, ⟨q, _⟩ | ⟨q, L⟩ | ⟨q, _⟩ | ⟨q, L⟩ | ⟨q, _⟩⟩
      · exact absurd hf q
      all_goals first | exact L | exact absurd q (by decide)
    have hend : (∀ a, ¬ opS a (bAt T n (skp T n s.1.1))) → ∀ t', t' = t ∨ t' = xLk T n t → ∀ m2, eT m m2 → tx T n z t' m2 → Φ (.inl none) m2 o := by
      intro hno t' ht' m2 e2 h2
      rcases hL' with ⟨a, ho, _⟩ | ⟨_, rfl⟩
      · exact absurd ho (hno a)
      · refine hΦ _ ⟨t', ?_, eLw_T e2, h2, fun _ => dLw_T e2 (hD hf)⟩
        rcases ht' with rfl | rfl
        · exact xR_bl hx
        · exact xR_bl (xR_lk hx)
    refine ⟨fun q => ?_, fun q => ⟨trivial, fCi htr (x_good h) (by omega) ?_⟩⟩
    · refine eR (hend (fun a ho => ?_) t (Or.inl rfl) m (eT_refl m) h)
      have := bAt_lt (T := T) rfl (opS_n ho).1
      omega
    show ((pI (t.2.2.1 = 0)) = 0 → Φ (.inl none) m o ∧ 0 ≤ 0 ∧ 0 ≤ 0) ∧ (¬ (pI (t.2.2.1 = 0)) = 0 → True ∧ mCal l g d k_X4_readSum Φ 0 0 _ 23 k_X7_look false [.ref 587] [] [.ref 614, .ref 587, .int (nI k), .int (nI i), mJ] m o 0 0 1)
    refine ⟨fun y => absurd t1 (pI_0.mp y), fun _ => ⟨trivial, nCi htr (x_look h (by omega) hx.1.2 (by omega)) (by omega) ?_⟩⟩
    rintro x m1 ⟨rfl, e1, h1⟩
    rw [t3]
    have kp : ∀ a, 2 ≤ a → a ≤ 8 → opS a (bAt T n (skp T n s.1.1)) → mWB l g d k_X4_readSum Φ 0 0 43 [.ref 614, .ref 587, .int (nI k), .int (nI i), .int (bAt T n (skp T n s.1.1))] [] m1 o 0 0 := by
      intro a ha2 ha8 hop
      have hlt := bAt_lt (T := T) rfl (opS_n hop).1
      obtain ⟨s1, L1, L2⟩ : ∃ s1, Lw T n f 2 k ((skp T n s.1.1 + 1, s.1.2), s.2) s1 ∧ Lw T n f 3 k (lNt a 0 s1) s' := by
        rcases hL' with ⟨a', ho, s1, q1, q2⟩ | ⟨hno, _⟩
        · rw [opS_u hop ho]; exact ⟨s1, q1, q2⟩
        · exact absurd hop (hno a)
      refine mGoOn (mOk (by decide)) rfl [8] 400 ?_
      show True ∧ mCal l g d k_X4_readSum Φ 0 0 _ 44 k_X7_pass false [.ref 587] [] [.ref 614, .ref 587, .int (nI k), .int (nI i), .int (bAt T n (skp T n s.1.1))] m1 o 0 0 0
      refine ⟨trivial, nCv htr (x_pass h1) (by omega) ?_⟩
      rintro m2 ⟨e2, h2⟩
      show True ∧ mCal l g d k_X4_readSum Φ 0 0 _ 50 k_X4_readProduct false [.ref 614, .ref 587, .int (nI k)] [] [.ref 614, .ref 587, .int (nI k), .int (nI i), .int (bAt T n (skp T n s.1.1))] m2 o 0 0 0
      have hx1 : xR T n (skp T n s.1.1 + 1, s.1.2) (xPs (xLk T n t)) := xR_mk hlt hf (by show skp T n t.1 + 1 = _; rw [t3]) t1 t2
      have D2 := dLw_T e2 (dLw_T e1 (hD hf))
      have hlen2 : s.2.length ≤ skp T n s.1.1 + 1 := by omega
      refine ⟨trivial, nCv htr (IH0 (d - 1) k ((skp T n s.1.1 + 1, s.1.2), s.2) s1 (xPs (xLk T n t)) m2 (by omega) hk L1 hx1 hlen2 hok h2 (fun _ => D2)) (by omega) ?_⟩
      rintro m3 ⟨t', x3, e3, h3, d3⟩
      show True ∧ mCal l g d k_X4_readSum Φ 0 0 _ 60 k_X4_add false [.ref 614, .int ((2000 : Int32) + (bAt T n (skp T n s.1.1)))] [] [.ref 614, .ref 587, .int (nI k), .int (nI i), .int (bAt T n (skp T n s.1.1))] m3 o 0 0 0
      have B := Lw_ok _ _ _ _ _ L1 hlt hok (fun z => by omega)
      have B3 : s1.2.length + (skp T n s.1.1 + 1) ≤ s1.1.1 + s.2.length := B.2.2.1
      have B1 : s1.1.1 ≤ n := B.1.1
      have B2 : skp T n s.1.1 + 1 ≤ s1.1.1 := B.1.2
      have C : Aft n 0 s (lNt a 0 s1) := by
        refine Aft_nt (v := 1) (Aft_up (s := s) B (by show s.1.1 ≤ skp T n s.1.1 + 1; omega) rfl rfl) (fun q => ?_) (fun q => ?_) (fun q => ?_)
        · omega
        · have e : hg s1.2 0 = hg s.2 0 + 1 := B.2.2.2.2 q
          have := hhg hf
          exact ⟨ha8, (by decide : (0 : Nat) ≤ 999), fun z => absurd z (by show ¬ a = 1; omega), fun _ => by rw [e]; omega⟩
        · rw [if_neg (by omega)]; omega
      refine ⟨trivial, nCv htr (x_add m3 _ (by omega)) (by omega) ?_⟩
      intro m4 h4
      obtain ⟨t4, x4, e4, g4, d4⟩ := xQ_add (a := a) (b := 0) x3 h3 (eLw_trans (eLw_T e1) (eLw_trans (eLw_T e2) e3)) d3 (fun _ => by omega) (fun _ => opS_c hop) h4
      show mWB l g d k_X4_readSum Φ 0 0 8 [.ref 614, .ref 587, .int (nI k), .int ((nI i) + (1 : Int32)), .int (bAt T n (skp T n s.1.1))] [] m4 o 0 0
      rw [nI_1]
      have hlen4 : (lNt a 0 s1).2.length ≤ (lNt a 0 s1).1.1 := by have := C.2.2.1; omega
      have kk := IH1 htr d k (lNt a 0 s1) s' t4 m4 o Φ (i + 1) hd hk L2 (by rw [lNt_1]; omega) x4 hlen4 C.2.2.2.1 (fun q => by rw [C.2.2.2.2 q]; exact hhg hf) g4 d4 (fun m5 h5 => hΦ m5 (xQ_tr e4 h5))
      exact mWB_wk kk ⟨Or.inr rfl, Or.inr rfl, Or.inr rfl, Or.inr rfl, Or.inl rfl, trivial⟩
    show ((bAt T n (skp T n s.1.1)) = (43 : Int32) → mWB l g d k_X4_readSum Φ 0 0 43 [.ref 614, .ref 587, .int (nI k), .int (nI i), .int (bAt T n (skp T n s.1.1))] [] m1 o 0 0) ∧ (¬ (bAt T n (skp T n s.1.1)) = (43 : Int32) → ((bAt T n (skp T n s.1.1)) = (45 : Int32) → mWB l g d k_X4_readSum Φ 0 0 43 [.ref 614, .ref 587, .int (nI k), .int (nI i), .int (bAt T n (skp T n s.1.1))] [] m1 o 0 0) ∧ (¬ (bAt T n (skp T n s.1.1)) = (45 : Int32) → Φ (.inl none) m1 o ∧ 0 ≤ 0 ∧ 0 ≤ 0))
    refine ⟨fun y43 => kp 2 (by decide) (by decide) (by rw [y43]; unfold opS; decide), fun y43 => ⟨fun y45 => kp 3 (by decide) (by decide) (by rw [y45]; unfold opS; decide), fun y45 => eR (hend ?_ _ (Or.inr rfl) m1 e1 h1)⟩⟩
    intro a ho
    rcases ho with ⟨_, e⟩ | ⟨_, e⟩
    · exact y43 e
    · exact y45 e
  · have e := Lw_fe hf hL
    subst e
    have t1 : t.2.2.1 ≠ 0 := fun y => hf ((xR_kd hx).mpr y)
    have hfin := hΦ m ⟨t, hx, eLw_refl m, h, fun y => absurd y hf⟩
    refine ⟨fun q => eR hfin, fun q => ⟨trivial, fCi htr (x_good h) (by omega) ?_⟩⟩
    show ((pI (t.2.2.1 = 0)) = 0 → Φ (.inl none) m o ∧ 0 ≤ 0 ∧ 0 ≤ 0) ∧ (¬ (pI (t.2.2.1 = 0)) = 0 → True ∧ mCal l g d k_X4_readSum Φ 0 0 _ 23 k_X7_look false [.ref 587] [] [.ref 614, .ref 587, .int (nI k), .int (nI i), mJ] m o 0 0 1)
    exact ⟨fun _ => eR hfin, fun y => absurd (pI_1.mp y) t1⟩
theorem x_prodN {f : Nat} (IH0 : xC l g T n z k_X4_readUnit 0 10 f) (IH1 : xLP l g T n z f) (IHf : ∀ (d k : Nat) (s : QS) (t : XS) (m : Mm), 4 * (6 - k) + 10 ≤ d → s.1.2.1 ≠ 0 → xR T n s.1 t → tx T n z t m → mHv l g d k_X4_readUnit [.ref 614, .ref 587, .int (nI k)] m (xQ T n z s m)) : xC l g T n z k_X4_readProduct 2 11 (f + 1) := by
  intro d k s s' t m hd hk hL hx hlen hok h hD
  by_cases hf : s.1.2.1 = 0
  · obtain ⟨s1, L1, L2⟩ : ∃ s1, Lw T n f 0 k s s1 ∧ Lw T n f 1 k s1 s' := by
      rcases hL with ⟨q, _⟩ | ⟨_, ⟨q, _⟩ | ⟨q, _⟩ | ⟨q, L⟩ | ⟨q, _⟩ | ⟨q, L⟩⟩
      · exact absurd hf q
      all_goals first | exact L | exact absurd q (by decide)
    refine nBv 2 rfl rfl rfl (by decide) rfl (fun htr o Φ hΦ => mGoOn (mOk (by decide)) rfl [8] 400 ?_)
    show True ∧ mCal l g d k_X4_readProduct Φ 0 0 _ 3 k_X4_readUnit false [.ref 614, .ref 587, .int (nI k)] [] [.ref 614, .ref 587, .int (nI k), mJ, mJ] m o 0 0 0
    refine ⟨trivial, nCv htr (IH0 (d - 1) k s s1 t m (by omega) hk L1 hx hlen hok h hD) (by omega) ?_⟩
    rintro m1 ⟨t1, x1, e1, h1, d1⟩
    show mWB l g d k_X4_readProduct Φ 0 0 8 [.ref 614, .ref 587, .int (nI k), .int (0 : Int32), mJ] [] m1 o 0 0
    have B := Lw_ok _ _ _ _ _ L1 hx.1.1 hok (fun z => by omega)
    have B3 : s1.2.length + s.1.1 ≤ s1.1.1 + s.2.length := B.2.2.1
    exact IH1 htr d k s1 s' t1 m1 o Φ 0 hd hk L2 (Nat.zero_le _) x1 (by omega) B.2.2.2.1 (fun q => by rw [B.2.2.2.2 q]; exact Nat.le_add_left _ _) h1 d1 (fun m2 h2 => hΦ m2 (xQ_tr e1 h2))
  · have e := Lw_fe hf hL
    subst e
    have t1 : t.2.2.1 ≠ 0 := fun y => hf ((xR_kd hx).mpr y)
    refine nBv 2 rfl rfl rfl (by decide) rfl (fun htr o Φ hΦ => mGoOn (mOk (by decide)) rfl [8] 400 ?_)
    show True ∧ mCal l g d k_X4_readProduct Φ 0 0 _ 3 k_X4_readUnit false [.ref 614, .ref 587, .int (nI k)] [] [.ref 614, .ref 587, .int (nI k), mJ, mJ] m o 0 0 0
    refine ⟨trivial, nCv htr (IHf (d - 1) k s' t m (by omega) hf hx h) (by omega) ?_⟩
    rintro m1 ⟨t1', x1, e1, h1, d1⟩
    show mWB l g d k_X4_readProduct Φ 0 0 8 [.ref 614, .ref 587, .int (nI k), .int (0 : Int32), mJ] [] m1 o 0 0
    refine mGoOn (mOk (by decide)) rfl [43,50] 400 ?_
    show ((150 : Int32) ≤ (0 : Int32) → Φ (.inl none) m1 o ∧ 0 ≤ 0 ∧ 0 ≤ 0) ∧ (¬ (150 : Int32) ≤ (0 : Int32) → True ∧ mCal l g d k_X4_readProduct Φ 0 0 _ 16 k_X7_good false [.ref 587] [] [.ref 614, .ref 587, .int (nI k), .int (0 : Int32), mJ] m1 o 0 0 1)
    have t2 : t1'.2.2.1 ≠ 0 := fun y => hf ((xR_kd x1).mpr y)
    refine ⟨fun q => eR (hΦ m1 ⟨t1', x1, e1, h1, d1⟩), fun q => ⟨trivial, fCi htr (x_good h1) (by omega) ?_⟩⟩
    show ((pI (t1'.2.2.1 = 0)) = 0 → Φ (.inl none) m1 o ∧ 0 ≤ 0 ∧ 0 ≤ 0) ∧ (¬ (pI (t1'.2.2.1 = 0)) = 0 → True ∧ mCal l g d k_X4_readProduct Φ 0 0 _ 23 k_X7_look false [.ref 587] [] [.ref 614, .ref 587, .int (nI k), .int (0 : Int32), mJ] m1 o 0 0 1)
    exact ⟨fun _ => eR (hΦ m1 ⟨t1', x1, e1, h1, d1⟩), fun y => absurd (pI_1.mp y) t2⟩
theorem x_sumN {f : Nat} (IH0 : xC l g T n z k_X4_readProduct 2 11 f) (IH1 : xLS l g T n z f) (IHf : ∀ (d k : Nat) (s : QS) (t : XS) (m : Mm), 4 * (6 - k) + 11 ≤ d → s.1.2.1 ≠ 0 → xR T n s.1 t → tx T n z t m → mHv l g d k_X4_readProduct [.ref 614, .ref 587, .int (nI k)] m (xQ T n z s m)) : xC l g T n z k_X4_readSum 4 12 (f + 1) := by
  intro d k s s' t m hd hk hL hx hlen hok h hD
  by_cases hf : s.1.2.1 = 0
  · obtain ⟨s1, L1, L2⟩ : ∃ s1, Lw T n f 2 k s s1 ∧ Lw T n f 3 k s1 s' := by
      rcases hL with ⟨q, _⟩ | ⟨_, ⟨q, _⟩ | ⟨q, _⟩ | ⟨q, L⟩ | ⟨q, _⟩ | ⟨q, L⟩⟩
      · exact absurd hf q
      all_goals first | exact L | exact absurd q (by decide)
    refine nBv 2 rfl rfl rfl (by decide) rfl (fun htr o Φ hΦ => mGoOn (mOk (by decide)) rfl [8] 400 ?_)
    show True ∧ mCal l g d k_X4_readSum Φ 0 0 _ 3 k_X4_readProduct false [.ref 614, .ref 587, .int (nI k)] [] [.ref 614, .ref 587, .int (nI k), mJ, mJ] m o 0 0 0
    refine ⟨trivial, nCv htr (IH0 (d - 1) k s s1 t m (by omega) hk L1 hx hlen hok h hD) (by omega) ?_⟩
    rintro m1 ⟨t1, x1, e1, h1, d1⟩
    show mWB l g d k_X4_readSum Φ 0 0 8 [.ref 614, .ref 587, .int (nI k), .int (0 : Int32), mJ] [] m1 o 0 0
    have B := Lw_ok _ _ _ _ _ L1 hx.1.1 hok (fun z => by omega)
    have B3 : s1.2.length + s.1.1 ≤ s1.1.1 + s.2.length := B.2.2.1
    exact IH1 htr d k s1 s' t1 m1 o Φ 0 hd hk L2 (Nat.zero_le _) x1 (by omega) B.2.2.2.1 (fun q => by rw [B.2.2.2.2 q]; exact Nat.le_add_left _ _) h1 d1 (fun m2 h2 => hΦ m2 (xQ_tr e1 h2))
  · have e := Lw_fe hf hL
    subst e
    have t1 : t.2.2.1 ≠ 0 := fun y => hf ((xR_kd hx).mpr y)
    refine nBv 2 rfl rfl rfl (by decide) rfl (fun htr o Φ hΦ => mGoOn (mOk (by decide)) rfl [8] 400 ?_)
    show True ∧ mCal l g d k_X4_readSum Φ 0 0 _ 3 k_X4_readProduct false [.ref 614, .ref 587, .int (nI k)] [] [.ref 614, .ref 587, .int (nI k), mJ, mJ] m o 0 0 0
    refine ⟨trivial, nCv htr (IHf (d - 1) k s' t m (by omega) hf hx h) (by omega) ?_⟩
    rintro m1 ⟨t1', x1, e1, h1, d1⟩
    show mWB l g d k_X4_readSum Φ 0 0 8 [.ref 614, .ref 587, .int (nI k), .int (0 : Int32), mJ] [] m1 o 0 0
    refine mGoOn (mOk (by decide)) rfl [43,50] 400 ?_
    show ((150 : Int32) ≤ (0 : Int32) → Φ (.inl none) m1 o ∧ 0 ≤ 0 ∧ 0 ≤ 0) ∧ (¬ (150 : Int32) ≤ (0 : Int32) → True ∧ mCal l g d k_X4_readSum Φ 0 0 _ 16 k_X7_good false [.ref 587] [] [.ref 614, .ref 587, .int (nI k), .int (0 : Int32), mJ] m1 o 0 0 1)
    have t2 : t1'.2.2.1 ≠ 0 := fun y => hf ((xR_kd x1).mpr y)
    refine ⟨fun q => eR (hΦ m1 ⟨t1', x1, e1, h1, d1⟩), fun q => ⟨trivial, fCi htr (x_good h1) (by omega) ?_⟩⟩
    show ((pI (t1'.2.2.1 = 0)) = 0 → Φ (.inl none) m1 o ∧ 0 ≤ 0 ∧ 0 ≤ 0) ∧ (¬ (pI (t1'.2.2.1 = 0)) = 0 → True ∧ mCal l g d k_X4_readSum Φ 0 0 _ 23 k_X7_look false [.ref 587] [] [.ref 614, .ref 587, .int (nI k), .int (0 : Int32), mJ] m1 o 0 0 1)
    exact ⟨fun _ => eR (hΦ m1 ⟨t1', x1, e1, h1, d1⟩), fun y => absurd (pI_1.mp y) t2⟩
end XLo
