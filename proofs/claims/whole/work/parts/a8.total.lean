set_option maxRecDepth 100000
/-! A LAW'S TEXT READS AS ONE THING, AND AS NO OTHER -/
section LTT
variable {T : Nat → Int32} {n : Nat}
def tB (n : Nat) (s s' : QS) : Prop := s.1.1 ≤ s'.1.1 ∧ s'.1.1 ≤ n
theorem lSg_b {c : Int32} (hc : c ≠ -1) {s : QS} (hs : s.1.1 ≤ n) : tB n s (lSg T n c s) := ⟨pSgn_mo hs, (pSgn_ok hc hs).1⟩
theorem LL_tot {op : Nat → Int32 → Prop} (hop : ∀ a c, op a c → c ≠ -1 ∧ 2 ≤ a ∧ a ≤ 8) {R0 R1 : Nat → QS → QS → Prop} {k : Nat} {s : QS} (hs : s.1.1 ≤ n) (h0 : ∀ s0 : QS, s.1.1 < s0.1.1 → s0.1.1 ≤ n → ∃ s', R0 k s0 s' ∧ tB n s0 s') (h1 : ∀ s0 : QS, s.1.1 < s0.1.1 → s0.1.1 ≤ n → ∃ s', R1 k s0 s' ∧ tB n s0 s') : ∃ s', LL T n op R0 R1 k s s' ∧ tB n s s' := by
  have hq := skp_ge (T := T) hs
  by_cases z : ∃ a, op a (bAt T n (skp T n s.1.1))
  · obtain ⟨a, ha⟩ := z
    have hlt := bAt_lt (T := T) rfl (hop _ _ ha).1
    obtain ⟨s1, r1, b1⟩ := h0 ((skp T n s.1.1 + 1, s.1.2), s.2) (by show s.1.1 < skp T n s.1.1 + 1; omega) hlt
    have b1' : skp T n s.1.1 + 1 ≤ s1.1.1 := b1.1
    have e := lNt_1 a 0 s1
    obtain ⟨s2, r2, b2⟩ := h1 (lNt a 0 s1) (by rw [e]; omega) (by rw [e]; exact b1.2)
    refine ⟨s2, Or.inl ⟨a, ha, s1, r1, r2⟩, ?_, b2.2⟩
    have := b2.1
    rw [e] at this
    omega
  · exact ⟨_, Or.inr ⟨fun a ha => z ⟨a, ha⟩, rfl⟩, hq, skp_in hs⟩
theorem LO_tot {R : Nat → QS → QS → Prop} {k : Nat} {s : QS} (hs : s.1.1 ≤ n) (hz : s.1.2.1 = 0) (h0 : ∀ k (s0 : QS), s.1.1 < s0.1.1 → s0.1.1 ≤ n → ∃ s', R k s0 s' ∧ tB n s0 s') : ∃ s', LO T n R k s s' ∧ tB n s s' := by
  have hq := skp_ge (T := T) hs
  have hqn := skp_in (T := T) hs
  by_cases ha : wHere T n (skp T n s.1.1) = wLe ∨ wHere T n (skp T n s.1.1) = wMo
  · obtain ⟨b, hb⟩ : ∃ b, (b = 7 ∧ wHere T n (skp T n s.1.1) = wLe) ∨ (b = 8 ∧ wHere T n (skp T n s.1.1) = wMo) := by
      rcases ha with h | h
      · exact ⟨7, Or.inl ⟨rfl, h⟩⟩
      · exact ⟨8, Or.inr ⟨rfl, h⟩⟩
    have hw : wHere T n (skp T n s.1.1) ≠ 0 := by
      rcases ha with e | e
      · rw [e]; exact wLe_0.1
      · rw [e]; exact wLe_0.2.1
    obtain ⟨_, w1, w2, w3⟩ := wH_pos hqn hw
    by_cases hk : k < 6
    · have B0 := lSg_b (T := T) (n := n) (c := 91) (by decide) (s := ((swd T n (n - skp T n s.1.1) (skp T n s.1.1), s.1.2), s.2)) w3
      have B0' : swd T n (n - skp T n s.1.1) (skp T n s.1.1) ≤ _ := B0.1
      obtain ⟨s1, r1, b1⟩ := h0 (k + 1) _ (by omega) B0.2
      have B2 := lSg_b (T := T) (n := n) (c := 44) (by decide) (s := s1) b1.2
      obtain ⟨s2, r2, b2⟩ := h0 (k + 1) (lSg T n 44 s1) (by have := B2.1; have := b1.1; omega) B2.2
      have B4 := lSg_b (T := T) (n := n) (c := 93) (by decide) (s := s2) b2.2
      refine ⟨_, Or.inl ⟨b, hb, Or.inl ⟨hk, s1, s2, r1, r2, rfl⟩⟩, ?_, ?_⟩
      · rw [lNt_1]; have := B4.1; have := b2.1; have := B2.1; have := b1.1; omega
      · rw [lNt_1]; exact B4.2
    · exact ⟨_, Or.inl ⟨b, hb, Or.inr ⟨hk, rfl⟩⟩, hq, hqn⟩
  · have ha' : wHere T n (skp T n s.1.1) ≠ wLe ∧ wHere T n (skp T n s.1.1) ≠ wMo := ⟨fun z => ha (Or.inl z), fun z => ha (Or.inr z)⟩
    by_cases h40 : bAt T n (skp T n s.1.1) = 40
    · have hlt := bAt_lt (T := T) h40 (by decide)
      by_cases hk : k < 6
      · obtain ⟨s1, r1, b1⟩ := h0 (k + 1) ((skp T n s.1.1 + 1, s.1.2), s.2) (by show s.1.1 < skp T n s.1.1 + 1; omega) hlt
        have b1' : skp T n s.1.1 + 1 ≤ s1.1.1 := b1.1
        have B2 := lSg_b (T := T) (n := n) (c := 41) (by decide) (s := s1) b1.2
        exact ⟨_, Or.inr ⟨ha', Or.inl ⟨h40, Or.inl ⟨hk, s1, r1, rfl⟩⟩⟩, by have := B2.1; omega, B2.2⟩
      · exact ⟨_, Or.inr ⟨ha', Or.inl ⟨h40, Or.inr ⟨hk, rfl⟩⟩⟩, hq, hqn⟩
    · by_cases hi : ∃ i, i < 8 ∧ wHere T n (skp T n s.1.1) = kwA i
      · obtain ⟨i, h8, hw⟩ := hi
        obtain ⟨_, w1, w2, w3⟩ := wH_pos hqn (by rw [hw]; exact (kwA_0 i h8).1)
        exact ⟨_, Or.inr ⟨ha', Or.inr ⟨h40, Or.inl ⟨i, h8, hw, rfl⟩⟩⟩, by show s.1.1 ≤ swd T n (n - skp T n s.1.1) (skp T n s.1.1); omega, w3⟩
      · have hok1 := pNum_ok (T := T) (n := n) (lo := 0) (hi := 999) (p := (skp T n s.1.1, s.1.2)) hqn
        have hm := pNum_mo (T := T) (n := n) (lo := 0) (hi := 999) (p := (skp T n s.1.1, s.1.2)) hqn
        obtain ⟨j, hj, ej⟩ : ∃ j, j ≤ 999 ∧ (pNum T n 0 999 (skp T n s.1.1, s.1.2)).1 = nI j := by
          by_cases q : (pNum T n 0 999 (skp T n s.1.1, s.1.2)).2.2.1 = 0
          · obtain ⟨v, hv, e⟩ := bound_in (N := 1000) (by decide) (hok1.2.1 q).2.1
            exact ⟨v, by omega, e⟩
          · exact ⟨0, by decide, hok1.2.2 q⟩
        refine ⟨_, Or.inr ⟨ha', Or.inr ⟨h40, Or.inr ⟨fun i h8 hw => hi ⟨i, h8, hw⟩, j, hj, ej, rfl⟩⟩⟩, ?_, ?_⟩
        · rw [lNt_1]; have hm' : skp T n s.1.1 ≤ (pNum T n 0 999 (skp T n s.1.1, s.1.2)).2.1 := hm; show s.1.1 ≤ (pNum T n 0 999 (skp T n s.1.1, s.1.2)).2.1; omega
        · rw [lNt_1]; exact hok1.1
theorem Lw_tot : ∀ (f md k : Nat) (s : QS), md ≤ 4 → s.1.1 ≤ n → (s.1.2.1 = 0 → 5 * (n - s.1.1) + md < f) → ∃ s', Lw T n f md k s s' ∧ tB n s s' := by
  intro f
  induction f with
  | zero =>
    intro md k s _ hs hf
    by_cases q : s.1.2.1 = 0
    · exact absurd (hf q) (Nat.not_lt_zero _)
    · exact ⟨s, ⟨q, rfl⟩, Nat.le_refl _, hs⟩
  | succ f IH =>
    intro md k s hmd hs hf
    by_cases q : s.1.2.1 = 0
    · have hf := hf q
      have two : ∀ a b, a ≤ 4 → b ≤ 4 → 5 * (n - s.1.1) + a < f → 5 * (n - s.1.1) + b < f → ∃ s', (∃ s1, Lw T n f a k s s1 ∧ Lw T n f b k s1 s') ∧ tB n s s' := by
        intro a b ha hb fa fb
        obtain ⟨s1, r1, b1⟩ := IH a k s ha hs (fun _ => fa)
        obtain ⟨s2, r2, b2⟩ := IH b k s1 hb b1.2 (fun _ => by have := b1.1; omega)
        exact ⟨s2, ⟨s1, r1, r2⟩, Nat.le_trans b1.1 b2.1, b2.2⟩
      obtain rfl | rfl | rfl | rfl | rfl : md = 0 ∨ md = 1 ∨ md = 2 ∨ md = 3 ∨ md = 4 := by omega
      · obtain ⟨s', r, b⟩ := LO_tot (T := T) (R := Lw T n f 4) (k := k) hs q (fun k s0 h1 h2 => IH 4 k s0 (by omega) h2 (fun _ => by omega))
        exact ⟨s', Or.inr ⟨q, Or.inl ⟨rfl, r⟩⟩, b⟩
      · obtain ⟨s', r, b⟩ := LL_tot (T := T) (op := opP) (fun _ _ => opP_n) (R0 := Lw T n f 0) (R1 := Lw T n f 1) (k := k) hs (fun s0 h1 h2 => IH 0 k s0 (by omega) h2 (fun _ => by omega)) (fun s0 h1 h2 => IH 1 k s0 (by omega) h2 (fun _ => by omega))
        exact ⟨s', Or.inr ⟨q, Or.inr (Or.inl ⟨rfl, r⟩)⟩, b⟩
      · obtain ⟨s', r, b⟩ := two 0 1 (by omega) (by omega) (by omega) (by omega)
        exact ⟨s', Or.inr ⟨q, Or.inr (Or.inr (Or.inl ⟨rfl, r⟩))⟩, b⟩
      · obtain ⟨s', r, b⟩ := LL_tot (T := T) (op := opS) (fun _ _ => opS_n) (R0 := Lw T n f 2) (R1 := Lw T n f 3) (k := k) hs (fun s0 h1 h2 => IH 2 k s0 (by omega) h2 (fun _ => by omega)) (fun s0 h1 h2 => IH 3 k s0 (by omega) h2 (fun _ => by omega))
        exact ⟨s', Or.inr ⟨q, Or.inr (Or.inr (Or.inr (Or.inl ⟨rfl, r⟩)))⟩, b⟩
      · obtain ⟨s', r, b⟩ := two 2 3 (by omega) (by omega) (by omega) (by omega)
        exact ⟨s', Or.inr ⟨q, Or.inr (Or.inr (Or.inr (Or.inr ⟨rfl, r⟩)))⟩, b⟩
    · exact ⟨s, Or.inl ⟨q, rfl⟩, Nat.le_refl _, hs⟩
theorem lwS_tot (T : Nat → Int32) (k : Nat) : ∃ s', lwS T k s' := by
  have h0 : skp T k 0 ≤ k := skp_in (Nat.zero_le _)
  obtain ⟨s', h, -⟩ := Lw_tot (T := T) (n := k) (5 * k + 5) 4 0 ((skp T k 0, 0, -1), []) (by omega) h0 (fun _ => by show 5 * (k - skp T k 0) + 4 < _; omega)
  exact ⟨s', h⟩
theorem LL_det {op : Nat → Int32 → Prop} (hop : ∀ a b c, op a c → op b c → a = b) {R0 R1 : Nat → QS → QS → Prop} (d0 : ∀ k s s1 s2, R0 k s s1 → R0 k s s2 → s1 = s2) (d1 : ∀ k s s1 s2, R1 k s s1 → R1 k s s2 → s1 = s2) {k : Nat} {s s1 s2 : QS} (h1 : LL T n op R0 R1 k s s1) (h2 : LL T n op R0 R1 k s s2) : s1 = s2 := by
  rcases h1 with ⟨a, ha, t1, r0, r1⟩ | ⟨ha, rfl⟩
  · rcases h2 with ⟨b, hb, u1, p0, p1⟩ | ⟨hb, rfl⟩
    · obtain rfl := hop _ _ _ ha hb
      obtain rfl := d0 _ _ _ _ r0 p0
      exact d1 _ _ _ _ r1 p1
    · exact absurd ha (hb a)
  · rcases h2 with ⟨b, hb, u1, p0, p1⟩ | ⟨hb, rfl⟩
    · exact absurd hb (ha b)
    · rfl
theorem LO_det {R : Nat → QS → QS → Prop} (d0 : ∀ k s s1 s2, R k s s1 → R k s s2 → s1 = s2) {k : Nat} {s s1 s2 : QS} (h1 : LO T n R k s s1) (h2 : LO T n R k s s2) : s1 = s2 := by
  rcases h1 with ⟨b, hb, h1⟩ | ⟨na, h1⟩
  · rcases h2 with ⟨b', hb', h2⟩ | ⟨na, h2⟩
    · have e : b = b' := by
        rcases hb with ⟨e1, w⟩ | ⟨e1, w⟩ <;> rcases hb' with ⟨e2, w'⟩ | ⟨e2, w'⟩
        · omega
        · rw [w] at w'; exact absurd w' wLe_0.2.2
        · rw [w] at w'; exact absurd w'.symm wLe_0.2.2
        · omega
      subst e
      rcases h1 with ⟨k1, a1, a2, r1, r2, rfl⟩ | ⟨k1, rfl⟩
      · rcases h2 with ⟨k2, c1, c2, p1, p2, rfl⟩ | ⟨k2, rfl⟩
        · obtain rfl := d0 _ _ _ _ r1 p1
          obtain rfl := d0 _ _ _ _ r2 p2
          rfl
        · exact absurd k1 k2
      · rcases h2 with ⟨k2, c1, c2, p1, p2, rfl⟩ | ⟨k2, rfl⟩
        · exact absurd k2 k1
        · rfl
    · rcases hb with ⟨_, w⟩ | ⟨_, w⟩
      · exact absurd w na.1
      · exact absurd w na.2
  · rcases h2 with ⟨b', hb', h2⟩ | ⟨-, h2⟩
    · rcases hb' with ⟨_, w⟩ | ⟨_, w⟩
      · exact absurd w na.1
      · exact absurd w na.2
    · rcases h1 with ⟨h40, h1⟩ | ⟨h40, h1⟩
      · rcases h2 with ⟨-, h2⟩ | ⟨n40, h2⟩
        · rcases h1 with ⟨k1, a1, r1, rfl⟩ | ⟨k1, rfl⟩
          · rcases h2 with ⟨k2, c1, p1, rfl⟩ | ⟨k2, rfl⟩
            · obtain rfl := d0 _ _ _ _ r1 p1
              rfl
            · exact absurd k1 k2
          · rcases h2 with ⟨k2, c1, p1, rfl⟩ | ⟨k2, rfl⟩
            · exact absurd k2 k1
            · rfl
        · exact absurd h40 n40
      · rcases h2 with ⟨n40, h2⟩ | ⟨-, h2⟩
        · exact absurd n40 h40
        · rcases h1 with ⟨i, hi, hw, rfl⟩ | ⟨ni, j, hj, ej, rfl⟩
          · rcases h2 with ⟨i', hi', hw', rfl⟩ | ⟨ni, j, hj, ej, rfl⟩
            · obtain rfl := (kwA_0 i hi).2.2.2 i' hi' (by rw [← hw, ← hw'])
              rfl
            · exact absurd hw (ni i hi)
          · rcases h2 with ⟨i', hi', hw', rfl⟩ | ⟨-, j', hj', ej', rfl⟩
            · exact absurd hw' (ni i' hi')
            · rw [ej] at ej'
              have : j = j' := by rw [nI_eq (by omega) (by omega)] at ej'; exact ej'
              subst this
              rfl
theorem Lw_det : ∀ (f md k : Nat) (s s1 s2 : QS), Lw T n f md k s s1 → Lw T n f md k s s2 → s1 = s2 := by
  intro f
  induction f with
  | zero => intro md k s s1 s2 h1 h2; rw [h1.2, h2.2]
  | succ f IH =>
    intro md k s s1 s2 h1 h2
    rcases h1 with ⟨q1, rfl⟩ | ⟨q1, h1⟩
    · exact (Lw_fe q1 h2).symm
    · rcases h2 with ⟨q2, rfl⟩ | ⟨q2, h2⟩
      · exact absurd q1 q2
      · rcases h1 with ⟨rfl, h1⟩ | ⟨rfl, h1⟩ | ⟨rfl, t1, a1, a2⟩ | ⟨rfl, h1⟩ | ⟨rfl, t1, a1, a2⟩
        · rcases h2 with ⟨_, h2⟩ | ⟨e, _⟩ | ⟨e, _⟩ | ⟨e, _⟩ | ⟨e, _⟩
          · exact LO_det (fun k s s1 s2 => IH 4 k s s1 s2) h1 h2
          all_goals exact absurd e (by decide)
        · rcases h2 with ⟨e, _⟩ | ⟨_, h2⟩ | ⟨e, _⟩ | ⟨e, _⟩ | ⟨e, _⟩
          rotate_left
          · exact LL_det (fun _ _ _ => opP_u) (fun k s s1 s2 => IH 0 k s s1 s2) (fun k s s1 s2 => IH 1 k s s1 s2) h1 h2
          all_goals exact absurd e (by decide)
        · rcases h2 with ⟨e, _⟩ | ⟨e, _⟩ | ⟨_, t2, b1, b2⟩ | ⟨e, _⟩ | ⟨e, _⟩
          rotate_left 2
          · obtain rfl := IH 0 k s t1 t2 a1 b1
            exact IH 1 k t1 _ _ a2 b2
          all_goals exact absurd e (by decide)
        · rcases h2 with ⟨e, _⟩ | ⟨e, _⟩ | ⟨e, _⟩ | ⟨_, h2⟩ | ⟨e, _⟩
          rotate_left 3
          · exact LL_det (fun _ _ _ => opS_u) (fun k s s1 s2 => IH 2 k s s1 s2) (fun k s s1 s2 => IH 3 k s s1 s2) h1 h2
          all_goals exact absurd e (by decide)
        · rcases h2 with ⟨e, _⟩ | ⟨e, _⟩ | ⟨e, _⟩ | ⟨e, _⟩ | ⟨_, t2, b1, b2⟩
          rotate_left 4
          · obtain rfl := IH 2 k s t1 t2 a1 b1
            exact IH 3 k t1 _ _ a2 b2
          all_goals exact absurd e (by decide)
theorem lwS_det {T : Nat → Int32} {k : Nat} {s1 s2 : QS} (h1 : lwS T k s1) (h2 : lwS T k s2) : s1 = s2 := Lw_det _ _ _ _ _ _ h1 h2
end LTT
