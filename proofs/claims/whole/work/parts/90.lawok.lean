set_option maxRecDepth 100000
section LWK
variable {T : Nat → Int32} {n : Nat}
theorem Aft_up {v : Nat} {s s0 s' : QS} (h : Aft n v s0 s') (h0 : s.1.1 ≤ s0.1.1) (e1 : s0.1.2 = s.1.2) (e2 : s0.2 = s.2) : Aft n v s s' := by
  obtain ⟨⟨a1, a2⟩, a3, a4, a5, a6⟩ := h
  exact ⟨⟨a1, by omega⟩, fun q => by have := a3 q; rw [e1] at this; exact this, by rw [e2] at a4; omega, a5, fun q => by have := a6 q; rw [e2] at this; exact this⟩
theorem LL_ok {op : Nat → Int32 → Prop} (hop : ∀ a c, op a c → c ≠ -1 ∧ 2 ≤ a ∧ a ≤ 8) {R0 R1 : Nat → QS → QS → Prop} (h0 : ∀ k s s', R0 k s s' → s.1.1 ≤ n → okL s.2 0 → Aft n 1 s s') (h1 : ∀ k s s', R1 k s s' → s.1.1 ≤ n → okL s.2 0 → (s.1.2.1 = 0 → 1 ≤ hg s.2 0) → Aft n 0 s s') {k : Nat} {s s' : QS} (hg0 : s.1.2.1 = 0) (h : LL T n op R0 R1 k s s') (hs : s.1.1 ≤ n) (hk : okL s.2 0) (hh : 1 ≤ hg s.2 0) : Aft n 0 s s' := by
  have hq := skp_ge (T := T) hs
  rcases h with ⟨a, ho, s1, r0, r1⟩ | ⟨_, rfl⟩
  · obtain ⟨hc, ha2, ha8⟩ := hop _ _ ho
    have hlt := bAt_lt (T := T) rfl hc
    have A1 := h0 _ _ _ r0 hlt hk
    have A2 : Aft n 0 s (lNt a 0 s1) := by
      refine Aft_nt (v := 1) (Aft_up (s := s) A1 (by show s.1.1 ≤ skp T n s.1.1 + 1; omega) rfl rfl) (fun q => ?_) (fun q => ?_) (fun q => ?_)
      · have := A1.2.2.1
        have e : s1.2.length + (skp T n s.1.1 + 1) ≤ s1.1.1 + s.2.length := this
        omega
      · have e : hg s1.2 0 = hg s.2 0 + 1 := A1.2.2.2.2 q
        exact ⟨ha8, (by decide : (0 : Nat) ≤ 999), fun z => absurd z (by show ¬ a = 1; omega), fun _ => by rw [e]; omega⟩
      · rw [if_neg (by omega)]; omega
    refine Aft_tr (u := 0) (v := 0) A2 (h1 _ _ _ r1 A2.1.1 A2.2.2.2.1 (fun q => ?_))
    rw [A2.2.2.2.2 q]
    exact hh
  · exact ⟨⟨skp_in hs, hq⟩, fun q => q, by show s.2.length + s.1.1 ≤ skp T n s.1.1 + s.2.length; omega, hk, fun _ => rfl⟩
theorem LO_ok {R : Nat → QS → QS → Prop} (h0 : ∀ k s s', R k s s' → s.1.1 ≤ n → okL s.2 0 → Aft n 1 s s') {k : Nat} {s s' : QS} (h : LO T n R k s s') (hs : s.1.1 ≤ n) (hg0 : s.1.2.1 = 0) (hk : okL s.2 0) : Aft n 1 s s' := by
  have hq := skp_ge (T := T) hs
  have hqn := skp_in (T := T) hs
  have hdeep : Aft n 1 s ((skp T n s.1.1, 3, nI (skp T n s.1.1)), s.2) := ⟨⟨hqn, hq⟩, fun z => absurd (show (3 : Int32) = 0 from z) (by decide), by show s.2.length + s.1.1 ≤ skp T n s.1.1 + s.2.length; omega, hk, fun z => absurd (show (3 : Int32) = 0 from z) (by decide)⟩
  rcases h with ⟨b, hb, ⟨_, s1, s2, r1, r2, rfl⟩ | ⟨_, rfl⟩⟩ | ⟨_, ⟨h40, ⟨_, s1, r1, rfl⟩ | ⟨_, rfl⟩⟩ | ⟨_, ⟨i, hi, hw, rfl⟩ | ⟨_, j, hj, hv, rfl⟩⟩⟩
  · have hw : wHere T n (skp T n s.1.1) ≠ 0 := by
      rcases hb with ⟨_, e⟩ | ⟨_, e⟩
      · rw [e]; exact wLe_0.1
      · rw [e]; exact wLe_0.2.1
    obtain ⟨_, w1, w2, w3⟩ := wH_pos hqn hw
    have hb2 : 2 ≤ b ∧ b ≤ 8 := by rcases hb with ⟨e, _⟩ | ⟨e, _⟩ <;> omega
    have B0 := Aft_sg (T := T) (n := n) (c := 91) (by decide) (s := ((swd T n (n - skp T n s.1.1) (skp T n s.1.1), s.1.2), s.2)) w3 hk
    have B1 := h0 _ _ _ r1 B0.1.1 hk
    have B2 := Aft_sg (T := T) (n := n) (c := 44) (by decide) (s := s1) B1.1.1 B1.2.2.2.1
    have B3 := h0 _ _ _ r2 B2.1.1 B1.2.2.2.1
    have B4 := Aft_sg (T := T) (n := n) (c := 93) (by decide) (s := s2) B3.1.1 B3.2.2.2.1
    have B := Aft_tr (Aft_tr (Aft_tr (Aft_tr B0 B1) B2) B3) B4
    refine Aft_nt (v := 0 + 1 + 0 + 1 + 0) (Aft_up (s := s) B (by show s.1.1 ≤ swd T n (n - skp T n s.1.1) (skp T n s.1.1); omega) rfl rfl) (fun q => ?_) (fun q => ?_) (fun q => ?_)
    · have e : (lSg T n 93 s2).2.length + swd T n (n - skp T n s.1.1) (skp T n s.1.1) ≤ (lSg T n 93 s2).1.1 + s.2.length := B.2.2.1
      omega
    · have e : hg (lSg T n 93 s2).2 0 = hg s.2 0 + (0 + 1 + 0 + 1 + 0) := B.2.2.2.2 q
      exact ⟨hb2.2, (by decide : (0 : Nat) ≤ 999), fun z => absurd z (by show ¬ b = 1; omega), fun _ => by rw [e]; omega⟩
    · rw [if_neg (by omega)]; omega
  · exact hdeep
  · have hlt := bAt_lt (T := T) h40 (by decide)
    have B1 := h0 _ _ _ r1 hlt hk
    have B2 := Aft_sg (T := T) (n := n) (c := 41) (by decide) (s := s1) B1.1.1 B1.2.2.2.1
    exact Aft_up (Aft_tr B1 B2) (by show s.1.1 ≤ skp T n s.1.1 + 1; omega) rfl rfl
  · exact hdeep
  · obtain ⟨_, w1, w2, w3⟩ := wH_pos hqn (by rw [hw]; exact (kwA_0 i hi).1)
    refine ⟨⟨w3, by show s.1.1 ≤ swd T n (n - skp T n s.1.1) (skp T n s.1.1); omega⟩, fun q => q, ?_, okL_app _ _ _ hk ⟨(by decide : (1 : Nat) ≤ 8), by show i ≤ 999; omega, fun _ => hi, fun z => absurd (show 2 ≤ 1 from z) (by decide)⟩, fun _ => ?_⟩
    · show (s.2 ++ [(1, i)]).length + s.1.1 ≤ swd T n (n - skp T n s.1.1) (skp T n s.1.1) + s.2.length
      rw [List.length_append]
      show s.2.length + 1 + _ ≤ _
      omega
    · show hg (s.2 ++ [(1, i)]) 0 = _
      rw [hg_app]; rfl
  · have hp := pNum_ok (T := T) (n := n) (lo := 0) (hi := 999) (p := (skp T n s.1.1, s.1.2)) hqn
    have hm := pNum_mo (T := T) (n := n) (lo := 0) (hi := 999) (p := (skp T n s.1.1, s.1.2)) hqn
    generalize pNum T n 0 999 (skp T n s.1.1, s.1.2) = r at hp hm
    have hm2 : skp T n s.1.1 ≤ r.2.1 := hm
    have B : Aft n 0 s (r.2, s.2) := ⟨⟨hp.1, by show s.1.1 ≤ r.2.1; omega⟩, fun q => (hp.2.1 q).1, by show s.2.length + s.1.1 ≤ r.2.1 + s.2.length; omega, hk, fun _ => rfl⟩
    refine Aft_nt (v := 0) B (fun q => ?_) (fun q => ?_) (fun q => ?_)
    · have e : skp T n s.1.1 < r.2.1 := (hp.2.1 q).2.2
      show s.2.length + 1 + s.1.1 ≤ r.2.1 + s.2.length
      omega
    · exact ⟨(by decide : (0 : Nat) ≤ 8), hj, fun z => absurd (show 0 = 1 from z) (by decide), fun z => absurd (show 2 ≤ 0 from z) (by decide)⟩
    · rw [if_pos (by decide)]
def lwV (md : Nat) : Nat := if md = 1 ∨ md = 3 then 0 else 1
theorem Lw_ok : ∀ (f md k : Nat) (s s' : QS), Lw T n f md k s s' → s.1.1 ≤ n → okL s.2 0 → (md = 1 ∨ md = 3 → s.1.2.1 = 0 → 1 ≤ hg s.2 0) → Aft n (lwV md) s s' := by
  intro f
  induction f with
  | zero =>
    intro md k s s' h hs hk _
    rw [h.2]
    exact Aft_f h.1 hs hk
  | succ f IH =>
    intro md k s s' h hs hk hh
    rcases h with ⟨h1, rfl⟩ | ⟨h1, ⟨rfl, h⟩ | ⟨rfl, h⟩ | ⟨rfl, s1, r0, r1⟩ | ⟨rfl, h⟩ | ⟨rfl, s1, r0, r1⟩⟩
    · exact Aft_f h1 hs hk
    · exact LO_ok (fun k s s' r a b => IH 4 k s s' r a b (fun z => by omega)) h hs h1 hk
    · exact LL_ok (fun _ _ => opP_n) (fun k s s' r a b => IH 0 k s s' r a b (fun z => by omega)) (fun k s s' r a b c => IH 1 k s s' r a b (fun _ => c)) h1 h hs hk (hh (Or.inl rfl) h1)
    · have B := IH 0 k s s1 r0 hs hk (fun z => by omega)
      exact Aft_tr (u := 1) (v := 0) B (IH 1 k s1 s' r1 B.1.1 B.2.2.2.1 (fun _ q => by rw [B.2.2.2.2 q]; exact Nat.le_add_left _ _))
    · exact LL_ok (fun _ _ => opS_n) (fun k s s' r a b => IH 2 k s s' r a b (fun z => by omega)) (fun k s s' r a b c => IH 3 k s s' r a b (fun _ => c)) h1 h hs hk (hh (Or.inr rfl) h1)
    · have B := IH 2 k s s1 r0 hs hk (fun z => by omega)
      exact Aft_tr (u := 1) (v := 0) B (IH 3 k s1 s' r1 B.1.1 B.2.2.2.1 (fun _ q => by rw [B.2.2.2.2 q]; exact Nat.le_add_left _ _))
end LWK
