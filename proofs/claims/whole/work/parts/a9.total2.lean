set_option maxRecDepth 100000
/-! A WORK'S TEXT, AND ITS DOING: ONE THING, AND NO OTHER -/
section WTT
variable {T : Nat → Int32} {n M S : Nat}
theorem stp_dec (k : Nat) (c : Int32) : stp k c ∨ ¬ stp k c := Classical.em _
theorem Wk_tot (hM : M ≤ 6) (hS : S ≤ 9) : ∀ (f md k : Nat) (s : QW), md ≤ 1 → k ≤ 6 → s.1.1 ≤ n → (s.1.2.1 = 0 → 2 * (n - s.1.1) + md < f) → ∃ s', Wk T n M S f md k s s' := by
  intro f
  induction f with
  | zero =>
    intro md k s _ _ hs hf
    by_cases q : s.1.2.1 = 0
    · exact absurd (hf q) (Nat.not_lt_zero _)
    · exact ⟨s, q, rfl, hs⟩
  | succ f IH =>
    intro md k s hmd hk hs hf
    by_cases q : s.1.2.1 = 0
    · have hf := hf q
      have hqs := skp_ge (T := T) hs
      have hqn := skp_in (T := T) hs
      obtain rfl | rfl : md = 0 ∨ md = 1 := by omega
      · have h5 := stH_le (T := T) (n := n) s.1.1
        by_cases h4 : stH T n s.1.1 < 4
        · exact ⟨_, Or.inr ⟨q, Or.inl ⟨rfl, Or.inl ⟨h4, rfl⟩⟩⟩⟩
        · by_cases e4 : stH T n s.1.1 = 4
          · by_cases hk6 : k < 6
            · obtain ⟨p1, p2⟩ := stH_pos hs (show stH T n s.1.1 ≠ 5 by omega)
              have a1 := pNum_mo (T := T) (n := n) (lo := 0) (hi := 60) (p := (swd T n (n - s.1.1) s.1.1, s.1.2)) p2
              have a2 := (pNum_ok (T := T) (n := n) (lo := 0) (hi := 60) (p := (swd T n (n - s.1.1) s.1.1, s.1.2)) p2).1
              have a3 := pSgn_mo (T := T) (n := n) (c := 91) a2
              have a4 := (pSgn_ok (T := T) (n := n) (c := 91) (by decide) a2).1
              have a1' : swd T n (n - s.1.1) s.1.1 ≤ (pNum T n 0 60 (swd T n (n - s.1.1) s.1.1, s.1.2)).2.1 := a1
              obtain ⟨s1, r1⟩ := IH 1 (k + 1) (pSgn T n 91 (pNum T n 0 60 (swd T n (n - s.1.1) s.1.1, s.1.2)).2, wAdd s.2 (4, nv (pNum T n 0 60 (swd T n (n - s.1.1) s.1.1, s.1.2)).1, 0, 0, k)) (by omega) hk6 a4 (fun _ => by show 2 * (n - (pSgn T n 91 _).1) + 1 < f; omega)
              exact ⟨_, Or.inr ⟨q, Or.inl ⟨rfl, Or.inr (Or.inl ⟨e4, Or.inl ⟨hk6, s1, r1, rfl⟩⟩)⟩⟩⟩
            · exact ⟨_, Or.inr ⟨q, Or.inl ⟨rfl, Or.inr (Or.inl ⟨e4, Or.inr ⟨hk6, rfl⟩⟩)⟩⟩⟩
          · exact ⟨_, Or.inr ⟨q, Or.inl ⟨rfl, Or.inr (Or.inr ⟨by omega, rfl⟩)⟩⟩⟩
      · rcases stp_dec k (bAt T n (skp T n s.1.1)) with z | z
        · exact ⟨_, Or.inr ⟨q, Or.inr ⟨rfl, Or.inl ⟨z, rfl⟩⟩⟩⟩
        · obtain ⟨s1, r1⟩ := IH 0 k ((skp T n s.1.1, s.1.2), s.2) (by omega) hk hqn (fun _ => by show 2 * (n - skp T n s.1.1) + 0 < f; omega)
          have B := Wk_ok hM hS _ _ _ _ _ r1 hqn hk
          obtain ⟨s2, r2⟩ := IH 1 k s1 (by omega) hk B.1 (fun z => by
            have := (B.2 z).2.1
            have e : skp T n s.1.1 + 1 ≤ s1.1.1 := this
            have := B.1
            omega)
          exact ⟨s2, Or.inr ⟨q, Or.inr ⟨rfl, Or.inr ⟨z, s1, r1, r2⟩⟩⟩⟩
    · exact ⟨s, Or.inl ⟨q, rfl, hs⟩⟩
def wE (s1 s2 : QW) : Prop := s1.1.2 = s2.1.2 ∧ (s1.1.2.1 = 0 → s1 = s2)
theorem wE_r (s : QW) : wE s s := ⟨rfl, fun _ => rfl⟩
theorem Wk_det : ∀ (f md k : Nat) (s s1 s2 : QW), Wk T n M S f md k s s1 → Wk T n M S f md k s s2 → wE s1 s2 := by
  intro f
  induction f with
  | zero =>
    intro md k s s1 s2 h1 h2
    exact ⟨by rw [h1.2.1, h2.2.1], fun z => absurd (by rw [← h1.2.1]; exact z) h1.1⟩
  | succ f IH =>
    intro md k s s1 s2 h1 h2
    rcases h1 with h1 | ⟨q1, h1⟩
    · have h2 := Wk_fe h1.1 h2
      exact ⟨by rw [h1.2.1, h2.2.1], fun z => absurd (by rw [← h1.2.1]; exact z) h1.1⟩
    · rcases h2 with h2 | ⟨q2, h2⟩
      · exact absurd q1 h2.1
      · rcases h1 with ⟨rfl, h1⟩ | ⟨rfl, h1⟩
        · rcases h2 with ⟨-, h2⟩ | ⟨e, _⟩
          · rcases h1 with ⟨a1, rfl⟩ | ⟨a1, h1⟩ | ⟨a1, rfl⟩
            · rcases h2 with ⟨a2, rfl⟩ | ⟨a2, _⟩ | ⟨a2, _⟩
              · exact wE_r _
              · omega
              · omega
            · rcases h2 with ⟨a2, _⟩ | ⟨a2, h2⟩ | ⟨a2, _⟩
              · omega
              · rcases h1 with ⟨k1, t1, r1, rfl⟩ | ⟨k1, rfl⟩
                · rcases h2 with ⟨k2, t2, r2, rfl⟩ | ⟨k2, rfl⟩
                  · have D := IH _ _ _ _ _ r1 r2
                    by_cases z : t1.1.2.1 = 0
                    · rw [D.2 z]; exact wE_r _
                    · have z2 : t2.1.2.1 ≠ 0 := by rw [← D.1]; exact z
                      have e1 : pSgn T n 59 (pSgn T n 93 t1.1) = t1.1 := by rw [pSgn_f z, pSgn_f z]
                      have e2 : pSgn T n 59 (pSgn T n 93 t2.1) = t2.1 := by rw [pSgn_f z2, pSgn_f z2]
                      rw [e1, e2]
                      exact ⟨D.1, fun y => absurd y z⟩
                  · exact absurd k1 k2
                · rcases h2 with ⟨k2, t2, r2, rfl⟩ | ⟨k2, rfl⟩
                  · exact absurd k2 k1
                  · exact wE_r _
              · omega
            · rcases h2 with ⟨a2, _⟩ | ⟨a2, _⟩ | ⟨a2, rfl⟩
              · omega
              · omega
              · exact wE_r _
          · exact absurd e (by decide)
        · rcases h2 with ⟨e, _⟩ | ⟨-, h2⟩
          · exact absurd e (by decide)
          · rcases h1 with ⟨a1, rfl⟩ | ⟨a1, t1, r1, p1⟩
            · rcases h2 with ⟨a2, rfl⟩ | ⟨a2, _⟩
              · exact wE_r _
              · exact absurd a1 a2
            · rcases h2 with ⟨a2, _⟩ | ⟨a2, t2, r2, p2⟩
              · exact absurd a2 a1
              · have D := IH _ _ _ _ _ r1 r2
                by_cases z : t1.1.2.1 = 0
                · obtain rfl := D.2 z
                  exact IH _ _ _ _ _ p1 p2
                · have z2 : t2.1.2.1 ≠ 0 := by rw [← D.1]; exact z
                  have w1 := Wk_fe z p1
                  have w2 := Wk_fe z2 p2
                  exact ⟨by rw [w1.2.1, w2.2.1, D.1], fun y => absurd (by rw [← w1.2.1]; exact y) z⟩
theorem Wk_cg {T' : Nat → Int32} (h : bAt T n = bAt T' n) : ∀ f, Wk T n M S f = Wk T' n M S f
  | 0 => rfl
  | f + 1 => by
    have IH := Wk_cg h f
    funext md k s s'
    unfold Wk WS1 WQ1 wB w1n stH
    rw [IH, skp_cg h, pSgn_cg h, pNum_cg h, wHere_cg h, h]
    simp only [swd_cg h]
theorem wkS_cg {T' : Nat → Int32} (h : bAt T n = bAt T' n) {s' : QW} (q : wkS T n M S s') : wkS T' n M S s' := by
  unfold wkS at q ⊢
  rw [← Wk_cg h, ← skp_cg h]
  exact q
theorem wkS_tot (T : Nat → Int32) (n : Nat) (hM : M ≤ 6) (hS : S ≤ 9) : ∃ s', wkS T n M S s' := by
  have h0 : skp T n 0 ≤ n := skp_in (Nat.zero_le _)
  exact Wk_tot hM hS (2 * n + 2) 1 0 ((skp T n 0, 0, -1), wk0) (by omega) (by omega) h0 (fun _ => by show 2 * (n - skp T n 0) + 1 < _; omega)
end WTT
section ETT
variable {A : Mm} {F : Nat → W5} {c : Nat}
theorem Ex_tot (hA : CtB A) (hc : c ≤ 75) (hF : ∀ i, i < c → okW (nM A) (nS A) 0 c F i) : ∀ (f md i j : Nat) (e : EX), md ≤ 1 → exI A e → (md = 0 → j ≤ c ∧ (200 - e.2.2.1) * 20000 + (j - i) < f) → (md = 1 → i < c ∧ j ≤ 60 ∧ (200 - e.2.2.1) * 20000 + (61 - j) * 200 < f) → ∃ e', Ex A F f md i j e e' := by
  intro f
  induction f with
  | zero =>
    intro md i j e hmd _ h0 h1
    obtain rfl | rfl : md = 0 ∨ md = 1 := by omega
    · exact absurd (h0 rfl).2 (Nat.not_lt_zero _)
    · exact absurd (h1 rfl).2.2 (Nat.not_lt_zero _)
  | succ f IH =>
    intro md i j e hmd hI h0 h1
    obtain rfl | rfl : md = 0 ∨ md = 1 := by omega
    · obtain ⟨hj, hf⟩ := h0 rfl
      by_cases z : i < j ∧ e.2.2.1 < 200
      · have ho := hF i (by omega)
        obtain ⟨o1, ⟨o2, o3⟩, -, -, o5, o6, o7, o8⟩ := ho
        by_cases h4 : (F i).1 = 4
        · obtain ⟨e1, r1⟩ := IH 1 i 0 (exB e) (by omega) (exB_ok hI z.2) (fun y => absurd y (by decide)) (fun _ => ⟨by omega, by omega, by show (200 - (e.2.2.1 + 1)) * 20000 + (61 - 0) * 200 < f; omega⟩)
          have B := Ex_ok hA hF _ _ _ _ _ _ r1 (exB_ok hI z.2) (fun y => absurd y (by decide)) (fun _ => by omega)
          have b2 : e.2.2.1 + 1 ≤ e1.2.2.1 := B.2
          obtain ⟨e2, r2⟩ := IH 0 (F i).2.2.2.1 j e1 (by omega) B.1 (fun _ => ⟨hj, by omega⟩) (fun y => absurd y (by decide))
          exact ⟨e2, Or.inl ⟨rfl, Or.inr ⟨z, Or.inl ⟨h4, e1, r1, r2⟩⟩⟩⟩
        · obtain ⟨e2, r2⟩ := IH 0 (F i).2.2.2.1 j (exS A (F i) e) (by omega) (exS_ok hA o6 o7 hI z.2) (fun _ => ⟨hj, by show (200 - (e.2.2.1 + 1)) * 20000 + (j - (F i).2.2.2.1) < f; omega⟩) (fun y => absurd y (by decide))
          exact ⟨e2, Or.inl ⟨rfl, Or.inr ⟨z, Or.inr ⟨h4, r2⟩⟩⟩⟩
      · exact ⟨e, Or.inl ⟨rfl, Or.inl ⟨z, rfl⟩⟩⟩
    · obtain ⟨hi, hj, hf⟩ := h1 rfl
      have ho := hF i hi
      obtain ⟨o1, ⟨o2, o3⟩, -, -, o5, o6, o7, o8⟩ := ho
      by_cases z : j < (F i).2.1 ∧ e.2.2.1 < 200
      · obtain ⟨e1, r1⟩ := IH 0 (i + 1) (F i).2.2.2.1 e (by omega) hI (fun _ => ⟨o3, by omega⟩) (fun y => absurd y (by decide))
        have B := Ex_ok hA hF _ _ _ _ _ _ r1 hI (fun _ => o3) (fun y => absurd y (by decide))
        obtain ⟨e2, r2⟩ := IH 1 i (j + 1) e1 (by omega) B.1 (fun y => absurd y (by decide)) (fun _ => ⟨hi, by omega, by have := B.2; omega⟩)
        exact ⟨e2, Or.inr ⟨rfl, Or.inr ⟨z, e1, r1, r2⟩⟩⟩
      · exact ⟨e, Or.inr ⟨rfl, Or.inl ⟨z, rfl⟩⟩⟩
/-- alike, but for the sleepers that woke now -/
def eQ (a b : EX) : Prop := a.1 = b.1 ∧ a.2.2 = b.2.2
theorem stC_1 (A : Mm) (s : Nat) (c : Int32) (p : Nat) (x y : (Nat → Int32) × Int32) (h : x.1 = y.1) : (stC A s c p x).1 = (stC A s c p y).1 := by
  unfold stC
  by_cases q : A (61 + p) 0 = nI s ∧ A (61 + p) 1 = c
  · rw [ifp_t q, ifp_t q]; show upd x.1 _ _ = upd y.1 _ _; rw [h]
  · rw [ifp_f q, ifp_f q]; exact h
theorem fo_1 {st : Nat → (Nat → Int32) × Int32 → (Nat → Int32) × Int32} (hs : ∀ p x y, x.1 = y.1 → (st p x).1 = (st p y).1) : ∀ (n : Nat) (x y : (Nat → Int32) × Int32), x.1 = y.1 → (fo st n x).1 = (fo st n y).1
  | 0, x, y, h => h
  | n + 1, x, y, h => hs _ _ _ (fo_1 hs n x y h)
theorem nCall_w (R : Nat → Int32) (k : Nat) (w w' : Int32) : (nCall A R k w).1 = (nCall A R k w').1 ∧ (nCall A R k w).2.1 = (nCall A R k w').2.1 := by
  unfold nCall
  by_cases q : R (12 + k) = 1
  · rw [if_pos q, if_pos q]; exact ⟨rfl, rfl⟩
  · rw [if_neg q, if_neg q]
    exact ⟨rfl, fo_1 (stC_1 A _ _) _ _ _ rfl⟩
theorem doS_w (R : Nat → Int32) (v : W5) (w w' : Int32) : (doS A R v w).1 = (doS A R v w').1 ∧ (doS A R v w).2.1 = (doS A R v w').2.1 := by
  unfold doS
  by_cases q0 : v.1 = 0
  · rw [if_pos q0, if_pos q0]
    unfold nWalk
    by_cases q : R (12 + v.2.1) = 1 ∨ ¬ Ln A (R v.2.1) (nI v.2.2.1)
    · rw [ifp_t q, ifp_t q]; exact ⟨rfl, rfl⟩
    · rw [ifp_f q, ifp_f q]; exact nCall_w _ _ _ _
  · rw [if_neg q0, if_neg q0]
    by_cases q1 : v.1 = 1
    · rw [if_pos q1, if_pos q1]; exact nCall_w _ _ _ _
    · rw [if_neg q1, if_neg q1]
      by_cases q2 : v.1 = 2
      · rw [if_pos q2, if_pos q2]; exact ⟨rfl, rfl⟩
      · rw [if_neg q2, if_neg q2]
        by_cases q3 : 300 ≤ R 36 ∧ R 35 = 23
        · rw [if_pos q3, if_pos q3]; exact ⟨rfl, rfl⟩
        · rw [if_neg q3, if_neg q3]; exact ⟨rfl, rfl⟩
theorem exS_w {v : W5} {a b : EX} (h : eQ a b) : eQ (exS A v a) (exS A v b) := by
  obtain ⟨a1, a2, a3⟩ := a
  obtain ⟨b1, b2, b3⟩ := b
  obtain ⟨h1, h2⟩ := h
  have h1 : a1 = b1 := h1
  have h2 : a3 = b3 := h2
  subst h1 h2
  have e := doS_w (A := A) a1 v a2 b2
  unfold exS eQ
  refine ⟨e.2, ?_⟩
  show (_, _, _) = (_, _, _)
  rw [show (doS A a1 v a2).1 = (doS A a1 v b2).1 from e.1]
theorem exB_w {a b : EX} (h : eQ a b) : eQ (exB a) (exB b) := ⟨h.1, by unfold exB; show (_, _, _) = (_, _, _); rw [h.2]⟩
theorem Ex_det : ∀ (f md i j : Nat) (a b a' b' : EX), eQ a b → Ex A F f md i j a a' → Ex A F f md i j b b' → eQ a' b' := by
  intro f
  induction f with
  | zero => intro md i j a b a' b' _ h; exact absurd h (fun q => q)
  | succ f IH =>
    intro md i j a b a' b' h h1 h2
    have e : a.2.2.1 = b.2.2.1 := by rw [h.2]
    rcases h1 with ⟨rfl, h1⟩ | ⟨rfl, h1⟩
    · rcases h2 with ⟨-, h2⟩ | ⟨y, _⟩
      · rcases h1 with ⟨z1, rfl⟩ | ⟨z1, h1⟩
        · rcases h2 with ⟨z2, rfl⟩ | ⟨z2, h2⟩
          · exact h
          · exact absurd (by rw [e]; exact z2) z1
        · rcases h2 with ⟨z2, rfl⟩ | ⟨z2, h2⟩
          · exact absurd (by rw [← e]; exact z1) z2
          · rcases h1 with ⟨f1, t1, r1, p1⟩ | ⟨f1, p1⟩
            · rcases h2 with ⟨f2, t2, r2, p2⟩ | ⟨f2, p2⟩
              · exact IH _ _ _ _ _ _ _ (IH _ _ _ _ _ _ _ (exB_w h) r1 r2) p1 p2
              · exact absurd f1 f2
            · rcases h2 with ⟨f2, t2, r2, p2⟩ | ⟨f2, p2⟩
              · exact absurd f2 f1
              · exact IH _ _ _ _ _ _ _ (exS_w h) p1 p2
      · exact absurd y (by decide)
    · rcases h2 with ⟨y, _⟩ | ⟨-, h2⟩
      · exact absurd y (by decide)
      · rcases h1 with ⟨z1, rfl⟩ | ⟨z1, t1, r1, p1⟩
        · rcases h2 with ⟨z2, rfl⟩ | ⟨z2, h2⟩
          · exact h
          · exact absurd (by rw [e]; exact z2) z1
        · rcases h2 with ⟨z2, rfl⟩ | ⟨z2, t2, r2, p2⟩
          · exact absurd (by rw [← e]; exact z1) z2
          · exact IH _ _ _ _ _ _ _ (IH _ _ _ _ _ _ _ h r1 r2) p1 p2
end ETT
