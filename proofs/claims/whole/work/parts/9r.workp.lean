set_option maxRecDepth 100000
/-! WHAT A WORK'S TEXT READS AS -/
abbrev W5 : Type := Nat × Nat × Nat × Nat × Nat
abbrev WA : Type := Nat × (Nat → W5)
abbrev QW : Type := PS × WA
def wAdd (s : WA) (v : W5) : WA := (s.1 + 1, fun j => if j = s.1 then v else s.2 j)
def wEnd (s : WA) (h : Nat) : WA := (s.1, fun j => if j = h then ((s.2 h).1, (s.2 h).2.1, (s.2 h).2.2.1, s.1, (s.2 h).2.2.2.2) else s.2 j)
def wCa : Int32 := six6 3 1 12 12 0 0
def wBe : Int32 := six6 2 5 4 0 0 0
def wHo : Int32 := six6 8 15 21 18 0 0
def wAg : Int32 := six6 1 7 1 9 14 0
noncomputable def stH (T : Nat → Int32) (n q : Nat) : Nat := ifp (wHere T n q = 204) 0 (ifp (wHere T n q = wCa) 1 (ifp (wHere T n q = wBe) 2 (ifp (wHere T n q = wHo) 3 (ifp (wHere T n q = wAg) 4 5))))
def nv (x : Int32) : Nat := x.toNatClampNeg
noncomputable def w1n (T : Nat → Int32) (n M : Nat) (p : PS) : Int32 × PS := pNum T n 0 (nI M - 1) p
/-- what stands behind the word: the numbers of a step -/
noncomputable def wB (T : Nat → Int32) (n M S k : Nat) (p : PS) : PS × Nat × Nat := if k = 0 then ((pNum T n 0 (nI S - 1) (w1n T n M p).2).2, nv (w1n T n M p).1, nv (pNum T n 0 (nI S - 1) (w1n T n M p).2).1) else if k < 3 then ((w1n T n M p).2, nv (w1n T n M p).1, 0) else (p, 0, 0)
def stp (k : Nat) (c : Int32) : Prop := if k = 0 then c = -1 else c = 93
noncomputable def WS1 (T : Nat → Int32) (n M S : Nat) (R : Nat → QW → QW → Prop) (k : Nat) (s s' : QW) : Prop :=
  (stH T n s.1.1 < 4 ∧ s' = (pSgn T n 59 (wB T n M S (stH T n s.1.1) (swd T n (n - s.1.1) s.1.1, s.1.2)).1, wAdd s.2 (stH T n s.1.1, (wB T n M S (stH T n s.1.1) (swd T n (n - s.1.1) s.1.1, s.1.2)).2.1, (wB T n M S (stH T n s.1.1) (swd T n (n - s.1.1) s.1.1, s.1.2)).2.2, s.2.1 + 1, k))) ∨
  (stH T n s.1.1 = 4 ∧ ((k < 6 ∧ ∃ s1, R (k + 1) (pSgn T n 91 (pNum T n 0 60 (swd T n (n - s.1.1) s.1.1, s.1.2)).2, wAdd s.2 (4, nv (pNum T n 0 60 (swd T n (n - s.1.1) s.1.1, s.1.2)).1, 0, 0, k)) s1 ∧ s' = (pSgn T n 59 (pSgn T n 93 s1.1), wEnd s1.2 s.2.1)) ∨ (¬ k < 6 ∧ s' = ((s.1.1, 3, nI s.1.1), s.2)))) ∨
  (stH T n s.1.1 = 5 ∧ s' = ((s.1.1, 1, nI s.1.1), s.2))
def WQ1 (T : Nat → Int32) (n : Nat) (R0 R1 : Nat → QW → QW → Prop) (k : Nat) (s s' : QW) : Prop := (stp k (bAt T n (skp T n s.1.1)) ∧ s' = ((skp T n s.1.1, s.1.2), s.2)) ∨ (¬ stp k (bAt T n (skp T n s.1.1)) ∧ ∃ s1, R0 k ((skp T n s.1.1, s.1.2), s.2) s1 ∧ R1 k s1 s')
def Wf (n : Nat) (s s' : QW) : Prop := s.1.2.1 ≠ 0 ∧ s'.1.2 = s.1.2 ∧ s'.1.1 ≤ n
/-- 0 a step, 1 steps -/
def Wk (T : Nat → Int32) (n M S : Nat) : Nat → Nat → Nat → QW → QW → Prop
  | 0 => fun _ _ s s' => Wf n s s'
  | f + 1 => fun md k s s' => Wf n s s' ∨ (s.1.2.1 = 0 ∧ ((md = 0 ∧ WS1 T n M S (Wk T n M S f 1) k s s') ∨ (md = 1 ∧ WQ1 T n (Wk T n M S f 0) (Wk T n M S f 1) k s s')))
theorem Wk_f {T : Nat → Int32} {n M S f md k : Nat} {s s' : QW} (h : Wf n s s') : Wk T n M S f md k s s' := by
  cases f with
  | zero => exact h
  | succ f => exact Or.inl h
theorem Wk_fe {T : Nat → Int32} {n M S f md k : Nat} {s s' : QW} (hf : s.1.2.1 ≠ 0) (h : Wk T n M S f md k s s') : Wf n s s' := by
  cases f with
  | zero => exact h
  | succ f =>
    rcases h with q | q
    · exact q
    · exact absurd q.1 hf
/-- one step of the row as it should be -/
def okW (M S k c : Nat) (F : Nat → W5) (i : Nat) : Prop := (F i).1 ≤ 4 ∧ (i < (F i).2.2.2.1 ∧ (F i).2.2.2.1 ≤ c) ∧ ((F i).1 ≠ 4 → (F i).2.2.2.1 = i + 1) ∧ k ≤ (F i).2.2.2.2 ∧ ((F i).1 = 4 → (F i).2.2.2.2 ≤ 5 ∧ ∀ j, i < j → j < (F i).2.2.2.1 → (F i).2.2.2.2 < (F j).2.2.2.2) ∧ ((F i).1 < 3 → (F i).2.1 < M) ∧ ((F i).1 = 0 → (F i).2.2.1 < S) ∧ (F i).2.1 ≤ 60
def AftW (n M S k u : Nat) (s s' : QW) : Prop := s'.1.1 ≤ n ∧ (s'.1.2.1 = 0 → s.1.2.1 = 0 ∧ s.1.1 + u ≤ s'.1.1 ∧ 2 * s'.2.1 + s.1.1 ≤ s'.1.1 + 2 * s.2.1 ∧ s.2.1 ≤ s'.2.1 ∧ (∀ i, i < s.2.1 → s'.2.2 i = s.2.2 i) ∧ ∀ i, s.2.1 ≤ i → i < s'.2.1 → okW M S k s'.2.1 s'.2.2 i)
section WP
variable {T : Nat → Int32} {n M S : Nat}
theorem w5_0 : (204 : Int32) ≠ 0 ∧ wCa ≠ 0 ∧ wBe ≠ 0 ∧ wHo ≠ 0 ∧ wAg ≠ 0 := by decide +kernel
theorem stH_le (q : Nat) : stH T n q ≤ 5 := by
  unfold stH
  by_cases h0 : wHere T n q = 204
  · rw [ifp_t h0]; omega
  · rw [ifp_f h0]
    by_cases h1 : wHere T n q = wCa
    · rw [ifp_t h1]; omega
    · rw [ifp_f h1]
      by_cases h2 : wHere T n q = wBe
      · rw [ifp_t h2]; omega
      · rw [ifp_f h2]
        by_cases h3 : wHere T n q = wHo
        · rw [ifp_t h3]; omega
        · rw [ifp_f h3]
          by_cases h4 : wHere T n q = wAg
          · rw [ifp_t h4]; omega
          · rw [ifp_f h4]; omega
/-- a word of two letters at least -/
theorem wH_two {q : Nat} (hq : q ≤ n) (h : wHere T n q ≠ 0) (h2 : ∀ e, 0 < e → e < 27 → wHere T n q ≠ nI e) : q + 2 ≤ swd T n (n - q) q ∧ swd T n (n - q) q ≤ n := by
  obtain ⟨a1, a2, a3, a4⟩ := wH_pos hq h
  refine ⟨?_, a4⟩
  by_cases y : q + 2 ≤ swd T n (n - q) q
  · exact y
  · exfalso
    obtain ⟨b1, b2, b3⟩ := wdl_enc (T := T) (n := n) (b := q) (n - q) 0 0 (fun _ => rfl) (fun j hj => absurd hj (by omega))
    rw [Nat.add_zero] at b1
    have e1 : (wdl T n q (n - q) 0 0).1 = 1 := by omega
    have e2 := b2 (by omega)
    rw [e1] at e2
    obtain ⟨l1, l2, l3⟩ := ltr_sm (b3 0 (by omega))
    refine h2 (ltr T n q 0) l1 l2 ?_
    unfold wHere
    rw [if_pos (by omega), e2]
    show nI (27 * 0 + ltr T n q 0) = _
    rw [Nat.mul_zero, Nat.zero_add]
theorem w5_big : ∀ e, e < 27 → (204 : Int32) ≠ nI e ∧ wCa ≠ nI e ∧ wBe ≠ nI e ∧ wHo ≠ nI e ∧ wAg ≠ nI e := by decide +kernel
theorem stH_pos {q : Nat} (hq : q ≤ n) (h : stH T n q ≠ 5) : q + 2 ≤ swd T n (n - q) q ∧ swd T n (n - q) q ≤ n := by
  have key : ∀ w : Int32, wHere T n q = w → w ≠ 0 → (∀ e, e < 27 → w ≠ nI e) → q + 2 ≤ swd T n (n - q) q ∧ swd T n (n - q) q ≤ n := fun w e h1 h2 => wH_two hq (by rw [e]; exact h1) (fun x _ hx => by rw [e]; exact h2 x hx)
  unfold stH at h
  by_cases h0 : wHere T n q = 204
  · exact key _ h0 w5_0.1 (fun e he => (w5_big e he).1)
  · rw [ifp_f h0] at h
    by_cases h1 : wHere T n q = wCa
    · exact key _ h1 w5_0.2.1 (fun e he => (w5_big e he).2.1)
    · rw [ifp_f h1] at h
      by_cases h2 : wHere T n q = wBe
      · exact key _ h2 w5_0.2.2.1 (fun e he => (w5_big e he).2.2.1)
      · rw [ifp_f h2] at h
        by_cases h3 : wHere T n q = wHo
        · exact key _ h3 w5_0.2.2.2.1 (fun e he => (w5_big e he).2.2.2.1)
        · rw [ifp_f h3] at h
          by_cases h4 : wHere T n q = wAg
          · exact key _ h4 w5_0.2.2.2.2 (fun e he => (w5_big e he).2.2.2.2)
          · rw [ifp_f h4] at h; exact absurd rfl h
theorem nv_nI {k : Nat} (h : k < 2 ^ 31) : nv (nI k) = k := nI_cl h
theorem nv_In {x : Int32} {k : Nat} (h : In x k) (hk : k < 2 ^ 31) : nv x < k ∧ x = nI (nv x) := by
  obtain ⟨j, h1, rfl⟩ := h
  rw [nv_nI (by omega)]
  exact ⟨h1, rfl⟩
theorem num_nv {N : Nat} (hN : N < 2 ^ 31) {p : PS} (hp : p.1 ≤ n) : (pNum T n 0 (nI N - 1) p).1 = nI (nv (pNum T n 0 (nI N - 1) p).1) ∧ ((pNum T n 0 (nI N - 1) p).2.2.1 = 0 → nv (pNum T n 0 (nI N - 1) p).1 < N) ∧ (nv (pNum T n 0 (nI N - 1) p).1 < N ∨ nv (pNum T n 0 (nI N - 1) p).1 = 0) := by
  by_cases q : (pNum T n 0 (nI N - 1) p).2.2.1 = 0
  · have h := nv_In (bound_in hN ((pNum_ok hp).2.1 q).2.1) hN
    exact ⟨h.2, fun _ => h.1, Or.inl h.1⟩
  · have e := (pNum_ok hp).2.2 q
    rw [e]
    exact ⟨rfl, fun y => absurd y q, Or.inr rfl⟩
theorem num_60 {p : PS} (hp : p.1 ≤ n) : (pNum T n 0 60 p).1 = nI (nv (pNum T n 0 60 p).1) ∧ nv (pNum T n 0 60 p).1 ≤ 60 := by
  have h := num_nv (T := T) (n := n) (N := 61) (by decide) hp
  have e : nI 61 - 1 = (60 : Int32) := rfl
  rw [e] at h
  exact ⟨h.1, by have := h.2.2; omega⟩
theorem wB_ok {k : Nat} {p : PS} (hM : M ≤ 6) (hS : S ≤ 9) (hp : p.1 ≤ n) : (wB T n M S k p).1.1 ≤ n ∧ p.1 ≤ (wB T n M S k p).1.1 ∧ ((wB T n M S k p).1.2.1 = 0 → p.2.1 = 0 ∧ (k < 3 → (wB T n M S k p).2.1 < M) ∧ (k = 0 → (wB T n M S k p).2.2 < S)) ∧ (wB T n M S k p).2.1 ≤ 60 := by
  have a := num_nv (T := T) (n := n) (N := M) (by omega) hp
  have b := num_in (T := T) (n := n) (lo := 0) (hi := nI M - 1) hp
  have e : w1n T n M p = pNum T n 0 (nI M - 1) p := rfl
  unfold wB
  rw [e]
  by_cases h0 : k = 0
  · rw [if_pos h0]
    have a2 := num_nv (T := T) (n := n) (N := S) (by omega) b.1
    have b2 := num_in (T := T) (n := n) (lo := 0) (hi := nI S - 1) b.1
    exact ⟨b2.1, Nat.le_trans b.2.1 b2.2.1, fun q => ⟨(b.2.2 (b2.2.2 q).1).1, fun _ => a.2.1 (b2.2.2 q).1, fun _ => a2.2.1 q⟩, by show nv _ ≤ 60; have := a.2.2; omega⟩
  · rw [if_neg h0]
    by_cases h3 : k < 3
    · rw [if_pos h3]
      exact ⟨b.1, b.2.1, fun q => ⟨(b.2.2 q).1, fun _ => a.2.1 q, fun z => absurd z h0⟩, by show nv _ ≤ 60; have := a.2.2; omega⟩
    · rw [if_neg h3]
      exact ⟨hp, Nat.le_refl _, fun q => ⟨q, fun z => absurd z h3, fun z => absurd z h0⟩, Nat.zero_le _⟩
theorem AftW_f {k u : Nat} {s s' : QW} (h : Wf n s s') : AftW n M S k u s s' := ⟨h.2.2, fun q => absurd (by rw [← h.2.1]; exact q) h.1⟩
theorem okW_mo {k c c' : Nat} {F F' : Nat → W5} {i : Nat} (h : okW M S k c F i) (hc : c ≤ c') (hi : i < c) (hF : ∀ j, j < c → F' j = F j) : okW M S k c' F' i := by
  obtain ⟨h1, h2, h3, h4, h5, h6⟩ := h
  unfold okW
  rw [hF i hi]
  refine ⟨h1, ⟨h2.1, by omega⟩, h3, h4, fun q => ⟨(h5 q).1, fun j j1 j2 => ?_⟩, h6⟩
  rw [hF j (by omega)]
  exact (h5 q).2 j j1 j2
theorem Wk_ok (hM : M ≤ 6) (hS : S ≤ 9) : ∀ (f md k : Nat) (s s' : QW), Wk T n M S f md k s s' → s.1.1 ≤ n → k ≤ 6 → AftW n M S k (if md = 0 then 1 else 0) s s' := by
  intro f
  induction f with
  | zero => intro md k s s' h hs hk; exact AftW_f h
  | succ f IH =>
    intro md k s s' h hs hk
    rcases h with h | ⟨hg, ⟨rfl, h⟩ | ⟨rfl, h⟩⟩
    · exact AftW_f h
    · rw [if_pos rfl]
      rcases h with ⟨hk4, rfl⟩ | ⟨hk4, ⟨hk6, s1, r1, rfl⟩ | ⟨_, rfl⟩⟩ | ⟨_, rfl⟩
      · obtain ⟨p1, p2⟩ := stH_pos (T := T) hs (by omega)
        have hB := wB_ok (T := T) (n := n) (M := M) (S := S) (k := stH T n s.1.1) (p := (swd T n (n - s.1.1) s.1.1, s.1.2)) hM hS p2
        generalize wB T n M S (stH T n s.1.1) (swd T n (n - s.1.1) s.1.1, s.1.2) = r at hB
        generalize stH T n s.1.1 = kd at hk4 hB
        have hSg := pSgn_ok (T := T) (n := n) (c := 59) (by decide) hB.1
        refine ⟨hSg.1, fun q => ?_⟩
        have q1 := hSg.2 q
        have q2 := hB.2.2.1 q1.1
        have e1 : swd T n (n - s.1.1) s.1.1 ≤ r.1.1 := hB.2.1
        refine ⟨hg, ?_, ?_, Nat.le_succ _, fun i hi => ?_, fun i h1 h2 => ?_⟩
        · show s.1.1 + 1 ≤ (pSgn T n 59 r.1).1; omega
        · show 2 * (s.2.1 + 1) + s.1.1 ≤ (pSgn T n 59 r.1).1 + 2 * s.2.1; omega
        · show (if i = s.2.1 then _ else s.2.2 i) = s.2.2 i; rw [if_neg (by omega)]
        · have e : i = s.2.1 := by have h3 : i < s.2.1 + 1 := h2; omega
          have eF : (wAdd s.2 (kd, r.2.1, r.2.2, s.2.1 + 1, k)).2 i = (kd, r.2.1, r.2.2, s.2.1 + 1, k) := by show (if i = s.2.1 then _ else s.2.2 i) = _; rw [if_pos e]
          unfold okW
          rw [eF]
          exact ⟨by show kd ≤ 4; omega, ⟨by show i < s.2.1 + 1; omega, Nat.le_refl _⟩, fun _ => by show s.2.1 + 1 = i + 1; omega, Nat.le_refl _, fun z => absurd z (by show ¬ kd = 4; omega), q2.2.1, q2.2.2, hB.2.2.2⟩
      · obtain ⟨p1, p2⟩ := stH_pos (T := T) hs (by omega)
        have hN := num_in (T := T) (n := n) (lo := 0) (hi := 60) (p := (swd T n (n - s.1.1) s.1.1, s.1.2)) p2
        have h60 := num_60 (T := T) (n := n) (p := (swd T n (n - s.1.1) s.1.1, s.1.2)) p2
        generalize pNum T n 0 60 (swd T n (n - s.1.1) s.1.1, s.1.2) = r at hN h60 r1
        have h91 := pSgn_ok (T := T) (n := n) (c := 91) (by decide) hN.1
        have B := IH 1 (k + 1) _ s1 r1 h91.1 (by omega)
        have h93 := pSgn_ok (T := T) (n := n) (c := 93) (by decide) B.1
        have h59 := pSgn_ok (T := T) (n := n) (c := 59) (by decide) h93.1
        refine ⟨h59.1, fun q => ?_⟩
        have q1 := h59.2 q
        have q2 := h93.2 q1.1
        obtain ⟨b1, b2, b3, b4, b5, b6⟩ := B.2 q2.1
        have c1 := h91.2 b1
        have e1 : swd T n (n - s.1.1) s.1.1 ≤ r.2.1 := hN.2.1
        have b2' : (pSgn T n 91 r.2).1 + 0 ≤ s1.1.1 := b2
        have b3' : 2 * s1.2.1 + (pSgn T n 91 r.2).1 ≤ s1.1.1 + 2 * (s.2.1 + 1) := b3
        have b4' : s.2.1 + 1 ≤ s1.2.1 := b4
        have bF : s1.2.2 s.2.1 = (4, nv r.1, 0, 0, k) := by
          rw [b5 s.2.1 (Nat.lt_succ_self _)]
          show (if s.2.1 = s.2.1 then _ else s.2.2 s.2.1) = _
          rw [if_pos rfl]
        have eF : ∀ j, j ≠ s.2.1 → (wEnd s1.2 s.2.1).2 j = s1.2.2 j := fun j hj => if_neg hj
        have eN : (wEnd s1.2 s.2.1).2 s.2.1 = (4, nv r.1, 0, s1.2.1, k) := by
          show (if s.2.1 = s.2.1 then _ else s1.2.2 s.2.1) = _
          rw [if_pos rfl, bF]
        refine ⟨hg, ?_, ?_, by show s.2.1 ≤ s1.2.1; omega, fun i hi => ?_, fun i i1 i2 => ?_⟩
        · show s.1.1 + 1 ≤ (pSgn T n 59 (pSgn T n 93 s1.1)).1; omega
        · show 2 * s1.2.1 + s.1.1 ≤ (pSgn T n 59 (pSgn T n 93 s1.1)).1 + 2 * s.2.1; omega
        · rw [eF i (by omega), b5 i (by show i < s.2.1 + 1; omega)]
          show (if i = s.2.1 then _ else s.2.2 i) = _
          rw [if_neg (by omega)]
        · have i2' : i < s1.2.1 := i2
          show okW M S k s1.2.1 (wEnd s1.2 s.2.1).2 i
          by_cases e : i = s.2.1
          · subst e
            unfold okW
            rw [eN]
            refine ⟨Nat.le_refl 4, ⟨i2', Nat.le_refl _⟩, fun z => absurd rfl z, Nat.le_refl _, fun _ => ⟨by show k ≤ 5; omega, fun j j1 j2 => ?_⟩, fun z => absurd z (by show ¬ 4 < 3; decide), fun z => absurd z (by show ¬ 4 = 0; decide), h60.2⟩
            rw [eF j (by omega)]
            have := (b6 j (by show s.2.1 + 1 ≤ j; omega) j2).2.2.2.1
            show k < _
            omega
          · have hB := b6 i (by show s.2.1 + 1 ≤ i; omega) i2'
            have eFi := eF i e
            obtain ⟨g1, g2, g3, g4, g5, g6⟩ := hB
            unfold okW
            rw [eFi]
            refine ⟨g1, g2, g3, by omega, fun z => ⟨(g5 z).1, fun j j1 j2 => ?_⟩, g6⟩
            rw [eF j (by omega)]
            exact (g5 z).2 j j1 j2
      · exact ⟨hs, fun q => absurd (show (3 : Int32) = 0 from q) (by decide)⟩
      · exact ⟨hs, fun q => absurd (show (1 : Int32) = 0 from q) (by decide)⟩
    · rw [if_neg (by decide)]
      have hq := skp_ge (T := T) hs
      have hqn := skp_in (T := T) hs
      rcases h with ⟨_, rfl⟩ | ⟨_, s1, r0, r1⟩
      · exact ⟨hqn, fun _ => ⟨hg, hq, by show 2 * s.2.1 + s.1.1 ≤ skp T n s.1.1 + 2 * s.2.1; omega, Nat.le_refl _, fun _ _ => rfl, fun i i1 i2 => absurd (show i < s.2.1 from i2) (by omega)⟩⟩
      · have B := IH 0 k _ s1 r0 hqn hk
        have E := IH 1 k s1 s' r1 B.1 hk
        rw [if_pos rfl] at B
        rw [if_neg (by decide)] at E
        refine ⟨E.1, fun q => ?_⟩
        obtain ⟨e1, e2, e3, e4, e5, e6⟩ := E.2 q
        obtain ⟨b1, b2, b3, b4, b5, b6⟩ := B.2 e1
        have b2' : skp T n s.1.1 + 1 ≤ s1.1.1 := b2
        have b3' : 2 * s1.2.1 + skp T n s.1.1 ≤ s1.1.1 + 2 * s.2.1 := b3
        have b4' : s.2.1 ≤ s1.2.1 := b4
        refine ⟨hg, by omega, by omega, by omega, fun i hi => by rw [e5 i (by omega)]; exact b5 i hi, fun i i1 i2 => ?_⟩
        by_cases y : i < s1.2.1
        · exact okW_mo (b6 i i1 y) e4 y (fun j hj => e5 j hj)
        · exact e6 i (by omega) i2
end WP
