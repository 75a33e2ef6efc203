set_option maxRecDepth 100000
/-! LAW, CITY, WORK -/
section SL
variable {l : Launch} {g : mG} {d : Nat} {m A : Mm}
theorem nI_one {s c : Nat} {n : Int32} (hc : c < 2 ^ 31) {k k0 : Nat} (e : n = nI k) (e0 : n = nI k0) (h : k ≤ c) (h0 : k0 ≤ c) : k = k0 := by
  rw [e, nI_eq (by omega) (by omega)] at e0
  exact e0
theorem sw_XL {m1 C : Mm} (hm : cl m = A) (hC : ∀ a, 586 ≤ a → C a = cl m1 a) {v : Int32} {p : PS} {cs : List (Nat × Nat)} (h : XLw m m1 v p cs) : XLw (exB' C A) C v p cs := by
  have c7 : C 587 = m1 587 := sw_C hC (by decide) (by decide)
  have c0 : C 600 = m1 600 := sw_C hC (by decide) (by decide)
  have c1 : C 601 = m1 601 := sw_C hC (by decide) (by decide)
  unfold XLw
  rw [c7, c0, c1]
  exact ⟨h.1, fun z => ⟨(h.2.1 z).1, (h.2.1 z).2.1, fun a a1 a2 a3 => sw_k hm hC a ((h.2.1 z).2.2 a a1 a2 a3)⟩, fun z => ⟨(h.2.2 z).1, (h.2.2 z).2.1, fun a a1 a2 a3 a4 a5 => sw_k hm hC a ((h.2.2 z).2.2.1 a a1 a2 a3 a4 a5), (h.2.2 z).2.2.2⟩⟩
theorem bAt_eq {T T' : Nat → Int32} {k : Nat} (h : ∀ i, i < k → T i = T' i) : bAt T k = bAt T' k := by
  funext i
  unfold bAt
  by_cases z : i < k
  · rw [if_pos z, if_pos z, h i z]
  · rw [if_neg z, if_neg z]
theorem lwS_cg {T T' : Nat → Int32} {k : Nat} (h : bAt T k = bAt T' k) {s' : QS} (q : lwS T k s') : lwS T' k s' := by
  unfold lwS at q ⊢
  rw [← Lw_cg h, ← skp_cg h]
  exact q
theorem p_law (hR : Rl A) (hm : cl m = A) (hd : 60 ≤ d) (p0 : Int32) : pPr l g d k_L_law k_X12_law [.ref 586, .int p0, .ref 585] [.ref 0, .int p0] m := by
  obtain ⟨s, es, h6, hs, hs', hT, hne, -⟩ := Rl_tp hR hm
  obtain ⟨s', hL⟩ : ∃ s', ∀ k, p0 = nI k → k ≤ 150 → k ≤ s → lwS (m 588) k s' := by
    by_cases z : isTx s 150 p0
    · obtain ⟨k0, e0, h0, _⟩ := z
      obtain ⟨s', q⟩ := lwS_tot (m 588) k0
      exact ⟨s', fun k e h1 h2 => by rw [nI_one (s := s) (c := 150) (by decide) e e0 h1 h0]; exact q⟩
    · exact ⟨((0, 0, 0), []), fun k e h1 h2 => absurd ⟨k, e, h1, h2⟩ z⟩
  refine ⟨_, h_law p0 (x_law hs' h6 hne (by omega) p0 hL) (fun x m2 q => q.2.1) (by omega), ?_⟩
  rintro r m1 o1 (⟨rfl, v, ⟨k, rfl, h150, hk, hX⟩, rfl⟩ | ⟨rfl, hn, -, rfl⟩)
  · have hb : bAt (m 588) k = bAt (A 1) k := bAt_eq (fun i hi => hT i (by omega))
    have hL := lwS_cg hb (hL k rfl h150 hk)
    rw [lwE_cg hb] at hX
    have lo := sw_lo hm (fun a ha => by
      by_cases z : (lwE (A 1) k s'.1).2.1 = 0
      · exact (hX.2.2 z).2.2.1 a (by omega) (by omega) (by omega) (by omega) (by omega)
      · exact (hX.2.1 z).2.2 a (by omega) (by omega) (by omega))
    refine mHi_mono (r_law (A := cl m1) rfl (s := s) (by rw [lo 0 (by decide)]; exact hs) h6 (by omega) (nI k)) (fun x m2 q => ?_)
    obtain ⟨q1, s2, hL2, q2, q3⟩ := q.2 k rfl h150 hk
    rw [lo 1 (by decide)] at hL2 q2 q3
    obtain rfl := lwS_det hL hL2
    refine ⟨q1, fun _ => ?_, ?_⟩
    · by_cases z : (lwE (A 1) k s'.1).2.1 = 0
      · rw [(q3 z).1, (hX.2.2 z).1]
      · rw [(q2 z).1, (hX.2.1 z).1]
    · have hok := lwS_ok hL
      by_cases z : (lwE (A 1) k s'.1).2.1 = 0
      · have hU := (q3 z).2
        generalize cl m2 = C at hU
        have hC : ∀ a, 586 ≤ a → C a = cl m1 a := fun a ha => hU.1 a (by omega) (by omega)
        refine Rl_law1 (B := exB' C A) hR z (by omega) hok.2.2 ?_ (sw_XL hm hC hX)
        obtain ⟨u1, u2, u3, u4⟩ := hU
        refine ⟨fun a a1 a2 => sw_f lo (P := fun a => a ≠ 0 ∧ (a < 70 ∨ 390 < a)) (fun a q => u1 a q.1 q.2) a ⟨a1, a2⟩, sw_t (lo 0 (by decide)) u2, ?_, fun t ht => ?_⟩
        · rw [xb_lo (by decide)]; exact u3
        · rw [xb_lo (by omega)]; exact u4 t ht
      · have hU := (q2 z).2
        generalize cl m2 = C at hU
        have hC : ∀ a, 586 ≤ a → C a = cl m1 a := fun a ha => hU.1 a (by omega) (by omega)
        refine Rl_law0 (B := exB' C A) hR z ?_ (sw_XL hm hC hX)
        exact ⟨fun a a1 a2 => sw_f lo (P := fun a => a ≠ 0 ∧ (a < 231 ∨ 390 < a)) (fun a q => hU.1 a q.1 q.2) a ⟨a1, a2⟩, sw_t (lo 0 (by decide)) hU.2⟩
  · have e := sw_bad hm
    have l0 : cl (mset m 586 16 (m 586 16 + 1)) 0 = A 0 := by rw [e]; exact cN1_lo A 1 (by decide)
    refine mHi_mono (r_law (A := cl (mset m 586 16 (m 586 16 + 1))) rfl (s := s) (by rw [l0]; exact hs) h6 (by omega) p0) (fun x m2 q => ?_)
    obtain ⟨q1, q2⟩ := q.1 hn
    refine ⟨q1, fun y => absurd y (by decide), ?_⟩
    rw [q2, e, cN1_lo A 1 (show (2 : Nat) ≠ 586 by decide)]
    exact Rl_cnt hR (by decide)
theorem sw_XC {m1 C : Mm} (hm : cl m = A) (hC : ∀ a, 586 ≤ a → C a = cl m1 a) {v : Int32} {c : CS} (h : XCt m m1 v c) : XCt (exB' C A) C v c := by
  have c6 : C 586 = m1 586 := sw_C hC (by decide) (by decide)
  have b6 : exB' C A 586 = m 586 := sw_B hm (by decide) (by decide)
  have c7 : C 587 = m1 587 := sw_C hC (by decide) (by decide)
  have c0 : C 600 = m1 600 := sw_C hC (by decide) (by decide)
  have c17 : C 617 = m1 617 := sw_C hC (by decide) (by decide)
  have c18 : C 618 = m1 618 := sw_C hC (by decide) (by decide)
  have c90 : C 590 = m1 590 := sw_C hC (by decide) (by decide)
  have c95 : C 595 = m1 595 := sw_C hC (by decide) (by decide)
  have c25 : C 625 = m1 625 := sw_C hC (by decide) (by decide)
  have c26 : C 626 = m1 626 := sw_C hC (by decide) (by decide)
  have c27 : C 627 = m1 627 := sw_C hC (by decide) (by decide)
  have c28 : C 628 = m1 628 := sw_C hC (by decide) (by decide)
  have c29 : C 629 = m1 629 := sw_C hC (by decide) (by decide)
  unfold XCt
  rw [c6, b6, c7, c0, c17, c18, c90, c95, c25, c26, c27, c28, c29]
  refine ⟨h.1, fun z => ⟨(h.2.1 z).1, (h.2.1 z).2.1, fun a a1 a2 => sw_k hm hC a ((h.2.1 z).2.2 a a1 a2)⟩, fun z => ?_⟩
  obtain ⟨y1, y2, y3, y4, y5, y6, ⟨m3, w1, w2, w3⟩, y8⟩ := h.2.2 z
  refine ⟨y1, y2, fun a a1 a2 a3 a4 a5 a6 a7 => sw_k hm hC a (y3 a a1 a2 a3 a4 a5 a6 a7), y4, y5, y6, ⟨m3, w1, w2, fun r r1 r9 i hi => ?_⟩, y8⟩
  rw [sw_C hC (a := 590 + r) (by omega) (by omega)]
  exact w3 r r1 r9 i hi
theorem sw_cT {C A : Mm} {D : CD} (hD : cDok D) (h : cTb C D) : cTb (exB' C A) D := by
  obtain ⟨h1, h2, h3, h4, h5, h6⟩ := h
  have e1 : (D 1).length ≤ 14 := (hD.2 1 (by decide)).1
  have e2 : (D 2).length ≤ 6 := (hD.2 2 (by decide)).1
  have e3 : (D 3).length ≤ 8 := (hD.2 3 (by decide)).1
  exact ⟨fun k hk => by rw [xb_lo (by decide)]; exact h1 k hk, fun i hi => by rw [xb_lo (by decide)]; exact h2 i hi, fun i hi => by rw [xb_lo (by omega)]; exact h3 i hi, fun i hi => by rw [xb_lo (by omega)]; exact h4 i hi, fun i hi => by rw [xb_lo (by omega)]; exact h5 i hi, fun k hk => by rw [xb_lo (by decide)]; exact h6 k hk⟩
theorem p_city (hR : Rl A) (hm : cl m = A) (hd : 60 ≤ d) (p0 : Int32) : pPr l g d k_L_city k_X12_city [.ref 586, .int p0, .ref 585] [.ref 0, .int p0] m := by
  obtain ⟨s, es, h6, hs, hs', hT, hne, -⟩ := Rl_tp hR hm
  refine ⟨_, h_city p0 (x_city hs' h6 hne (by omega) p0) (fun x m2 q => q.2.1) (by omega), ?_⟩
  rintro r m1 o1 (⟨rfl, v, ⟨k, rfl, hk, hX⟩, rfl⟩ | ⟨rfl, hn, -, rfl⟩)
  · rw [ctR_cg (fun i hi => hT i (by omega))] at hX
    have lo := sw_lo hm (fun a ha => by
      by_cases z : (ctR (A 1) k).1.2.1 = 0
      · exact (hX.2.2 z).2.2.1 a (by omega) (by omega) (by omega) (by omega) (by omega) (by omega) (by omega)
      · exact (hX.2.1 z).2.2 a (by omega) (by omega))
    refine mHi_mono (r_city (A := cl m1) rfl (s := s) (by rw [lo 0 (by decide)]; exact hs) h6 (by omega) (nI k)) (fun x m2 q => ?_)
    obtain ⟨q1, q2, q3⟩ := q.2 k rfl hk
    rw [lo 1 (by decide)] at q2 q3
    have hok : cOk (A 1) k (ctR (A 1) k) := ctR_ok
    refine ⟨q1, fun _ => ?_, ?_⟩
    · by_cases z : (ctR (A 1) k).1.2.1 = 0
      · rw [(q3 z).1, (hX.2.2 z).1]
      · rw [(q2 z).1, (hX.2.1 z).1]
    · by_cases z : (ctR (A 1) k).1.2.1 = 0
      · have hU := (q3 z).2
        generalize cl m2 = C at hU
        have hC : ∀ a, 586 ≤ a → C a = cl m1 a := fun a ha => hU.1 a (by omega) (by unfold rdC; omega) (by unfold cyC; omega) (by omega)
        refine Rl_city1 (B := exB' C A) hR hok z ?_ (sw_XC hm hC hX)
        obtain ⟨u1, u2, u3, u4⟩ := hU
        refine ⟨fun a a1 a2 a3 a4 => sw_f lo (P := fun a => a ≠ 0 ∧ ¬ rdC a ∧ ¬ cyC a ∧ a ≠ 494) (fun a q => u1 a q.1 q.2.1 q.2.2.1 q.2.2.2) a ⟨a1, a2, a3, a4⟩, sw_t (lo 0 (by decide)) u2, ?_, sw_cT hok.2.2 u4⟩
        rw [xb_lo (by decide)]; exact u3
      · have hU := (q2 z).2
        generalize cl m2 = C at hU
        have hC : ∀ a, 586 ≤ a → C a = cl m1 a := fun a ha => hU.1 a (by omega) (by unfold rdC; omega)
        refine Rl_city0 (B := exB' C A) hR z ?_ (sw_XC hm hC hX)
        exact ⟨fun a a1 a2 => sw_f lo (P := fun a => a ≠ 0 ∧ ¬ rdC a) (fun a q => hU.1 a q.1 q.2) a ⟨a1, a2⟩, sw_t (lo 0 (by decide)) hU.2⟩
  · have e := sw_bad hm
    have l0 : cl (mset m 586 16 (m 586 16 + 1)) 0 = A 0 := by rw [e]; exact cN1_lo A 1 (by decide)
    refine mHi_mono (r_city (A := cl (mset m 586 16 (m 586 16 + 1))) rfl (s := s) (by rw [l0]; exact hs) h6 (by omega) p0) (fun x m2 q => ?_)
    obtain ⟨q1, q2⟩ := q.1 hn
    refine ⟨q1, fun y => absurd y (by decide), ?_⟩
    rw [q2, e, cN1_lo A 1 (show (2 : Nat) ≠ 586 by decide)]
    exact Rl_cnt hR (by decide)
end SL
section SE
variable {A B : Mm}
theorem fo_cg {σ : Type} {st st' : Nat → σ → σ} : ∀ (n : Nat), (∀ p, p < n → st p = st' p) → ∀ x, fo st n x = fo st' n x
  | 0, _, _ => rfl
  | n + 1, h, x => by
    show st n (fo st n x) = st' n (fo st' n x)
    rw [h n (Nat.lt_succ_self n), fo_cg n (fun p hp => h p (by omega)) x]
theorem nCall_cg (h : sim A B) (hA : Sv A) (R : Nat → Int32) {k : Nat} (hk : k < 6) (w : Int32) : nCall B R k w = nCall A R k w := by
  have e : coC B R k = coC A R k := sim_say h hA R hk _ _
  unfold nCall
  by_cases q : R (12 + k) = 1
  · rw [if_pos q, if_pos q]
  · rw [if_neg q, if_neg q]
    unfold coS coR
    rw [e, sim_nP h]
    rw [fo_cg (nP A) (fun p hp => ?_)]
    have h8 := hA.1.2.2.2.2
    funext x
    unfold stC
    rw [sim_at h 0 (a := 61 + p) (by omega), sim_at h 1 (a := 61 + p) (by omega)]
theorem doS_cg (h : sim A B) (hA : Sv A) (R : Nat → Int32) {v : W5} (hk : v.1 < 3 → v.2.1 < nM A) (w : Int32) : doS B R v w = doS A R v w := by
  have h6 := hA.1.2.2.1.2
  unfold doS
  by_cases q0 : v.1 = 0
  · rw [if_pos q0, if_pos q0]
    unfold nWalk
    rw [sim_Ln h hA.1, nCall_cg h hA _ (by have := hk (by omega); omega)]
  · rw [if_neg q0, if_neg q0]
    by_cases q1 : v.1 = 1
    · rw [if_pos q1, if_pos q1, nCall_cg h hA _ (by have := hk (by omega); omega)]
    · rw [if_neg q1, if_neg q1]
theorem exS_cg (h : sim A B) (hA : Sv A) {v : W5} (hk : v.1 < 3 → v.2.1 < nM A) (e : EX) : exS B v e = exS A v e := by
  unfold exS
  rw [doS_cg h hA _ hk]
theorem Ex_cg (h : sim A B) (hA : Sv A) {F : Nat → W5} {c : Nat} (hF : ∀ i, i < c → okW (nM A) (nS A) 0 c F i) : ∀ (f md i j : Nat) (e e' : EX), Ex B F f md i j e e' → (md = 0 → j ≤ c) → (md = 1 → i < c) → Ex A F f md i j e e' := by
  intro f
  induction f with
  | zero => intro md i j e e' q; exact absurd q (fun q => q)
  | succ f IH =>
    intro md i j e e' q hj hi
    rcases q with ⟨rfl, z | ⟨z, ⟨h3, e1, r1, r2⟩ | ⟨h3, r2⟩⟩⟩ | ⟨rfl, z | ⟨z, e1, r1, r2⟩⟩
    · exact Or.inl ⟨rfl, Or.inl z⟩
    · have hjc := hj rfl
      exact Or.inl ⟨rfl, Or.inr ⟨z, Or.inl ⟨h3, e1, IH _ _ _ _ _ r1 (fun y => absurd y (by decide)) (fun _ => by omega), IH _ _ _ _ _ r2 (fun _ => hjc) (fun y => absurd y (by decide))⟩⟩⟩
    · have hjc := hj rfl
      rw [exS_cg h hA (hF i (by omega)).2.2.2.2.2.1] at r2
      exact Or.inl ⟨rfl, Or.inr ⟨z, Or.inr ⟨h3, IH _ _ _ _ _ r2 (fun _ => hjc) (fun y => absurd y (by decide))⟩⟩⟩
    · exact Or.inr ⟨rfl, Or.inl z⟩
    · have hic := hi rfl
      exact Or.inr ⟨rfl, Or.inr ⟨z, e1, IH _ _ _ _ _ r1 (fun _ => (hF i hic).2.1.2) (fun y => absurd y (by decide)), IH _ _ _ _ _ r2 (fun y => absurd y (by decide)) (fun _ => hic)⟩⟩
end SE
