set_option maxRecDepth 100000
/-! THE RELATION AFTER A CITY -/
theorem Rl_city0 {A B C : Mm} (hR : Rl A) {c : CS} (hb : c.1.2.1 ≠ 0) (hU : Ct0 A c B) {v : Int32} (hX : XCt B C v c) : Rl C := by
  obtain ⟨u1, u2, u3, u4⟩ := hU
  obtain ⟨x1, x2, -⟩ := hX
  obtain ⟨-, x3, x4⟩ := x2 hb
  have eC : ∀ a, a ≠ 0 → ¬ rdC a → a ≠ 587 → a < 604 ∨ 613 < a → C a = A a := fun a h1 h2 h3 h4 => (x4 a h3 h4).trans (u1 a h1 h2)
  have e0 : ∀ i, C 0 i = B 0 i := fun i => by rw [x4 0 (by decide) (by decide)]
  have f0 : ∀ i, 9 ≤ i → C 0 i = A 0 i := fun i hi => (e0 i).trans (u2 i (by omega) (by omega) (by omega) (by omega) (by omega) (by omega) (by omega) (by omega) (fun q => q))
  have hS : sim A C := ⟨fun a ha => eC a (by unfold cwA at ha; omega) (by unfold cwA at ha; unfold rdC; omega) (by unfold cwA at ha; omega) (by unfold cwA at ha; omega), f0 21 (by decide)⟩
  have hbk : ∀ a, 392 ≤ a → a ≤ 400 → C a = A a := fun a h1 h2 => eC a (by omega) (by unfold rdC; omega) (by omega) (by omega)
  obtain ⟨q1, q2, q3, q4, q5, q6, q7, q8, q9⟩ := hR.1
  exact Rl_txt hR (eC 4 (by decide) (by unfold rdC; omega) (by decide) (by decide)) (fun a h1 h2 _ => eC a (by omega) (by unfold rdC; omega) (by omega) (by omega)) (fun a h1 h2 => eC a (by omega) (by unfold rdC; omega) (by omega) (by omega)) (fun a h1 => eC a (by omega) (by unfold rdC; omega) (by omega) (by omega)) (fun i hi => f0 i (by omega)) (eC 586 (by decide) (by unfold rdC; omega) (by decide) (by decide)) (eC 2 (by decide) (by unfold rdC; omega) (by decide) (by decide)) (cg_Cty hS q1) (sim_LwOk hS q2) (cg_BkOk (f0 35 (by decide)) hbk (sim_nS hS) q3) (cg_CtR hS q1.1 (fun a h1 h2 => eC a (by omega) (by unfold rdC; omega) (by omega) (by omega)) q5) (cg_LwR hS q2 (fun a h1 h2 => eC a (by omega) (by unfold rdC; omega) (by omega) (by omega)) q6) (cg_BkR (f0 35 (by decide)) hbk q3 (fun a h1 h2 => eC a (by omega) (by unfold rdC; omega) (by omega) (by omega)) q7) (by rw [e0]; exact u3) x1 (by rw [x3, e0, u4])
theorem full_msk : ∀ n, n ≤ 6 → ∀ (P : Nat → Prop), (∀ k, k < n → P k) → jshl 1 (nI n) - 1 = msk P n := by
  intro n hn P h
  have e : msk P n = msk (fun _ => True) n := msk_cong (fun k hk => ⟨fun _ => trivial, fun _ => h k hk⟩)
  rw [e]
  clear e h
  obtain rfl | rfl | rfl | rfl | rfl | rfl | rfl : n = 0 ∨ n = 1 ∨ n = 2 ∨ n = 3 ∨ n = 4 ∨ n = 5 ∨ n = 6 := by omega
  all_goals
    repeat rw [msk_t (P := fun _ => True) trivial]
    show _ = _
    rfl
theorem msk_none : ∀ (n : Nat) (P : Nat → Prop), (∀ k, k < n → ¬ P k) → msk P n = 0
  | 0, _, _ => rfl
  | n + 1, P, h => by rw [msk_f (h n (Nat.lt_succ_self _))]; exact msk_none n P (fun k hk => h k (by omega))
section RC1
variable {C : Mm} {D : CD}
/-- a city from its table -/
theorem cTb_n (h : cTb C D) (hD : cDok D) : nS C = (D 0).length ∧ nL C = (D 1).length ∧ nM C = (D 2).length ∧ nP C = (D 3).length := by
  have l0 : (D 0).length ≤ 9 := (hD.2 0 (by decide)).1
  have l1 : (D 1).length ≤ 14 := (hD.2 1 (by decide)).1
  have l2 : (D 2).length ≤ 6 := (hD.2 2 (by decide)).1
  have l3 : (D 3).length ≤ 8 := (hD.2 3 (by decide)).1
  unfold nS nL nM nP
  rw [h.1 0 (by decide), h.1 1 (by decide), h.1 2 (by decide), h.1 3 (by decide), nI_cl (by omega), nI_cl (by omega), nI_cl (by omega), nI_cl (by omega)]
  exact ⟨rfl, rfl, rfl, rfl⟩
theorem cTb_Cty (h : cTb C D) (hD : cDok D) : Cty C := by
  obtain ⟨n0, n1, n2, n3⟩ := cTb_n h hD
  have l0 : (D 0).length ≤ 9 := (hD.2 0 (by decide)).1
  have l1 : (D 1).length ≤ 14 := (hD.2 1 (by decide)).1
  have l2 : (D 2).length ≤ 6 := (hD.2 2 (by decide)).1
  have l3 : (D 3).length ≤ 8 := (hD.2 3 (by decide)).1
  unfold Cty CtB
  rw [n0, n1, n2, n3]
  obtain ⟨t1, t2, t3, t4, t5, t6⟩ := h
  refine ⟨⟨⟨t1 0 (by decide), l0⟩, ⟨t1 1 (by decide), l1⟩, ⟨t1 2 (by decide), l2⟩, t1 3 (by decide), l3⟩, fun s hs => ?_, fun e he => ?_, fun k hk => ?_, fun p hp => ?_⟩
  · rw [t2 s hs]; exact (hD.2 0 (by decide)).2 s hs
  · rw [(t3 e he).1, (t3 e he).2]; exact (hD.2 1 (by decide)).2 e he
  · rw [(t4 k hk).1, (t4 k hk).2.1, (t4 k hk).2.2]; exact (hD.2 2 (by decide)).2 k hk
  · rw [(t5 p hp).1, (t5 p hp).2]; exact (hD.2 3 (by decide)).2 p hp
theorem cTb_Ln (h : cTb C D) (hD : cDok D) (x y : Int32) : Ln C x y ↔ lnIn (D 1) x y := by
  unfold Ln lnIn
  rw [(cTb_n h hD).2.1]
  constructor
  · rintro ⟨e, he, q⟩
    refine ⟨e, he, ?_⟩
    unfold LnE at q
    rw [(h.2.2.1 e he).1, (h.2.2.1 e he).2] at q
    exact q
  · rintro ⟨e, he, q⟩
    refine ⟨e, he, ?_⟩
    unfold LnE
    rw [(h.2.2.1 e he).1, (h.2.2.1 e he).2]
    exact q
theorem lnIn_lt (hD : cDok D) {x : Int32} {j : Nat} (hj : j < 2 ^ 31) (h : lnIn (D 1) x (nI j)) : j < (D 0).length := by
  have l0 : (D 0).length ≤ 9 := (hD.2 0 (by decide)).1
  obtain ⟨e, he, q⟩ := h
  have ho : In (eAt (D 1) e).1 (D 0).length ∧ In (eAt (D 1) e).2.1 (D 0).length ∧ (eAt (D 1) e).1 ≠ (eAt (D 1) e).2.1 := (hD.2 1 (by decide)).2 e he
  rcases q with ⟨_, q⟩ | ⟨q, _⟩
  · obtain ⟨a, h1, h2⟩ := ho.2.1
    rw [q, nI_eq hj (by omega)] at h2
    omega
  · obtain ⟨a, h1, h2⟩ := ho.1
    rw [q, nI_eq hj (by omega)] at h2
    omega
theorem nowC_at (hD : cDok D) : (∀ k, k < (D 2).length → nowC D k = (eAt (D 2) k).1) ∧ (∀ k, k < 6 → nowC D (6 + k) = 0) ∧ (∀ k, k < 6 → nowC D (12 + k) = 0) ∧ (∀ s, s < 9 → nowC D (18 + s) = 24) ∧ (∀ p, p < 8 → nowC D (27 + p) = 0) ∧ nowC D 35 = 0 ∧ nowC D 36 = 0 := by
  have l2 : (D 2).length ≤ 6 := (hD.2 2 (by decide)).1
  unfold nowC
  refine ⟨fun k hk => by rw [if_pos hk], fun k hk => ?_, fun k hk => ?_, fun k hk => ?_, fun k hk => ?_, ?_, ?_⟩
  · rw [if_neg (by omega), if_neg (by omega)]
  · rw [if_neg (by omega), if_neg (by omega)]
  · rw [if_neg (by omega), if_pos (by omega)]
  · rw [if_neg (by omega), if_neg (by omega)]
  · rw [if_neg (by omega), if_neg (by omega)]
  · rw [if_neg (by omega), if_neg (by omega)]
theorem in_0 {n : Nat} (h : 0 < n) : In 0 n := ⟨0, h, rfl⟩
theorem cTb_Nt (h : cTb C D) (hD : cDok D) : Nt C (C 494) := by
  obtain ⟨n0, n1, n2, n3⟩ := cTb_n h hD
  have l2 : (D 2).length ≤ 6 := (hD.2 2 (by decide)).1
  obtain ⟨a1, a2, a3, a4, a5, a6, a7⟩ := nowC_at hD
  have t6 := h.2.2.2.2.2
  unfold Nt
  rw [n0, n2]
  refine ⟨fun k hk => ?_, fun k hk => ?_, fun s hs => ?_, fun p hp => ?_, ?_, fun k h1 h2 => ?_⟩
  · rw [t6 k (by omega), a1 k hk]; exact ((hD.2 2 (by decide)).2 k hk).1
  · rw [t6 (12 + k) (by omega), a3 k hk]; exact in_0 (by decide)
  · rw [t6 (18 + s) (by omega), a4 s hs]; exact ⟨24, by decide, rfl⟩
  · rw [t6 (27 + p) (by omega), a5 p hp]; exact in_0 (by decide)
  · rw [t6 35 (by omega), a6]; exact in_0 (by decide)
  · rw [t6 (6 + k) (by omega), a2 k h2]
end RC1
theorem Rl_new {C : Mm} {D : CD} (hD : cDok D) (h : cTb C D) (hz : C 0 21 = 0 ∧ C 0 35 = 0 ∧ C 0 36 = 0 ∧ C 0 37 = 0 ∧ C 0 38 = 0) (t1 : C 0 1 = 0) (t2 : C 587 1 = 0) (t3 : C 587 3 = C 0 3) (w : C 600 2 = 0) (b : C 617 1 = 0 ∧ ∀ s, s < 9 → C 618 s = -1) (i1 : C 586 13 = 0 ∧ C 586 14 = 0) (i2 : C 586 15 = C 2 0 ∧ C 586 16 = C 2 1)
    (cc : ∃ m3, dCt D m3 ∧ (∀ i, i < 5 → C 590 i = m3 604 i) ∧ ∀ r, 1 ≤ r → r ≤ 9 → ∀ i, i < cpL r → C (590 + r) i = m3 (604 + r) i) (y1 : C 625 2 = 0) (y2 : C 626 0 = 0 ∧ C 626 1 = 0 ∧ C 626 2 = jshl 1 (nI (D 2).length) - 1 ∧ C 626 3 = 0) (y3 : ∀ k, k < 6 → C 627 k = C 595 k) (y4 : ∀ k, k < 6 → C 628 k = 0) (y5 : ∀ s, s < 9 → s < nS C → C 629 s = 24) : Rl C := by
  obtain ⟨n0, n1, n2, n3⟩ := cTb_n h hD
  have l0 : (D 0).length ≤ 9 := (hD.2 0 (by decide)).1
  have l1 : (D 1).length ≤ 14 := (hD.2 1 (by decide)).1
  have l2 : (D 2).length ≤ 6 := (hD.2 2 (by decide)).1
  have l3 : (D 3).length ≤ 8 := (hD.2 3 (by decide)).1
  obtain ⟨a1, a2, a3, a4, a5, a6, a7⟩ := nowC_at hD
  have t6 := h.2.2.2.2.2
  obtain ⟨m3, hC3, c1, c2⟩ := cc
  obtain ⟨d1, d2, d3, d4, d5, d6⟩ := hC3
  have z0 : (0 : Int32) = nI 0 := rfl
  have cz : (0 : Int32).toNatClampNeg = 0 := rfl
  have enW : nW C = 0 := by unfold nW; rw [hz.1]; rfl
  have enB : nB C = 0 := by unfold nB; rw [hz.2.1]; rfl
  have enK : nWk C = 0 := by unfold nWk; rw [hz.2.2.1]; rfl
  have en3 : nI3 C = 0 := by unfold nI3; rw [hz.2.2.2.2]; rfl
  have enT : nTp C = 0 := by unfold nTp; rw [t1]; rfl
  have hNt := cTb_Nt h hD
  have hNR : NtR C (C 494) C 626 := by
    unfold NtR
    rw [n2, n3]
    refine ⟨?_, ?_, ?_, ?_, fun k hk => ?_, fun k hk => ?_, fun s hs hs2 => ?_⟩
    · rw [y2.1, t6 35 (by decide), a6]
    · rw [y2.2.1, t6 36 (by decide), a7]
    · rw [y2.2.2.1]; exact full_msk _ l2 _ (fun k hk => by rw [t6 (12 + k) (by omega)]; exact a3 k (by omega))
    · rw [y2.2.2.2, msk_none]
      intro k hk q
      rw [t6 (27 + k) (by omega), a5 k (by omega)] at q
      exact absurd q (by decide)
    · rw [y3 k (by omega), t6 k (by omega), a1 k hk, c2 5 (by decide) (by decide) k (by show k < 6; omega)]
      exact (d4 k hk).1
    · rw [y4 k hk, t6 (6 + k) (by omega), a2 k hk]
    · rw [y5 s hs hs2, t6 (18 + s) (by omega), a4 s hs]
  have hCt : CtR C C 590 := by
    unfold CtR
    rw [n0, n1, n2, n3]
    refine ⟨⟨?_, ?_, ?_, ?_⟩, fun s hs => ?_, fun s hs => ?_, fun e he => ?_, fun k hk => ?_, fun p hp => ?_⟩
    · rw [c1 0 (by decide)]; exact d1 0 (by decide)
    · rw [c1 1 (by decide)]; exact d1 1 (by decide)
    · rw [c1 2 (by decide)]; exact d1 2 (by decide)
    · rw [c1 3 (by decide)]; exact d1 3 (by decide)
    · rw [c2 1 (by decide) (by decide) s (by show s < 9; omega), h.2.1 s hs]; exact d2 s hs
    · rw [c2 2 (by decide) (by decide) s (by show s < 9; omega)]
      refine hB_ext (fun j hj => ?_)
      rw [hB_msk (by omega) hj, cTb_Ln h hD]
      have q := d6 s (by omega) j hj
      exact ⟨fun y => ⟨lnIn_lt hD (by omega) (q.mp y), q.mp y⟩, fun y => q.mpr y.2⟩
    · rw [c2 3 (by decide) (by decide) e (by show e < 14; omega), c2 4 (by decide) (by decide) e (by show e < 14; omega), (h.2.2.1 e he).1, (h.2.2.1 e he).2]; exact d3 e he
    · rw [c2 5 (by decide) (by decide) k (by show k < 6; omega), c2 6 (by decide) (by decide) k (by show k < 6; omega), c2 7 (by decide) (by decide) k (by show k < 6; omega), (h.2.2.2.1 k hk).1, (h.2.2.2.1 k hk).2.1, (h.2.2.2.1 k hk).2.2]; exact d4 k hk
    · rw [c2 8 (by decide) (by decide) p (by show p < 8; omega), c2 9 (by decide) (by decide) p (by show p < 8; omega), (h.2.2.2.2.1 p hp).1, (h.2.2.2.2.1 p hp).2]; exact d5 p hp
  refine ⟨⟨cTb_Cty h hD, ?_, ?_, hNt, hCt, ?_, ?_, hNR, by rw [i1.2, hz.2.2.2.1]⟩, ?_, ?_, i2, ?_, t3⟩
  · unfold LwOk; rw [enW]; exact ⟨hz.1, by decide, fun k hk => absurd hk (Nat.not_lt_zero _)⟩
  · unfold BkOk; rw [enB]; exact ⟨hz.2.1, by decide, fun t ht => absurd ht (Nat.not_lt_zero _), fun t u _ hu => absurd hu (Nat.not_lt_zero _)⟩
  · unfold LwR; rw [enW]; exact ⟨w, fun k hk => absurd hk (Nat.not_lt_zero _)⟩
  · unfold BkR; rw [enB]; exact ⟨by rw [b.1, hz.2.1], fun s hs => ⟨fun t ht => absurd ht (Nat.not_lt_zero _), fun _ => b.2 s hs⟩⟩
  · rw [enK]; exact ⟨hz.2.2.1, by decide, y1, ⟨hNR, hNt⟩, fun i hi => absurd hi (Nat.not_lt_zero _)⟩
  · rw [en3]; exact ⟨by decide, hz.2.2.2.2, i1.1, fun i hi => absurd hi (Nat.not_lt_zero _)⟩
  · rw [enT]; exact ⟨by decide, t1, t2, fun i hi => absurd hi (Nat.not_lt_zero _)⟩
theorem Rl_city1 {A B C : Mm} (hR : Rl A) {T : Nat → Int32} {n : Nat} {c : CS} (hok : cOk T n c) (hb : c.1.2.1 = 0) (hU : Ct1 A c.2 B) {v : Int32} (hX : XCt B C v c) : Rl C := by
  obtain ⟨u1, ⟨u2, u3, u4⟩, u5, u6⟩ := hU
  obtain ⟨x1, -, x2⟩ := hX
  obtain ⟨-, x3, x4, x5, x6, x7, x8, x9, y1, y2, y3, y4⟩ := x2 hb
  have eB : ∀ a, a < 586 → C a = B a := fun a ha => x4 a (by omega) (by omega) (by omega) (by omega) (by omega) (by omega) (by omega)
  have hD := hok.2.2
  refine Rl_new hD ?_ (by rw [eB 0 (by decide)]; exact u5) (by rw [eB 0 (by decide)]; exact u3) x1 (by rw [x3, eB 0 (by decide), u4]) x5 x6 x7.2 ⟨?_, ?_⟩ x8 x9 y1 y2 y3 (fun s hs _ => y4 s hs)
  · obtain ⟨t1, t2, t3, t4, t5, t6⟩ := u6
    have l1 : (c.2 1).length ≤ 14 := (hD.2 1 (by decide)).1
    have l2 : (c.2 2).length ≤ 6 := (hD.2 2 (by decide)).1
    have l3 : (c.2 3).length ≤ 8 := (hD.2 3 (by decide)).1
    refine ⟨fun k hk => by rw [eB 4 (by decide)]; exact t1 k hk, fun i hi => by rw [eB 6 (by decide)]; exact t2 i hi, fun i hi => by rw [eB (23 + i) (by omega)]; exact t3 i hi, fun i hi => by rw [eB (45 + i) (by omega)]; exact t4 i hi, fun i hi => by rw [eB (61 + i) (by omega)]; exact t5 i hi, fun k hk => by rw [eB 494 (by decide)]; exact t6 k hk⟩
  · rw [x7.1 15 (by decide) (by decide), u1 586 (by decide) (by unfold rdC; omega) (by unfold cyC; omega) (by decide), eB 2 (by decide), u1 2 (by decide) (by unfold rdC; omega) (by unfold cyC; omega) (by decide)]
    exact hR.2.2.2.1.1
  · rw [x7.1 16 (by decide) (by decide), u1 586 (by decide) (by unfold rdC; omega) (by unfold cyC; omega) (by decide), eB 2 (by decide), u1 2 (by decide) (by unfold rdC; omega) (by unfold cyC; omega) (by decide)]
    exact hR.2.2.2.1.2
