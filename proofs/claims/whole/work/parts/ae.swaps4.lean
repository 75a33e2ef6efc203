set_option maxRecDepth 100000
/-! WORK -/
section SWK
variable {l : Launch} {g : mG} {d : Nat} {m A : Mm}
theorem sw_XW {m1 C : Mm} (hA : CtB A) (hm : cl m = A) (hC : ∀ a, 586 ≤ a → C a = cl m1 a) {v : Int32} {w : Nat} (h16 : w ≤ 16) {s' : QW} {e' : EX} (h : XWk A m m1 v w s' e') : XWk A (exB' C A) C v w s' e' := by
  have c6 : C 586 = m1 586 := sw_C hC (by decide) (by decide)
  have b6 : exB' C A 586 = m 586 := sw_B hm (by decide) (by decide)
  have c7 : C 587 = m1 587 := sw_C hC (by decide) (by decide)
  have c25 : C 625 = m1 625 := sw_C hC (by decide) (by decide)
  unfold XWk
  rw [c6, b6, c7, c25]
  refine ⟨h.1, fun z => ⟨(h.2.1 z).1, (h.2.1 z).2.1, fun a a1 => sw_k hm hC a ((h.2.1 z).2.2 a a1)⟩, fun z => ⟨fun f => ?_, fun f => ?_⟩⟩
  · obtain ⟨y1, y2, y3⟩ := (h.2.2 z).1 f
    exact ⟨y1, y2, fun a a1 a2 => sw_k hm hC a (y3 a a1 a2)⟩
  · obtain ⟨y1, y2, y3, y4, y5, y6, y7⟩ := (h.2.2 z).2 f
    refine ⟨y1, y2, fun a a1 a2 a3 a4 a5 a6 => sw_k hm hC a (y3 a a1 a2 a3 a4 a5 a6), y4, ?_, ?_, y7⟩
    · exact cg_NtR rfl rfl rfl hA.2.2.1.2 hA.2.2.2.2 (eq37_refl _) (fun a x y => sw_C hC (by omega) (by omega)) y5
    · exact cg_NtR rfl rfl rfl hA.2.2.1.2 hA.2.2.2.2 (eq37_refl _) (fun a x y => sw_C hC (by omega) (by omega)) y6
theorem sw_W0 {m1 C : Mm} (lo : ∀ a, a < 586 → cl m1 a = A a) {v : Int32} (hU : Wk0 (cl m1) v C) : Wk0 A v (exB' C A) := ⟨fun a a1 a2 => sw_f lo (P := fun a => a ≠ 0 ∧ (a < 414 ∨ 493 < a)) (fun a q => hU.1 a q.1 q.2) a ⟨a1, a2⟩, sw_t (lo 0 (by decide)) hU.2⟩
theorem wkS_row {T : Nat → Int32} {k M S : Nat} (hM : M ≤ 6) (hS : S ≤ 9) (hk : k ≤ 150) {s' : QW} (h : wkS T k M S s') (hf : s'.1.2.1 = 0) : s'.2.1 ≤ 75 ∧ ∀ i, i < s'.2.1 → okW M S 0 s'.2.1 s'.2.2 i := by
  have B := Wk_ok hM hS _ _ _ _ _ h (show skp T k 0 ≤ k from skp_in (Nat.zero_le _)) (by decide)
  obtain ⟨b1, b2, b3, b4, b5, b6⟩ := B.2 hf
  have b3 : 2 * s'.2.1 + skp T k 0 ≤ s'.1.1 + 2 * 0 := b3
  refine ⟨by have := B.1; omega, fun i hi => b6 i (Nat.zero_le _) hi⟩
theorem p_work (hR : Rl A) (hm : cl m = A) (hd : 60 ≤ d) (p0 : Int32) : pPr l g d k_L_work k_X12_work [.ref 586, .int p0, .ref 585] [.ref 0, .int p0] m := by
  obtain ⟨s, es, h6, hs, hs', hT, hne, hneA⟩ := Rl_tp hR hm
  obtain ⟨hw, h16, h25, -⟩ := hR.2.1
  generalize hww : nWk A = w at hw h16 h25
  have e25 : m 625 2 = nI w := by rw [clF hm (a := 625) (by omega)]; exact h25
  obtain ⟨⟨q1, q2, q3, q4, q5, q6, q7, q8, q9⟩, -⟩ := id hR
  have hSv : Sv A := ⟨q1.1, q2⟩
  have hM6 := q1.1.2.2.1.2
  have hP8 := q1.1.2.2.2.2
  have hS9 := q1.1.1.2
  have hI0 : ∀ w0, exI A (A 494, w0, 0, 0, 0) := fun w0 => ⟨q4, Nat.zero_le _, Nat.le_refl _⟩
  obtain ⟨s', e', hL⟩ : ∃ (s' : QW) (e' : EX), ∀ k, p0 = nI k → k ≤ 150 → k ≤ s → w ≠ 16 → wkS (m 588) k (nM A) (nS A) s' ∧ (s'.1.2.1 = 0 → Ex A s'.2.2 fuE 0 0 s'.2.1 (A 494, 0, 0, 0, 0) e') := by
    by_cases z : isTx s 150 p0
    · obtain ⟨k0, e0, h0, _⟩ := z
      obtain ⟨s', q⟩ := wkS_tot (m 588) k0 hM6 hS9
      by_cases f : s'.1.2.1 = 0
      · obtain ⟨c75, hrow⟩ := wkS_row hM6 hS9 h0 q f
        obtain ⟨e', hE⟩ := Ex_tot q1.1 c75 hrow fuE 0 0 s'.2.1 (A 494, 0, 0, 0, 0) (by decide) (hI0 0) (fun _ => ⟨Nat.le_refl _, fuE_lt c75⟩) (fun y => absurd y (by decide))
        exact ⟨s', e', fun k e h1 h2 _ => by rw [nI_one (s := s) (c := 150) (by decide) e e0 h1 h0]; exact ⟨q, fun _ => hE⟩⟩
      · exact ⟨s', (A 494, 0, 0, 0, 0), fun k e h1 h2 _ => by rw [nI_one (s := s) (c := 150) (by decide) e e0 h1 h0]; exact ⟨q, fun y => absurd y f⟩⟩
    · exact ⟨((0, 0, 0), wk0), (A 494, 0, 0, 0, 0), fun k e h1 h2 => absurd ⟨k, e, h1, h2⟩ z⟩
  refine ⟨_, h_work p0 (x_work hSv q5 q6 (csim_of hm) (cg_NtR rfl rfl rfl hM6 hP8 (eq37_refl _) (fun a x y => clF hm (by omega)) q8) q4 hs' h6 e25 h16 (by omega) p0 hL) (fun x m2 q => q.2.1) (by omega), ?_⟩
  rintro r m1 o1 (⟨rfl, v, ⟨k, rfl, h150, hk, hX⟩, rfl⟩ | ⟨rfl, hn, -, rfl⟩)
  · have hb : bAt (m 588) k = bAt (A 1) k := bAt_eq (fun i hi => hT i (by omega))
    have hL := hL k rfl h150 hk
    have lo := sw_lo hm (fun a ha => by
      by_cases z : w = 16
      · exact (hX.2.1 z).2.2 a (by omega)
      · by_cases f : s'.1.2.1 = 0
        · exact ((hX.2.2 z).2 f).2.2.1 a (by omega) (by omega) (by omega) (by omega) (by omega) (by omega)
        · exact ((hX.2.2 z).1 f).2.2 a (by omega) (by omega))
    have hsim : sim A (cl m1) := ⟨fun a ha => lo a (by unfold cwA at ha; omega), by rw [lo 0 (by decide)]⟩
    have hN := nMSP (C := cl m1) (A := A) (lo 4 (by decide))
    have hNt : Nt (cl m1) (cl m1 494) := by rw [lo 494 (by decide)]; exact cg_Nt hN.1 hN.2.2 hM6 (eq37_refl _) q4
    refine mHi_mono (r_work (A := cl m1) (sim_Sv hsim hSv) hNt rfl (s := s) (w := w) (by rw [lo 0 (by decide)]; exact hs) h6 (fun i hi => by rw [lo 1 (by decide)]; exact hneA i hi) (by rw [lo 0 (by decide)]; exact hw) h16 (by omega) (nI k)) (fun x m2 q => ?_)
    obtain ⟨r1, r2, r3⟩ := q.2 k rfl h150 hk
    by_cases z : w = 16
    · obtain ⟨y1, hU⟩ := r2 z
      refine ⟨r1, fun _ => by rw [y1, (hX.2.1 z).1], ?_⟩
      generalize cl m2 = C at hU
      have hC : ∀ a, 586 ≤ a → C a = cl m1 a := fun a ha => hU.1 a (by omega) (by omega)
      have hX' := sw_XW q1.1 hm hC h16 hX
      exact Rl_work0 hR (sw_W0 lo hU) hX'.1 (hX'.2.1 z).2.1 (fun a a1 _ => (hX'.2.1 z).2.2 a a1)
    · obtain ⟨s2, hs2, r4, r5⟩ := r3 z
      rw [lo 1 (by decide), hN.1, hN.2.2] at hs2
      obtain ⟨hs1, hE1⟩ := hL z
      have hD := Wk_det _ _ _ _ _ _ (wkS_cg hb hs1) hs2
      by_cases f : s'.1.2.1 = 0
      · obtain rfl := hD.2 f
        obtain ⟨w0, e2, hE2, -, y1, hU⟩ := r5 f
        rw [lo 494 (by decide)] at hE2
        obtain ⟨c75, hrow⟩ := wkS_row hM6 hS9 h150 hs1 f
        have hE2 := Ex_cg hsim hSv hrow _ _ _ _ _ _ hE2 (fun _ => Nat.le_refl _) (fun y => absurd y (by decide))
        have hE1 := hE1 f
        have hQ := Ex_det _ _ _ _ _ _ _ _ (show eQ (A 494, 0, 0, 0, 0) (A 494, w0, 0, 0, 0) from ⟨rfl, rfl⟩) hE1 hE2
        have hI := (Ex_ok q1.1 hrow _ _ _ _ _ _ hE1 (hI0 0) (fun _ => Nat.le_refl _) (fun y => absurd y (by decide))).1
        refine ⟨r1, fun _ => by rw [y1, ((hX.2.2 z).2 f).1, hQ.2], ?_⟩
        generalize cl m2 = C at hU
        have hC : ∀ a, 586 ≤ a → C a = cl m1 a := fun a ha => hU.1 a (by omega) (by omega) (by omega) (by omega)
        refine Rl_work1 (B := exB' C A) hR hww z hI f ?_ (sw_XW q1.1 hm hC h16 hX)
        obtain ⟨u1, u2, u3, u4, u5, u6⟩ := hU
        refine ⟨fun a a1 a2 a3 a4 => sw_f lo (P := fun a => a ≠ 0 ∧ (a < 414 ∨ 493 < a) ∧ a ≠ 494 ∧ a ≠ 497 + w) (fun a q => u1 a q.1 q.2.1 q.2.2.1 q.2.2.2) a ⟨a1, a2, a3, a4⟩, sw_t (lo 0 (by decide)) u2, ?_, ?_, ?_, ?_⟩
        · rw [xb_lo (by decide)]; exact u3
        · rw [xb_lo (by decide), hQ.2]; exact u4
        · rw [xb_lo (by decide), hQ.1]; exact u5
        · rw [xb_lo (by omega), ← lo 494 (by decide)]; exact u6
      · have f2 : s2.1.2.1 ≠ 0 := by rw [← hD.1]; exact f
        obtain ⟨y1, hU⟩ := r4 f2
        rw [← hD.1] at y1 hU
        refine ⟨r1, fun _ => by rw [y1, ((hX.2.2 z).1 f).1], ?_⟩
        generalize cl m2 = C at hU
        have hC : ∀ a, 586 ≤ a → C a = cl m1 a := fun a ha => hU.1 a (by omega) (by omega)
        have hX' := sw_XW q1.1 hm hC h16 hX
        obtain ⟨-, x3, x4⟩ := (hX'.2.2 z).1 f
        exact Rl_work0 hR (sw_W0 lo hU) hX'.1 x3 x4
  · have e := sw_bad hm
    have hQ := Qr_cN1 hR 1
    have l0 : ∀ a, a ≠ 586 → cl (mset m 586 16 (m 586 16 + 1)) a = A a := fun a ha => by rw [e]; exact cN1_lo A 1 ha
    refine mHi_mono (r_work (A := cl (mset m 586 16 (m 586 16 + 1))) (by rw [e]; exact ⟨hQ.1.1, hQ.2.1⟩) (by rw [e]; exact hQ.2.2.2.1) rfl (s := s) (w := w) (by rw [l0 0 (by decide)]; exact hs) h6 (fun i hi => by rw [l0 1 (by decide)]; exact hneA i hi) (by rw [l0 0 (by decide)]; exact hw) h16 (by omega) p0) (fun x m2 q => ?_)
    obtain ⟨q1, q2⟩ := q.1 hn
    refine ⟨q1, fun y => absurd y (by decide), ?_⟩
    rw [q2, e, cN1_lo A 1 (show (2 : Nat) ≠ 586 by decide)]
    exact Rl_cnt hR (by decide)
end SWK
