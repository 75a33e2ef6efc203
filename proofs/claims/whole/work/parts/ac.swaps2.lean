set_option maxRecDepth 100000
/-! UNDO, IMAGE, RESTORE, BOOK -/
section SN
variable {l : Launch} {g : mG} {d : Nat} {m A : Mm}
theorem sw_n {m1 C : Mm} (hm : cl m = A) (hC : ∀ a, 586 ≤ a → C a = cl m1 a) {N K : Nat} (hN : 604 ≤ N ∧ N + 3 ≤ 695 ∨ 707 ≤ N) (hK : 604 ≤ K ∧ K + 3 ≤ 695 ∨ 707 ≤ K) (h : ncp m m1 N K) : ncp (exB' C A) C N K := by
  intro A' R hA hn
  have h1 : NtR A' R m N := cg_NtR rfl rfl rfl hA.2.2.1.2 hA.2.2.2.2 (eq37_refl _) (fun a x y => (sw_B hm (by omega) (by omega)).symm) hn
  exact cg_NtR rfl rfl rfl hA.2.2.1.2 hA.2.2.2.2 (eq37_refl _) (fun a x y => sw_C hC (by omega) (by omega)) (h A' R hA h1)
theorem ce1_lt {j : Nat} (hj : j < 630) : ce1 j < 586 := by
  have := ce_in hj
  omega
theorem p_undo (hR : Rl A) (hm : cl m = A) (hd : 60 ≤ d) : pK l g d k_X11_undo k_X12_undo [.ref 586] [.ref 0] m := by
  obtain ⟨hw, h16, h25, -⟩ := hR.2.1
  generalize hww : nWk A = w at hw h16 h25
  have e25 : m 625 2 = nI w := by rw [clF hm (a := 625) (by omega)]; exact h25
  refine ⟨_, x_undo e25 h16 (by omega), ?_⟩
  rintro r m1 ⟨q1, q2⟩
  by_cases z : w = 0
  · obtain ⟨rfl, rfl⟩ := q1 z
    refine mHi_mono (r_undo hm hw h16 (by omega)) (fun v m2 q => ?_)
    obtain ⟨rfl, hU⟩ := q.1 z
    exact ⟨rfl, by rw [hU.1]; exact hR⟩
  · obtain ⟨rfl, x1, x2, x3, x4⟩ := q2 z
    have lo := sw_lo hm (fun a ha => x1 a (by omega) (by omega))
    refine mHi_mono (r_undo (A := cl m1) rfl (w := w) (by rw [lo 0 (by decide)]; exact hw) h16 (by omega)) (fun v m2 q => ?_)
    obtain ⟨rfl, -, hU⟩ := q.2 z
    refine ⟨rfl, ?_⟩
    generalize cl m2 = C at hU
    have hC : ∀ a, 586 ≤ a → C a = cl m1 a := fun a ha => hU.1 a (by omega) (by omega)
    refine Rl_undo (B := exB' C A) hR hww z ?_ (fun a a1 a2 => sw_k hm hC a (x1 a a1 a2)) ?_ ?_ (sw_n hm hC (by omega) (by omega) x4)
    · obtain ⟨u1, u2, u3⟩ := hU
      refine ⟨fun a a1 a2 => sw_f lo (P := fun a => a ≠ 0 ∧ a ≠ 494) (fun a q => u1 a q.1 q.2) a ⟨a1, a2⟩, ?_, ?_⟩
      · rw [xb_lo (by decide), ← lo (496 + w) (by omega)]; exact u2
      · rw [xb_lo (by decide), u3, lo 0 (by decide)]
    · rw [sw_C hC (a := 586) (by decide) (by decide), sw_B hm (by decide) (by decide)]; exact x2
    · rw [sw_C hC (a := 625) (by decide) (by decide)]; exact x3
theorem p_image (hR : Rl A) (hm : cl m = A) (hd : 60 ≤ d) : pK l g d k_X11_image k_X12_image [.ref 586] [.ref 0] m := by
  obtain ⟨hw, h16, h25, -⟩ := hR.2.1
  obtain ⟨i3, i4, i5, -⟩ := hR.2.2.1
  generalize hww : nWk A = w at hw h16 h25
  generalize hii : nI3 A = i at i3 i4 i5
  have e25 : m 625 2 = nI w := by rw [clF hm (a := 625) (by omega)]; exact h25
  have e13 : m 586 13 = nI i := by rw [clF hm (a := 586) (by omega)]; exact i5
  refine ⟨_, x_image e13 i3 e25 h16 (by omega), ?_⟩
  rintro r m1 ⟨q1, q2⟩
  by_cases z : i = 3
  · obtain ⟨rfl, rfl⟩ := q1 z
    refine mHi_mono (r_image hm i4 i3 (by omega)) (fun v m2 q => ?_)
    obtain ⟨rfl, hU⟩ := q.1 z
    exact ⟨rfl, by rw [hU.1]; exact hR⟩
  · obtain ⟨rfl, x1, x2, x3, x4, x5⟩ := q2 (by omega)
    have lo := sw_lo hm (fun a ha => x1 a (by omega) (by omega))
    refine mHi_mono (r_image (A := cl m1) rfl (k := i) (by rw [lo 0 (by decide)]; exact i4) i3 (by omega)) (fun v m2 q => ?_)
    obtain ⟨rfl, -, hU⟩ := q.2 (by omega)
    refine ⟨rfl, ?_⟩
    generalize cl m2 = C at hU
    have hC : ∀ a, 586 ≤ a → C a = cl m1 a := fun a ha => hU.1 a (by omega) (by omega)
    refine Rl_image (B := exB' C A) hR hii (by omega) hww ?_ (fun a a1 a2 => sw_k hm hC a (x1 a a1 a2)) ?_ ?_ (sw_n hm hC (by omega) (by omega) x4) (fun j hj => sw_n hm hC (by omega) (by omega) (x5 j hj))
    · obtain ⟨u1, u2, u3, u4⟩ := hU
      refine ⟨fun a a1 a2 => sw_f lo (P := fun a => a ≠ 0 ∧ a ≠ 514 + i) (fun a q => u1 a q.1 q.2) a ⟨a1, a2⟩, fun j j1 j2 => ?_, ?_, fun j hj => ?_⟩
      · rw [xb_lo (by decide), u2 j j1 j2, lo 0 (by decide)]
      · rw [xb_lo (by decide)]; exact u3
      · rw [xb_lo (by omega), u4 j hj]
        unfold src
        rw [lo _ (by have := ce1_lt hj; omega)]
    · rw [sw_C hC (a := 586) (by decide) (by decide), sw_B hm (by decide) (by decide)]; exact x2
    · rw [sw_C hC (a := 707 + 70 * i) (by omega) (by omega)]; exact x3
theorem p_restore (hR : Rl A) (hm : cl m = A) (hd : 60 ≤ d) : pK l g d k_X11_restore k_X12_restore [.ref 586] [.ref 0] m := by
  obtain ⟨i3, i4, i5, i6⟩ := hR.2.2.1
  generalize hii : nI3 A = i at i3 i4 i5 i6
  have e13 : m 586 13 = nI i := by rw [clF hm (a := 586) (by omega)]; exact i5
  obtain ⟨w, hw, h16, hww⟩ : ∃ w, (i ≠ 0 → m (637 + 70 * i) 2 = nI w) ∧ w ≤ 16 ∧ (i ≠ 0 → (A (513 + i) 0).toNatClampNeg = w) := by
    by_cases z : i = 0
    · exact ⟨0, fun y => absurd z y, by omega, fun y => absurd z y⟩
    · obtain ⟨a1, a2, a3, -⟩ := i6 (i - 1) (by omega)
      rw [show 514 + (i - 1) = 513 + i by omega, show 707 + 70 * (i - 1) = 637 + 70 * i by omega] at *
      exact ⟨(A (513 + i) 0).toNatClampNeg, fun _ => by rw [clF hm (a := 637 + 70 * i) (by omega)]; exact a3, a2, fun _ => rfl⟩
  refine ⟨_, x_restore e13 i3 hw h16 (by omega), ?_⟩
  rintro r m1 ⟨q1, q2⟩
  by_cases z : i = 0
  · obtain ⟨rfl, rfl⟩ := q1 z
    refine mHi_mono (r_restore hm i4 i3 (by omega)) (fun v m2 q => ?_)
    obtain ⟨rfl, hU⟩ := q.1 z
    exact ⟨rfl, by rw [hU.1]; exact hR⟩
  · obtain ⟨rfl, x1, x2, x3, x4, x5⟩ := q2 z
    have lo := sw_lo hm (fun a ha => x1 a (by omega) (by omega))
    refine mHi_mono (r_restore (A := cl m1) rfl (k := i) (by rw [lo 0 (by decide)]; exact i4) i3 (by omega)) (fun v m2 q => ?_)
    obtain ⟨rfl, -, hU⟩ := q.2 z
    refine ⟨rfl, ?_⟩
    generalize cl m2 = C at hU
    have hC : ∀ a, 586 ≤ a → C a = cl m1 a := fun a ha => hU.1 a (by omega) (by omega) (by omega)
    refine Rl_restore (B := exB' C A) hR hii z (hww z) ?_ (fun a a1 a2 => sw_k hm hC a (x1 a a1 a2)) ?_ ?_ (sw_n hm hC (by omega) (by omega) x4) (fun j hj => sw_n hm hC (by omega) (by omega) (x5 j hj))
    · obtain ⟨u1, u2, u3, u4, u5⟩ := hU
      refine ⟨fun a a1 a2 a3 => sw_f lo (P := fun a => a ≠ 0 ∧ a ≠ 494 ∧ (a < 497 ∨ 512 < a)) (fun a q => u1 a q.1 q.2.1 q.2.2) a ⟨a1, a2, a3⟩, fun j j1 j2 j3 j4 => ?_, ?_, ?_, fun j hj => ?_⟩
      · rw [xb_lo (by decide), u2 j j1 j2 j3 j4, lo 0 (by decide)]
      · rw [xb_lo (by decide)]; exact u3
      · rw [xb_lo (by decide)]; exact u4
      · have e : src (exB' C A) j = src C j := by unfold src; rw [xb_lo (by have := ce1_lt hj; omega)]
        rw [e, u5 j hj, lo (513 + i) (by omega)]
    · rw [sw_C hC (a := 586) (by decide) (by decide), sw_B hm (by decide) (by decide)]; exact x2
    · rw [sw_C hC (a := 625) (by decide) (by decide)]; exact x3
theorem sw_t {C A A1 : Mm} (lo : A1 0 = A 0) {v : Int32} {Q : Nat → Prop} (h : txL A1 C v Q) : txL A (exB' C A) v Q := by
  obtain ⟨h1, h2, h3⟩ := h
  refine ⟨fun i a1 a2 a3 a4 a5 a6 a7 a8 a9 => ?_, ?_, ?_⟩
  · rw [xb_lo (by decide), h1 i a1 a2 a3 a4 a5 a6 a7 a8 a9, lo]
  · rw [xb_lo (by decide)]; exact h2
  · rw [xb_lo (by decide)]; exact h3
theorem sw_XB {m1 C : Mm} (hm : cl m = A) (hC : ∀ a, 586 ≤ a → C a = cl m1 a) {v : Int32} {b : BS} (h : XB m m1 v b) : XB (exB' C A) C v b := by
  have c7 : C 587 = m1 587 := sw_C hC (by decide) (by decide)
  have c17 : C 617 = m1 617 := sw_C hC (by decide) (by decide)
  have c18 : C 618 = m1 618 := sw_C hC (by decide) (by decide)
  unfold XB
  rw [c7, c17, c18]
  exact ⟨h.1, fun z => ⟨(h.2.1 z).1, (h.2.1 z).2.1, fun a a1 a2 a3 => sw_k hm hC a ((h.2.1 z).2.2 a a1 a2 a3)⟩, fun z => ⟨(h.2.2 z).1, (h.2.2 z).2.1, fun a a1 a2 => sw_k hm hC a ((h.2.2 z).2.2.1 a a1 a2), (h.2.2 z).2.2.2⟩⟩
theorem p_book (hR : Rl A) (hm : cl m = A) (hd : 60 ≤ d) (p0 : Int32) : pPr l g d k_L_book k_X12_book [.ref 586, .int p0, .ref 585] [.ref 0, .int p0] m := by
  obtain ⟨s, es, h6, hs, hs', hT, hne, -⟩ := Rl_tp hR hm
  have hN9 := hR.1.1.1.1.2
  have h59 : m 590 0 = nI (nS A) := by rw [clF hm (a := 590) (by omega)]; exact hR.1.2.2.2.2.1.1.1
  refine ⟨_, h_book p0 (x_book hs' h6 hN9 h59 hne (by omega) p0) (fun x m2 q => q.2.1) (by omega), ?_⟩
  rintro r m1 o1 (⟨rfl, v, ⟨k, rfl, h60, hk, hX⟩, rfl⟩ | ⟨rfl, hn, -, rfl⟩)
  · rw [bkR_cg (fun i hi => hT i (by omega))] at hX
    have lo := sw_lo hm (fun a ha => by
      by_cases z : (bkR (A 1) k (nS A)).1.2.1 = 0
      · exact (hX.2.2 z).2.2.1 a (by omega) (by omega)
      · exact (hX.2.1 z).2.2 a (by omega) (by omega) (by omega))
    have hS := nMSP (C := cl m1) (A := A) (lo 4 (by decide))
    have hCt : CtB (cl m1) := by
      have := hR.1.1.1
      unfold CtB nL at this ⊢
      rw [hS.1, hS.2.1, hS.2.2, lo 4 (by decide)]
      exact this
    refine mHi_mono (r_book (A := cl m1) hCt rfl (s := s) (by rw [lo 0 (by decide)]; exact hs) h6 (by omega) (nI k)) (fun x m2 q => ?_)
    obtain ⟨q1, q2, q3⟩ := q.2 k rfl h60 hk
    rw [lo 1 (by decide), hS.2.2] at q2 q3
    refine ⟨q1, fun _ => ?_, ?_⟩
    · by_cases z : (bkR (A 1) k (nS A)).1.2.1 = 0
      · rw [(q3 z).1, (hX.2.2 z).1]
      · rw [(q2 z).1, (hX.2.1 z).1]
    · by_cases z : (bkR (A 1) k (nS A)).1.2.1 = 0
      · have hU := (q3 z).2
        generalize cl m2 = C at hU
        have hC : ∀ a, 586 ≤ a → C a = cl m1 a := fun a ha => hU.1 a (by omega) (by omega)
        refine Rl_book1 (B := exB' C A) hR z (bkR_ok hN9) ?_ (sw_XB hm hC hX)
        obtain ⟨u1, u2, u3, u4⟩ := hU
        refine ⟨fun a a1 a2 => sw_f lo (P := fun a => a ≠ 0 ∧ (a < 392 ∨ 410 < a)) (fun a q => u1 a q.1 q.2) a ⟨a1, a2⟩, sw_t (lo 0 (by decide)) u2, ?_, fun t ht => ?_⟩
        · rw [xb_lo (by decide)]; exact u3
        · have h9 : (bkR (A 1) k (nS A)).2.1 ≤ 9 := Nat.le_trans (bkR_ok (T := A 1) (n := k) hN9).2.2.2 hN9
          rw [xb_lo (by omega)]; exact u4 t ht
      · have hU := (q2 z).2
        generalize cl m2 = C at hU
        have hC : ∀ a, 586 ≤ a → C a = cl m1 a := fun a ha => hU.1 a (by omega) (by omega)
        refine Rl_book0 (B := exB' C A) hR z ?_ (sw_XB hm hC hX)
        exact ⟨fun a a1 a2 => sw_f lo (P := fun a => a ≠ 0 ∧ (a < 402 ∨ 410 < a)) (fun a q => hU.1 a q.1 q.2) a ⟨a1, a2⟩, sw_t (lo 0 (by decide)) hU.2⟩
  · have e := sw_bad hm
    have l0 : cl (mset m 586 16 (m 586 16 + 1)) 0 = A 0 := by rw [e]; exact cN1_lo A 1 (by decide)
    refine mHi_mono (r_book (A := cl (mset m 586 16 (m 586 16 + 1))) (by rw [e]; exact (Qr_cN1 hR 1).1.1) rfl (s := s) (by rw [l0]; exact hs) h6 (by omega) p0) (fun x m2 q => ?_)
    obtain ⟨q1, q2⟩ := q.1 hn
    refine ⟨q1, fun y => absurd y (by decide), ?_⟩
    rw [q2, e, cN1_lo A 1 (show (2 : Nat) ≠ 586 by decide)]
    exact Rl_cnt hR (by decide)
end SN
