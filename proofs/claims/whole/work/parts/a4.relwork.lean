set_option maxRecDepth 100000
/-! THE RELATION AFTER A WORK -/
theorem Rl_work0 {A B C : Mm} (hR : Rl A) {v : Int32} (hU : Wk0 A v B) (x1 : C 587 1 = 0) (x3 : C 587 3 = v) (x4 : ∀ a, a ≠ 587 → a < 621 ∨ 624 < a → C a = B a) : Rl C := by
  obtain ⟨u1, u2, u3, u4⟩ := hU
  have eC : ∀ a, a ≠ 0 → a < 414 ∨ 493 < a → a ≠ 587 → a < 621 ∨ 624 < a → C a = A a := fun a h1 h2 h3 h4 => (x4 a h3 h4).trans (u1 a h1 h2)
  have e0 : ∀ i, C 0 i = B 0 i := fun i => by rw [x4 0 (by decide) (by decide)]
  have f0 : ∀ i, 9 ≤ i → i ≠ 30 → C 0 i = A 0 i := fun i hi h30 => (e0 i).trans (u2 i (by omega) (by omega) (by omega) (by omega) (by omega) (by omega) (by omega) (by omega) h30)
  have hS : sim A C := ⟨fun a ha => eC a (by unfold cwA at ha; omega) (by unfold cwA at ha; omega) (by unfold cwA at ha; omega) (by unfold cwA at ha; omega), f0 21 (by decide) (by decide)⟩
  have hbk : ∀ a, 392 ≤ a → a ≤ 400 → C a = A a := fun a h1 h2 => eC a (by omega) (by omega) (by omega) (by omega)
  obtain ⟨q1, q2, q3, q4, q5, q6, q7, q8, q9⟩ := hR.1
  exact Rl_txt hR (eC 4 (by decide) (by decide) (by decide) (by decide)) (fun a h1 h2 _ => eC a (by omega) (by omega) (by omega) (by omega)) (fun a h1 h2 => eC a (by omega) (by omega) (by omega) (by omega)) (fun a h1 => eC a (by omega) (by omega) (by omega) (by omega)) (fun i hi => f0 i (by omega) (by omega)) (eC 586 (by decide) (by decide) (by decide) (by decide)) (eC 2 (by decide) (by decide) (by decide) (by decide)) (cg_Cty hS q1) (sim_LwOk hS q2) (cg_BkOk (f0 35 (by decide) (by decide)) hbk (sim_nS hS) q3) (cg_CtR hS q1.1 (fun a h1 h2 => eC a (by omega) (by omega) (by omega) (by omega)) q5) (cg_LwR hS q2 (fun a h1 h2 => eC a (by omega) (by omega) (by omega) (by omega)) q6) (cg_BkR (f0 35 (by decide) (by decide)) hbk q3 (fun a h1 h2 => eC a (by omega) (by omega) (by omega) (by omega)) q7) (by rw [e0]; exact u3) x1 (by rw [x3, e0, u4])
theorem Rl_work1 {A B C : Mm} (hR : Rl A) {w : Nat} (hw : nWk A = w) (h16 : w ≠ 16) {s' : QW} {e' : EX} (hI : exI A e') (hb : s'.1.2.1 = 0) (hU : Wk1 A w e' B) {v : Int32} (hX : XWk A B C v w s' e') : Rl C := by
  obtain ⟨u1, ⟨u2, u3, u4⟩, u5, u6, u7, u8⟩ := hU
  obtain ⟨x1, -, x2⟩ := hX
  obtain ⟨-, x3, x4, x5, x6, x7, x8, x9⟩ := (x2 h16).2 hb
  obtain ⟨⟨q1, q2, q3, q4, q5, q6, q7, q8, q9⟩, r2, r3, r4, r5, r6⟩ := hR
  rw [hw] at r2
  have hH := r2.2
  have hw16 : w ≤ 16 := hH.1
  have eB : ∀ a, a < 586 → C a = B a := fun a ha => x4 a (by omega) (by omega) (by omega) (by omega) (by omega) (by omega)
  have eC : ∀ a, a ≠ 0 → a < 414 ∨ 493 < a → a ≠ 494 → a ≠ 497 + w → a ≠ 586 → a ≠ 587 → a ≠ 602 → a ≠ 603 → a < 621 ∨ 629 < a → a < 631 + 4 * w ∨ 634 + 4 * w < a → C a = A a := fun a h1 h2 h3 h4 h5 h6 h7 h8 h9 h10 => (x4 a h5 h6 h7 h8 h9 h10).trans (u1 a h1 h2 h3 h4)
  have e0 : ∀ i, C 0 i = B 0 i := fun i => by rw [eB 0 (by decide)]
  have f0 : ∀ i, 9 ≤ i → i ≠ 30 → i ≠ 36 → i ≠ 37 → i ≠ 41 → i ≠ 42 → C 0 i = A 0 i := fun i hi h1 h2 h3 h4 h5 => (e0 i).trans (u2 i (by omega) (by omega) (by omega) (by omega) (by omega) (by omega) (by omega) (by omega) (fun q => by omega))
  have hS : sim A C := ⟨fun a ha => eC a (by unfold cwA at ha; omega) (by unfold cwA at ha; omega) (by unfold cwA at ha; omega) (by unfold cwA at ha; omega) (by unfold cwA at ha; omega) (by unfold cwA at ha; omega) (by unfold cwA at ha; omega) (by unfold cwA at ha; omega) (by unfold cwA at ha; omega) (by unfold cwA at ha; omega), f0 21 (by decide) (by decide) (by decide) (by decide) (by decide) (by decide)⟩
  have hbk : ∀ a, 392 ≤ a → a ≤ 400 → C a = A a := fun a h1 h2 => eC a (by omega) (by omega) (by omega) (by omega) (by omega) (by omega) (by omega) (by omega) (by omega) (by omega)
  have h35 := f0 35 (by decide) (by decide) (by decide) (by decide) (by decide) (by decide)
  have hC4 := nMSP (eC 4 (by omega) (by omega) (by omega) (by omega) (by omega) (by omega) (by omega) (by omega) (by omega) (by omega))
  have hM6 := q1.1.2.2.1.2
  have hP8 := q1.1.2.2.2.2
  have c494 : C 494 = e'.1 := by rw [eB 494 (by decide)]; exact u7
  have c36 : C 0 36 = nI (w + 1) := by rw [e0]; exact u5
  have hNt : Nt C (C 494) := by rw [c494]; exact cg_Nt hC4.1 hC4.2.2 hM6 (eq37_refl _) hI.1
  have hNR : NtR C (C 494) C 626 := by rw [c494]; exact cg_NtR hC4.1 hC4.2.1 hC4.2.2 hM6 hP8 (eq37_refl _) (fun _ _ _ => rfl) x7
  have enK : nWk C = w + 1 := by unfold nWk; rw [c36, nI_cl (by omega)]
  have en3 : nI3 C = nI3 A := by unfold nI3; rw [f0 38 (by decide) (by decide) (by decide) (by decide) (by decide) (by decide)]
  have enT : nTp C = 0 := by unfold nTp; rw [e0, u3]; rfl
  have h586 : ∀ i, i ≠ 14 → C 586 i = A 586 i := fun i hi => by rw [x8 i hi, u1 586 (by decide) (by omega) (by decide) (by omega)]
  refine ⟨⟨cg_Cty hS q1, sim_LwOk hS q2, cg_BkOk h35 hbk (sim_nS hS) q3, hNt, cg_CtR hS q1.1 (fun a h1 h2 => eC a (by omega) (by omega) (by omega) (by omega) (by omega) (by omega) (by omega) (by omega) (by omega) (by omega)) q5, cg_LwR hS q2 (fun a h1 h2 => eC a (by omega) (by omega) (by omega) (by omega) (by omega) (by omega) (by omega) (by omega) (by omega) (by omega)) q6, cg_BkR h35 hbk q3 (fun a h1 h2 => eC a (by omega) (by omega) (by omega) (by omega) (by omega) (by omega) (by omega) (by omega) (by omega) (by omega)) q7, hNR, by rw [x9, e0, u6]⟩, ?_, ?_, ?_, ?_, ?_⟩
  · rw [enK]
    refine ⟨c36, by omega, x5, ⟨hNR, hNt⟩, fun i hi => ?_⟩
    dsimp only
    have ei : 625 + 6 + 4 * i = 631 + 4 * i := by omega
    rw [ei]
    by_cases e : i = w
    · subst e
      have h8 : eq37 (A 494) (C (497 + i)) := by rw [eB (497 + i) (by omega)]; exact u8
      exact ⟨cg_NtR hC4.1 hC4.2.1 hC4.2.2 hM6 hP8 h8 (fun _ _ _ => rfl) x6, cg_Nt hC4.1 hC4.2.2 hM6 h8 q4⟩
    · have q := hH.2.2.2 i (by omega)
      dsimp only at q
      rw [ei] at q
      rw [eC (497 + i) (by omega) (by omega) (by omega) (by omega) (by omega) (by omega) (by omega) (by omega) (by omega) (by omega)]
      exact ⟨cg_NtR hC4.1 hC4.2.1 hC4.2.2 hM6 hP8 (eq37_refl _) (fun a h1 h2 => eC a (by omega) (by omega) (by omega) (by omega) (by omega) (by omega) (by omega) (by omega) (by omega) (by omega)) q.1, cg_Nt hC4.1 hC4.2.2 hM6 (eq37_refl _) q.2⟩
  · rw [en3, f0 38 (by decide) (by decide) (by decide) (by decide) (by decide) (by decide), h586 13 (by decide)]
    refine ⟨r3.1, r3.2.1, r3.2.2.1, fun i hi => ?_⟩
    have h3 := r3.1
    have q := r3.2.2.2 i hi
    rw [eC (514 + i) (by omega) (by omega) (by omega) (by omega) (by omega) (by omega) (by omega) (by omega) (by omega) (by omega)]
    exact ⟨q.1, cg_HsR hC4.1 hC4.2.1 hC4.2.2 hM6 hP8 (eq37_refl _) (fun _ _ => eq37_refl _) (fun a h1 h2 => eC a (by omega) (by omega) (by omega) (by omega) (by omega) (by omega) (by omega) (by omega) (by omega) (by omega)) q.2⟩
  · rw [h586 15 (by decide), h586 16 (by decide), eC 2 (by omega) (by omega) (by omega) (by omega) (by omega) (by omega) (by omega) (by omega) (by omega) (by omega)]
    exact r4
  · rw [enT]
    exact ⟨by omega, by rw [e0]; exact u3, x1, fun i hi => absurd hi (Nat.not_lt_zero _)⟩
  · rw [x3, e0, u4]
