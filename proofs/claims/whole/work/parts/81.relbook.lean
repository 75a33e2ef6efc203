set_option maxRecDepth 100000
/-! THE RELATION AFTER A TEXT THAT CHANGES NO NIGHT -/
theorem Rl_txt {A C : Mm} (hR : Rl A) (c4 : C 4 = A 4) (hi : ∀ a, 494 ≤ a → a ≤ 516 → a ≠ 495 → C a = A a) (hh : ∀ a, 625 ≤ a → a ≤ 694 → C a = A a) (hj : ∀ a, 707 ≤ a → C a = A a) (c0 : ∀ i, i = 36 ∨ i = 37 ∨ i = 38 → C 0 i = A 0 i) (c6 : C 586 = A 586) (c2 : C 2 = A 2)
    (b1 : Cty C) (b2 : LwOk C) (b3 : BkOk C) (b5 : CtR C C 590) (b6 : LwR C C 600) (b7 : BkR C C 617) (t1 : C 0 1 = 0) (t2 : C 587 1 = 0) (t3 : C 587 3 = C 0 3) : Rl C := by
  obtain ⟨⟨q1, q2, q3, q4, q5, q6, q7, q8, q9⟩, r2, r3, r4, r5, r6⟩ := hR
  have hC4 := nMSP c4
  have hM6 := q1.1.2.2.1.2
  have hP8 := q1.1.2.2.2.2
  have h494 := hi 494 (by decide) (by decide) (by decide)
  refine ⟨⟨b1, b2, b3, by rw [h494]; exact cg_Nt hC4.1 hC4.2.2 hM6 (eq37_refl _) q4, b5, b6, b7, by rw [h494]; exact cg_NtR hC4.1 hC4.2.1 hC4.2.2 hM6 hP8 (eq37_refl _) (fun a h1 h2 => hh a (by omega) (by omega)) q8, by rw [c6, c0 37 (by omega)]; exact q9⟩, ?_, ?_, ?_, ?_, t3⟩
  · have e : nWk C = nWk A := by unfold nWk; rw [c0 36 (by omega)]
    rw [e, c0 36 (by omega), h494]
    refine ⟨r2.1, cg_HsR hC4.1 hC4.2.1 hC4.2.2 hM6 hP8 (eq37_refl _) (fun i hi2 => ?_) (fun a h1 h2 => hh a (by omega) (by omega)) r2.2⟩
    have := r2.2.1
    rw [hi (497 + i) (by omega) (by omega) (by omega)]
    exact eq37_refl _
  · have e : nI3 C = nI3 A := by unfold nI3; rw [c0 38 (by omega)]
    rw [e, c0 38 (by omega), c6]
    refine ⟨r3.1, r3.2.1, r3.2.2.1, fun i hi2 => ?_⟩
    have h3 := r3.1
    have q := r3.2.2.2 i hi2
    rw [hi (514 + i) (by omega) (by omega) (by omega)]
    exact ⟨q.1, cg_HsR hC4.1 hC4.2.1 hC4.2.2 hM6 hP8 (eq37_refl _) (fun _ _ => eq37_refl _) (fun a h1 h2 => hj a (by omega)) q.2⟩
  · rw [c6, c2]; exact r4
  · have e : nTp C = 0 := by unfold nTp; rw [t1]; rfl
    rw [e]
    exact ⟨by omega, t1, t2, fun i hi => absurd hi (by omega)⟩
theorem Rl_book0 {A B C : Mm} (hR : Rl A) {b : BS} (hb : b.1.2.1 ≠ 0) (hU : Bk0 A b B) {v : Int32} (hX : XB B C v b) : Rl C := by
  obtain ⟨u1, u2, u3, u4⟩ := hU
  obtain ⟨x1, x2, -⟩ := hX
  obtain ⟨-, x3, x4⟩ := x2 hb
  have eC : ∀ a, a ≠ 0 → a < 402 ∨ 410 < a → a ≠ 587 → a ≠ 619 → a ≠ 620 → C a = A a := fun a h1 h2 h3 h4 h5 => (x4 a h3 h4 h5).trans (u1 a h1 h2)
  have e0 : ∀ i, C 0 i = B 0 i := fun i => by rw [x4 0 (by decide) (by decide) (by decide)]
  have f0 : ∀ i, 9 ≤ i → C 0 i = A 0 i := fun i hi => (e0 i).trans (u2 i (by omega) (by omega) (by omega) (by omega) (by omega) (by omega) (by omega) (by omega) (fun q => q))
  have hS : sim A C := ⟨fun a ha => eC a (by unfold cwA at ha; omega) (by unfold cwA at ha; omega) (by unfold cwA at ha; omega) (by unfold cwA at ha; omega) (by unfold cwA at ha; omega), f0 21 (by decide)⟩
  have hbk : ∀ a, 392 ≤ a → a ≤ 400 → C a = A a := fun a h1 h2 => eC a (by omega) (by omega) (by omega) (by omega) (by omega)
  obtain ⟨q1, q2, q3, q4, q5, q6, q7, q8, q9⟩ := hR.1
  exact Rl_txt hR (eC 4 (by decide) (by decide) (by decide) (by decide) (by decide)) (fun a h1 h2 _ => eC a (by omega) (by omega) (by omega) (by omega) (by omega)) (fun a h1 h2 => eC a (by omega) (by omega) (by omega) (by omega) (by omega)) (fun a h1 => eC a (by omega) (by omega) (by omega) (by omega) (by omega)) (fun i hi => f0 i (by omega)) (eC 586 (by decide) (by decide) (by decide) (by decide) (by decide)) (eC 2 (by decide) (by decide) (by decide) (by decide) (by decide)) (cg_Cty hS q1) (sim_LwOk hS q2) (cg_BkOk (f0 35 (by decide)) hbk (sim_nS hS) q3) (cg_CtR hS q1.1 (fun a h1 h2 => eC a (by omega) (by omega) (by omega) (by omega) (by omega)) q5) (cg_LwR hS q2 (fun a h1 h2 => eC a (by omega) (by omega) (by omega) (by omega) (by omega)) q6) (cg_BkR (f0 35 (by decide)) hbk q3 (fun a h1 h2 => eC a (by omega) (by omega) (by omega) (by omega) (by omega)) q7) (by rw [e0]; exact u3) x1 (by rw [x3, e0, u4])
theorem Rl_book1 {A B C : Mm} (hR : Rl A) {n : Nat} {b : BS} (hb : b.1.2.1 = 0) (hok : bOk n (nS A) b) (hU : Bk1 A b B) {v : Int32} (hX : XB B C v b) : Rl C := by
  obtain ⟨u1, ⟨u2, u3, u4⟩, u5, u6⟩ := hU
  obtain ⟨x1, -, x2⟩ := hX
  obtain ⟨-, x3, x4, x5, x6⟩ := x2 hb
  have eC : ∀ a, a ≠ 0 → a < 392 ∨ 410 < a → a ≠ 587 → a < 617 ∨ 620 < a → C a = A a := fun a h1 h2 h3 h4 => (x4 a h3 h4).trans (u1 a h1 h2)
  have e0 : ∀ i, C 0 i = B 0 i := fun i => by rw [x4 0 (by decide) (by decide)]
  have f0 : ∀ i, 9 ≤ i → i ≠ 35 → C 0 i = A 0 i := fun i hi h35 => (e0 i).trans (u2 i (by omega) (by omega) (by omega) (by omega) (by omega) (by omega) (by omega) (by omega) h35)
  have hS : sim A C := ⟨fun a ha => eC a (by unfold cwA at ha; omega) (by unfold cwA at ha; omega) (by unfold cwA at ha; omega) (by unfold cwA at ha; omega), f0 21 (by decide) (by decide)⟩
  obtain ⟨q1, q2, q3, q4, q5, q6, q7, q8, q9⟩ := hR.1
  have hk9 : b.2.1 ≤ 9 := Nat.le_trans hok.2.2.2 q1.1.1.2
  have e35 : C 0 35 = nI b.2.1 := by rw [e0]; exact u5
  have enB : nB C = b.2.1 := by unfold nB; rw [e35, nI_cl (by omega)]
  have hrow : ∀ t, t < b.2.1 → C (392 + t) 0 = b.2.2.1 t ∧ C (392 + t) 1 = b.2.2.2 t := fun t ht => by
    rw [x4 (392 + t) (by omega) (by omega)]; exact u6 t ht
  have hBk : BkOk C := by
    unfold BkOk
    rw [enB, sim_nS hS]
    refine ⟨e35, hk9, fun t ht => ?_, fun t u htu hu => ?_⟩
    · rw [(hrow t ht).1, (hrow t ht).2]; exact hok.2.1 t ht
    · rw [(hrow t (by omega)).1, (hrow u hu).1]; exact hok.2.2.1 t u htu hu
  have hBR : BkR C C 617 := by
    unfold BkR
    rw [enB, e35]
    refine ⟨x5, fun s hs => ⟨fun t ht e => ?_, fun hne => ?_⟩⟩
    · rw [(hrow t ht).1] at e
      rw [(hrow t ht).2]
      exact (x6 s hs).1 t ht e
    · exact (x6 s hs).2 (fun t ht e => hne t ht (by rw [(hrow t ht).1]; exact e))
  exact Rl_txt hR (eC 4 (by decide) (by decide) (by decide) (by decide)) (fun a h1 h2 _ => eC a (by omega) (by omega) (by omega) (by omega)) (fun a h1 h2 => eC a (by omega) (by omega) (by omega) (by omega)) (fun a h1 => eC a (by omega) (by omega) (by omega) (by omega)) (fun i hi => f0 i (by omega) (by omega)) (eC 586 (by decide) (by decide) (by decide) (by decide)) (eC 2 (by decide) (by decide) (by decide) (by decide)) (cg_Cty hS q1) (sim_LwOk hS q2) hBk (cg_CtR hS q1.1 (fun a h1 h2 => eC a (by omega) (by omega) (by omega) (by omega)) q5) (cg_LwR hS q2 (fun a h1 h2 => eC a (by omega) (by omega) (by omega) (by omega)) q6) hBR (by rw [e0]; exact u3) x1 (by rw [x3, e0, u4])
