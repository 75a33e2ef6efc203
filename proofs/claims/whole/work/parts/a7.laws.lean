set_option maxRecDepth 100000
/-! ONE CALL OF BOTH, a query: the pure part -/
section L7
variable {l : Launch} {g : mG} {d : Nat}
theorem r_thr (m : Mm) : mFi l g d k_X12_thrown [.ref 0] m (m 0 0) m := by
  refine nFi 0 rfl rfl rfl (by decide) rfl (fun htr o Φ hΦ => mGoOn (mOk (by decide)) rfl [] 400 ?_)
  show Φ (.inl (some (.int (m 0 0)))) m o ∧ 0 ≤ 0 ∧ 0 ≤ 0
  exact eR hΦ
end L7
/-- where q refuses, q' refuses alike -/
def sE (q q' : Oc) : Prop := (q.1 ≠ 0 → q' = q) ∧ q.2.1 < 2
theorem sE1 {C : Prop} {v v' : Int32} {j : Nat} (hj : j < 2 := by decide) : sE (ifp C (0, 0, v) (1, j, 0)) (ifp C (0, 0, v') (1, j, 0)) := by
  by_cases h : C
  · rw [ifp_t h, ifp_t h]; exact ⟨fun q => absurd rfl q, by show 0 < 2; decide⟩
  · rw [ifp_f h, ifp_f h]; exact ⟨fun _ => rfl, hj⟩
theorem sE2 {C D : Prop} {v v' : Int32} : sE (ifp C (ifp D (0, 0, v) (2, 1, 0)) (1, 0, 0)) (ifp C (ifp D (0, 0, v') (2, 1, 0)) (1, 0, 0)) := by
  by_cases h : C
  · rw [ifp_t h, ifp_t h]
    by_cases h2 : D
    · rw [ifp_t h2, ifp_t h2]; exact ⟨fun q => absurd rfl q, by show 0 < 2; decide⟩
    · rw [ifp_f h2, ifp_f h2]; exact ⟨fun _ => rfl, by show 1 < 2; decide⟩
  · rw [ifp_f h, ifp_f h]; exact ⟨fun _ => rfl, by show 0 < 2; decide⟩
theorem o1 {C : Prop} {v : Int32} {j : Nat} : (ifp C ((0, 0, v) : Oc) (1, j, 0)).1 = 0 ∨ ((ifp C ((0, 0, v) : Oc) (1, j, 0)).1 = 1 ∧ (ifp C ((0, 0, v) : Oc) (1, j, 0)).2.1 = j) := by
  by_cases h : C
  · rw [ifp_t h]; exact Or.inl rfl
  · rw [ifp_f h]; exact Or.inr ⟨rfl, rfl⟩
theorem o2 {C D : Prop} {v : Int32} : (ifp C (ifp D ((0, 0, v) : Oc) (2, 1, 0)) (1, 0, 0)).1 = 0 ∨ ((ifp C (ifp D ((0, 0, v) : Oc) (2, 1, 0)) (1, 0, 0)).1 = 1 ∧ (ifp C (ifp D ((0, 0, v) : Oc) (2, 1, 0)) (1, 0, 0)).2.1 = 0) ∨ ((ifp C (ifp D ((0, 0, v) : Oc) (2, 1, 0)) (1, 0, 0)).1 = 2 ∧ (ifp C (ifp D ((0, 0, v) : Oc) (2, 1, 0)) (1, 0, 0)).2.1 = 1) := by
  by_cases h : C
  · rw [ifp_t h]
    by_cases h2 : D
    · rw [ifp_t h2]; exact Or.inl rfl
    · rw [ifp_f h2]; exact Or.inr (Or.inr ⟨rfl, rfl⟩)
  · rw [ifp_f h]; exact Or.inr (Or.inl ⟨rfl, rfl⟩)
/-- A with the class's own count of refusals moved on -/
def cN1 (A : Mm) (j : Nat) : Mm := mset A 586 (15 + j) (A 586 (15 + j) + 1)
theorem Rl_586 {A C : Mm} (hR : Rl A) (h : ∀ a, a ≠ 2 → a ≠ 586 → C a = A a) (h6 : ∀ i, i < 15 → C 586 i = A 586 i) (hc : C 586 15 = C 2 0 ∧ C 586 16 = C 2 1) : Rl C := by
  obtain ⟨⟨q1, q2, q3, q4, q5, q6, q7, q8, q9⟩, r2, r3, r4, r5, r6⟩ := hR
  have e0 := h 0 (by decide) (by decide)
  have hS : sim A C := ⟨fun a ha => h a (by unfold cwA at ha; omega) (by unfold cwA at ha; omega), by rw [e0]⟩
  have hbk : ∀ a, 392 ≤ a → a ≤ 400 → C a = A a := fun a h1 h2 => h a (by omega) (by omega)
  have hC4 := nMSP (h 4 (by decide) (by decide))
  have hM6 := q1.1.2.2.1.2
  have hP8 := q1.1.2.2.2.2
  have e494 := h 494 (by decide) (by decide)
  have e35 : C 0 35 = A 0 35 := by rw [e0]
  refine ⟨⟨cg_Cty hS q1, sim_LwOk hS q2, cg_BkOk e35 hbk (sim_nS hS) q3, by rw [e494]; exact cg_Nt hC4.1 hC4.2.2 hM6 (eq37_refl _) q4, cg_CtR hS q1.1 (fun a h1 h2 => h a (by omega) (by omega)) q5, cg_LwR hS q2 (fun a h1 h2 => h a (by omega) (by omega)) q6, cg_BkR e35 hbk q3 (fun a h1 h2 => h a (by omega) (by omega)) q7, by rw [e494]; exact cg_NtR hC4.1 hC4.2.1 hC4.2.2 hM6 hP8 (eq37_refl _) (fun a h1 h2 => h a (by omega) (by omega)) q8, by rw [h6 14 (by decide), e0]; exact q9⟩, ?_, ?_, hc, ?_, by rw [h 587 (by decide) (by decide), e0]; exact r6⟩
  · have e : nWk C = nWk A := by unfold nWk; rw [e0]
    rw [e, e0, e494]
    refine ⟨r2.1, cg_HsR hC4.1 hC4.2.1 hC4.2.2 hM6 hP8 (eq37_refl _) (fun i hi => ?_) (fun a h1 h2 => h a (by omega) (by omega)) r2.2⟩
    rw [h (497 + i) (by omega) (by have := r2.2.1; omega)]
    exact eq37_refl _
  · have e : nI3 C = nI3 A := by unfold nI3; rw [e0]
    rw [e, e0, h6 13 (by decide)]
    refine ⟨r3.1, r3.2.1, r3.2.2.1, fun i hi => ?_⟩
    have h3 := r3.1
    have q := r3.2.2.2 i hi
    rw [h (514 + i) (by omega) (by omega)]
    exact ⟨q.1, cg_HsR hC4.1 hC4.2.1 hC4.2.2 hM6 hP8 (eq37_refl _) (fun _ _ => eq37_refl _) (fun a h1 h2 => h a (by omega) (by omega)) q.2⟩
  · have e : nTp C = nTp A := by unfold nTp; rw [e0]
    rw [e, e0, h 587 (by decide) (by decide), h 588 (by decide) (by decide), h 1 (by decide) (by decide)]
    exact r5
/-- both counts moved on -/
theorem Rl_cnt {A : Mm} (hR : Rl A) {j : Nat} (hj : j < 2) : Rl (mset (cN1 A j) 2 j (A 2 j + 1)) := by
  have h4 := hR.2.2.2.1
  unfold cN1
  refine Rl_586 hR (fun a a1 a2 => by rw [mset_ne _ _ _ a1, mset_ne _ _ _ a2]) (fun i hi => by rw [mset_ne _ _ _ (by decide), mset_eq, pk_un (by omega)]) ?_
  obtain rfl | rfl : j = 0 ∨ j = 1 := by omega
  · rw [mset_ne _ _ _ (show (586 : Nat) ≠ 2 by decide), mset_eq, mset_eq, mset_ne _ _ _ (show (2 : Nat) ≠ 586 by decide)]
    refine ⟨by rw [pk_us, pk_us, h4.1], by rw [pk_un (by decide), pk_un (by decide)]; exact h4.2⟩
  · rw [mset_ne _ _ _ (show (586 : Nat) ≠ 2 by decide), mset_eq, mset_eq, mset_ne _ _ _ (show (2 : Nat) ≠ 586 by decide)]
    refine ⟨by rw [pk_un (by decide), pk_un (by decide)]; exact h4.1, by rw [pk_us, pk_us, h4.2]⟩
/-- the class's count alone: what the reference reads is as it was -/
theorem cN1_lo (A : Mm) (j : Nat) {a : Nat} (h : a ≠ 586) : cN1 A j a = A a := mset_ne _ _ _ h
theorem sim_cN1 (A : Mm) (j : Nat) : sim A (cN1 A j) := ⟨fun a ha => cN1_lo A j (by unfold cwA at ha; omega), by rw [cN1_lo A j (by decide)]⟩
