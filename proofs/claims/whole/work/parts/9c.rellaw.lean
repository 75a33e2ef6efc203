set_option maxRecDepth 100000
/-! THE RELATION AFTER A LAW -/
def simC (A B : Mm) : Prop := ∀ a, a = 4 ∨ a = 6 ∨ (23 ≤ a ∧ a ≤ 36) ∨ (45 ≤ a ∧ a ≤ 50) ∨ (61 ≤ a ∧ a ≤ 68) → B a = A a
section CGC
variable {A B m m2 : Mm}
theorem simC_n (h : simC A B) : nS B = nS A ∧ nL B = nL A ∧ nM B = nM A ∧ nP B = nP A := by
  unfold nS nL nM nP
  rw [h 4 (by omega)]
  exact ⟨rfl, rfl, rfl, rfl⟩
theorem cgc_Cty (h : simC A B) (hT : Cty A) : Cty B := by
  obtain ⟨n1, n2, n3, n4⟩ := simC_n h
  have hA := hT.1
  have h9 := hA.1.2
  have h14 := hA.2.1.2
  have h6 := hA.2.2.1.2
  have h8 := hA.2.2.2.2
  unfold Cty CtB
  rw [n1, n2, n3, n4, h 4 (by omega), h 6 (by omega)]
  refine ⟨hA, hT.2.1, fun e he => ?_, fun k hk => ?_, fun p hp => ?_⟩
  · rw [h (23 + e) (by omega)]
    exact hT.2.2.1 e he
  · rw [h (45 + k) (by omega)]
    exact hT.2.2.2.1 k hk
  · rw [h (61 + p) (by omega)]
    exact hT.2.2.2.2 p hp
theorem cgc_Ln (h : simC A B) (hA : CtB A) (x y : Int32) : Ln B x y = Ln A x y := by
  have h14 := hA.2.1.2
  unfold Ln
  rw [(simC_n h).2.1]
  apply propext
  constructor
  · rintro ⟨e, he, q⟩
    refine ⟨e, he, ?_⟩
    unfold LnE at q ⊢
    rw [h (23 + e) (by omega)] at q
    exact q
  · rintro ⟨e, he, q⟩
    refine ⟨e, he, ?_⟩
    unfold LnE at q ⊢
    rw [h (23 + e) (by omega)]
    exact q
theorem cgc_CtR (h : simC A B) (hA : CtB A) {C : Nat} (hm : ∀ a, C ≤ a → a ≤ C + 9 → m2 a = m a) (hC : CtR A m C) : CtR B m2 C := by
  obtain ⟨n1, n2, n3, n4⟩ := simC_n h
  have h9 := hA.1.2
  have h14 := hA.2.1.2
  have h6 := hA.2.2.1.2
  have h8 := hA.2.2.2.2
  unfold CtR
  rw [n1, n2, n3, n4, hm C (by omega) (by omega), hm (C + 1) (by omega) (by omega), hm (C + 2) (by omega) (by omega), hm (C + 3) (by omega) (by omega), hm (C + 4) (by omega) (by omega), hm (C + 5) (by omega) (by omega), hm (C + 6) (by omega) (by omega), hm (C + 7) (by omega) (by omega), hm (C + 8) (by omega) (by omega), hm (C + 9) (by omega) (by omega)]
  refine ⟨hC.1, fun s hs => ?_, fun s hs => ?_, fun e he => ?_, fun k hk => ?_, fun p hp => ?_⟩
  · rw [h 6 (by omega)]; exact hC.2.1 s hs
  · rw [hC.2.2.1 s hs]; exact msk_cong (fun k hk => by rw [cgc_Ln h hA])
  · rw [h (23 + e) (by omega)]; exact hC.2.2.2.1 e he
  · rw [h (45 + k) (by omega)]; exact hC.2.2.2.2.1 k hk
  · rw [h (61 + p) (by omega)]; exact hC.2.2.2.2.2 p hp
end CGC
def htF (f : Nat → Nat) (h : Nat) : Nat → Nat
  | 0 => h
  | k + 1 => if f k < 2 then htF f h k + 1 else htF f h k - 1
theorem htF_sh (f : Nat → Nat) (h : Nat) : ∀ k, htF f h (k + 1) = htF (fun i => f (i + 1)) (if f 0 < 2 then h + 1 else h - 1) k
  | 0 => rfl
  | k + 1 => by
    have IH := htF_sh f h k
    show (if f (k + 1) < 2 then htF f h (k + 1) + 1 else htF f h (k + 1) - 1) = (if f (k + 1) < 2 then htF (fun i => f (i + 1)) (if f 0 < 2 then h + 1 else h - 1) k + 1 else htF (fun i => f (i + 1)) (if f 0 < 2 then h + 1 else h - 1) k - 1)
    rw [IH]
theorem okL_at : ∀ (cs : List (Nat × Nat)) (h : Nat), okL cs h → ∀ k, k < cs.length → okC (cAt cs k) (htF (fun i => (cAt cs i).1) h k)
  | [], _, _, k, hk => absurd hk (Nat.not_lt_zero _)
  | c :: cs, h, ho, k, hk => by
    cases k with
    | zero => exact ho.1
    | succ k =>
      rw [htF_sh]
      exact okL_at cs _ ho.2 k (Nat.lt_of_succ_lt_succ hk)
theorem ht_F {A : Mm} {f : Nat → Nat} : ∀ k, (∀ i, i < k → c0 A i = f i) → ht A k = htF f 0 k
  | 0, _ => rfl
  | k + 1, h => by
    unfold ht htF
    rw [ht_F k (fun i hi => h i (by omega)), h k (by omega)]
theorem Rl_law0 {A B C : Mm} (hR : Rl A) {p : PS} {cs : List (Nat × Nat)} (hb : p.2.1 ≠ 0) (hU : Lw0 A p B) {v : Int32} (hX : XLw B C v p cs) : Rl C := by
  obtain ⟨u1, u2, u3, u4⟩ := hU
  obtain ⟨x1, x2, -⟩ := hX
  obtain ⟨-, x3, x4⟩ := x2 hb
  have eC : ∀ a, a ≠ 0 → a < 231 ∨ 390 < a → a ≠ 587 → a ≠ 614 → a ≠ 615 → C a = A a := fun a h1 h2 h3 h4 h5 => (x4 a h3 h4 h5).trans (u1 a h1 h2)
  have e0 : ∀ i, C 0 i = B 0 i := fun i => by rw [x4 0 (by decide) (by decide) (by decide)]
  have f0 : ∀ i, 9 ≤ i → i ≠ 22 → C 0 i = A 0 i := fun i hi h22 => (e0 i).trans (u2 i (by omega) (by omega) (by omega) (by omega) (by omega) (by omega) (by omega) (by omega) h22)
  have hS : sim A C := ⟨fun a ha => eC a (by unfold cwA at ha; omega) (by unfold cwA at ha; omega) (by unfold cwA at ha; omega) (by unfold cwA at ha; omega) (by unfold cwA at ha; omega), f0 21 (by decide) (by decide)⟩
  have hbk : ∀ a, 392 ≤ a → a ≤ 400 → C a = A a := fun a h1 h2 => eC a (by omega) (by omega) (by omega) (by omega) (by omega)
  obtain ⟨q1, q2, q3, q4, q5, q6, q7, q8, q9⟩ := hR.1
  exact Rl_txt hR (eC 4 (by decide) (by decide) (by decide) (by decide) (by decide)) (fun a h1 h2 _ => eC a (by omega) (by omega) (by omega) (by omega) (by omega)) (fun a h1 h2 => eC a (by omega) (by omega) (by omega) (by omega) (by omega)) (fun a h1 => eC a (by omega) (by omega) (by omega) (by omega) (by omega)) (fun i hi => f0 i (by omega) (by omega)) (eC 586 (by decide) (by decide) (by decide) (by decide) (by decide)) (eC 2 (by decide) (by decide) (by decide) (by decide) (by decide)) (cg_Cty hS q1) (sim_LwOk hS q2) (cg_BkOk (f0 35 (by decide) (by decide)) hbk (sim_nS hS) q3) (cg_CtR hS q1.1 (fun a h1 h2 => eC a (by omega) (by omega) (by omega) (by omega) (by omega)) q5) (cg_LwR hS q2 (fun a h1 h2 => eC a (by omega) (by omega) (by omega) (by omega) (by omega)) q6) (cg_BkR (f0 35 (by decide) (by decide)) hbk q3 (fun a h1 h2 => eC a (by omega) (by omega) (by omega) (by omega) (by omega)) q7) (by rw [e0]; exact u3) x1 (by rw [x3, e0, u4])
theorem Rl_law1 {A B C : Mm} (hR : Rl A) {p : PS} {cs : List (Nat × Nat)} (hb : p.2.1 = 0) (hl : cs.length ≤ 150) (hok : okL cs 0) (hU : Lw1 A cs B) {v : Int32} (hX : XLw B C v p cs) : Rl C := by
  obtain ⟨u1, ⟨u2, u3, u4⟩, u5, u6⟩ := hU
  obtain ⟨x1, -, x2⟩ := hX
  obtain ⟨-, x3, x4, x5, x6⟩ := x2 hb
  have eC : ∀ a, a ≠ 0 → a < 70 ∨ 390 < a → a ≠ 587 → a ≠ 600 → a ≠ 601 → a ≠ 614 → a ≠ 615 → C a = A a := fun a h1 h2 h3 h4 h5 h6 h7 => (x4 a h3 h4 h5 h6 h7).trans (u1 a h1 h2)
  have e0 : ∀ i, C 0 i = B 0 i := fun i => by rw [x4 0 (by decide) (by decide) (by decide) (by decide) (by decide)]
  have f0 : ∀ i, 9 ≤ i → i ≠ 21 → i ≠ 22 → C 0 i = A 0 i := fun i hi h21 h22 => (e0 i).trans (u2 i (by omega) (by omega) (by omega) (by omega) (by omega) (by omega) (by omega) (by omega) (fun q => by omega))
  have hS : simC A C := fun a ha => eC a (by omega) (by omega) (by omega) (by omega) (by omega) (by omega) (by omega)
  have hbk : ∀ a, 392 ≤ a → a ≤ 400 → C a = A a := fun a h1 h2 => eC a (by omega) (by omega) (by omega) (by omega) (by omega) (by omega) (by omega)
  obtain ⟨q1, q2, q3, q4, q5, q6, q7, q8, q9⟩ := hR.1
  have e21 : C 0 21 = nI cs.length := by rw [e0]; exact u5
  have enW : nW C = cs.length := by unfold nW; rw [e21, nI_cl (by omega)]
  have hrow : ∀ t, t < cs.length → C (70 + t) 0 = nI (cAt cs t).1 ∧ C (70 + t) 1 = nI (cAt cs t).2 := fun t ht => by
    rw [x4 (70 + t) (by omega) (by omega) (by omega) (by omega) (by omega)]; exact u6 t ht
  have hcc : ∀ t, t < cs.length → okC (cAt cs t) (htF (fun i => (cAt cs i).1) 0 t) := okL_at cs 0 hok
  have hc0 : ∀ t, t < cs.length → c0 C t = (cAt cs t).1 ∧ c1 C t = (cAt cs t).2 := fun t ht => by
    have hh := hcc t ht
    unfold c0 c1
    rw [(hrow t ht).1, (hrow t ht).2, nI_cl (by have := hh.1; omega), nI_cl (by have := hh.2.1; omega)]
    exact ⟨rfl, rfl⟩
  have hLw : LwOk C := by
    unfold LwOk
    rw [enW]
    refine ⟨e21, hl, fun t ht => ?_⟩
    have hh := hcc t ht
    rw [(hc0 t ht).1, (hc0 t ht).2, ht_F t (fun i hi => (hc0 i (by omega)).1)]
    exact ⟨(hrow t ht).1, (hrow t ht).2, hh⟩
  have hLR : LwR C C 600 := by
    unfold LwR
    rw [enW]
    refine ⟨x5, fun t ht => ?_⟩
    rw [(hc0 t ht).1, (hc0 t ht).2]
    exact x6 t ht
  exact Rl_txt hR (eC 4 (by decide) (by decide) (by decide) (by decide) (by decide) (by decide) (by decide)) (fun a h1 h2 _ => eC a (by omega) (by omega) (by omega) (by omega) (by omega) (by omega) (by omega)) (fun a h1 h2 => eC a (by omega) (by omega) (by omega) (by omega) (by omega) (by omega) (by omega)) (fun a h1 => eC a (by omega) (by omega) (by omega) (by omega) (by omega) (by omega) (by omega)) (fun i hi => f0 i (by omega) (by omega) (by omega)) (eC 586 (by decide) (by decide) (by decide) (by decide) (by decide) (by decide) (by decide)) (eC 2 (by decide) (by decide) (by decide) (by decide) (by decide) (by decide) (by decide)) (cgc_Cty hS q1) hLw (cg_BkOk (f0 35 (by decide) (by decide) (by decide)) hbk (simC_n hS).1 q3) (cgc_CtR hS q1.1 (fun a h1 h2 => eC a (by omega) (by omega) (by omega) (by omega) (by omega) (by omega) (by omega)) q5) hLR (cg_BkR (f0 35 (by decide) (by decide) (by decide)) hbk q3 (fun a h1 h2 => eC a (by omega) (by omega) (by omega) (by omega) (by omega) (by omega) (by omega)) q7) (by rw [e0]; exact u3) x1 (by rw [x3, e0, u4])
