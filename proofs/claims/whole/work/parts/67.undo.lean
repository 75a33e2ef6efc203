set_option maxRecDepth 100000
/-! WHAT CHANGES ONLY THE NIGHTS -/
theorem Rl_night {A C : Mm} (hR : Rl A) (lo : ∀ a, 1 ≤ a → a ≤ 493 → C a = A a) (c0 : ∀ i, i ≠ 36 → i ≠ 37 → i ≠ 38 → i ≠ 39 → C 0 i = A 0 i) (hi : ∀ a, 587 ≤ a → a ≤ 624 → C a = A a) (c6 : ∀ i, i ≠ 13 → i ≠ 14 → C 586 i = A 586 i) (h37 : C 586 14 = C 0 37)
    {n : Nat} (hn : C 0 36 = nI n) (hH : HsR C n (C 494) (fun i => C (497 + i)) C 625) {k : Nat} (hk : k ≤ 3) (hk1 : C 0 38 = nI k) (hk2 : C 586 13 = nI k) (hI : ∀ i, i < k → C (514 + i) 0 = nI (C (514 + i) 0).toNatClampNeg ∧ HsR C (C (514 + i) 0).toNatClampNeg (fun k => C (514 + i) (1 + k)) (fun w k => C (514 + i) (38 + 37 * w + k)) C (707 + 70 * i)) : Rl C := by
  obtain ⟨⟨q1, q2, q3, q4, q5, q6, q7, q8, q9⟩, -, -, r4, r5, r6⟩ := hR
  have hs : sim A C := ⟨fun a ha => lo a (by unfold cwA at ha; omega) (by unfold cwA at ha; omega), c0 21 (by decide) (by decide) (by decide) (by decide)⟩
  have h35 := c0 35 (by decide) (by decide) (by decide) (by decide)
  have hbk : ∀ a, 392 ≤ a → a ≤ 400 → C a = A a := fun a h1 h2 => lo a (by omega) (by omega)
  have hn16 := hH.1
  refine ⟨⟨cg_Cty hs q1, sim_LwOk hs q2, cg_BkOk h35 hbk (sim_nS hs) q3, hH.2.2.1.2, cg_CtR hs q1.1 (fun a h1 h2 => hi a (by omega) (by omega)) q5, cg_LwR hs q2 (fun a h1 h2 => hi a (by omega) (by omega)) q6, cg_BkR h35 hbk q3 (fun a h1 h2 => hi a (by omega) (by omega)) q7, hH.2.2.1.1, h37⟩, ?_, ?_, ?_, ?_, ?_⟩
  · have e : nWk C = n := by unfold nWk; rw [hn, nI_cl (by omega)]
    rw [e]
    exact ⟨hn, hH⟩
  · have e : nI3 C = k := by unfold nI3; rw [hk1, nI_cl (by omega)]
    rw [e]
    exact ⟨hk, hk1, hk2, hI⟩
  · rw [c6 15 (by decide) (by decide), c6 16 (by decide) (by decide), lo 2 (by decide) (by decide)]
    exact r4
  · have e : nTp C = nTp A := by unfold nTp; rw [c0 1 (by decide) (by decide) (by decide) (by decide)]
    rw [e, c0 1 (by decide) (by decide) (by decide) (by decide), hi 587 (by decide) (by decide), hi 588 (by decide) (by decide), lo 1 (by decide) (by decide)]
    exact r5
  · rw [hi 587 (by decide) (by decide), c0 3 (by decide) (by decide) (by decide) (by decide)]
    exact r6
/-- undone in the reference -/
def Un (A : Mm) (w : Nat) (B : Mm) : Prop := (∀ a, a ≠ 0 → a ≠ 494 → B a = A a) ∧ eq37 (A (496 + w)) (B 494) ∧ B 0 = upd (upd (A 0) 36 (nI (w - 1))) 37 0
theorem nMSP {A C : Mm} (h : C 4 = A 4) : nM C = nM A ∧ nP C = nP A ∧ nS C = nS A := by
  unfold nM nP nS
  rw [h]
  exact ⟨rfl, rfl, rfl⟩
theorem Rl_undo {A B C : Mm} (hR : Rl A) {w : Nat} (hw : nWk A = w) (h0 : w ≠ 0) (hU : Un A w B) (f1 : ∀ a, a ≠ 586 → a < 625 ∨ 629 < a → C a = B a) (f2 : C 586 = upd (B 586) 14 0) (f3 : C 625 2 = nI (w - 1)) (f4 : ncp B C (627 + 4 * w) 626) : Rl C := by
  obtain ⟨u1, u2, u3⟩ := hU
  have hH := hR.2.1.2
  rw [hw] at hH
  have h16 := hH.1
  have eC : ∀ a, a ≠ 0 → a ≠ 494 → a ≠ 586 → a < 625 ∨ 629 < a → C a = A a := fun a h1 h2 h3 h4 => (f1 a h3 h4).trans (u1 a h1 h2)
  have e0 : C 0 = upd (upd (A 0) 36 (nI (w - 1))) 37 0 := (f1 0 (by decide) (by decide)).trans u3
  have e6 : C 586 = upd (A 586) 14 0 := by rw [f2, u1 586 (by decide) (by decide)]
  have hC4 := nMSP (eC 4 (by decide) (by decide) (by decide) (by decide))
  have hA := hR.1.1.1
  have hM6 := hA.2.2.1.2
  have hP8 := hA.2.2.2.2
  have hl := hH.2.2.2 (w - 1) (by omega)
  have el : 625 + 6 + 4 * (w - 1) = 627 + 4 * w := by omega
  have el2 : 497 + (w - 1) = 496 + w := by omega
  dsimp only at hl
  rw [el, el2] at hl
  have eR : eq37 (A (496 + w)) (C 494) := by rw [f1 494 (by decide) (by decide)]; exact u2
  have hI := hR.2.2.1
  refine Rl_night hR (fun a h1 h2 => eC a (by omega) (by omega) (by omega) (by omega)) (fun i h1 h2 h3 h4 => by rw [e0, pk_un h2, pk_un h1]) (fun a h1 h2 => eC a (by omega) (by omega) (by omega) (by omega)) (fun i h1 h2 => by rw [e6, pk_un h2]) (by rw [e6, pk_us, e0, pk_us]) (n := w - 1) (by rw [e0, pk_un (by decide), pk_us]) ⟨by omega, f3, ⟨?_, ?_⟩, fun i hi => ?_⟩ (k := nI3 A) hI.1 (by rw [e0, pk_un (by decide), pk_un (by decide)]; exact hI.2.1) (by rw [e6, pk_un (by decide)]; exact hI.2.2.1) (fun i hi => ?_)
  · have h1 := f4 A _ hA (NtR_fr (fun a h1 h2 => u1 a (by omega) (by omega)) hl.1)
    exact cg_NtR hC4.1 hC4.2.1 hC4.2.2 hM6 hP8 eR (fun _ _ _ => rfl) h1
  · exact cg_Nt hC4.1 hC4.2.2 hM6 eR hl.2
  · have q := hH.2.2.2 i (by omega)
    dsimp only at q ⊢
    rw [eC (497 + i) (by omega) (by omega) (by omega) (by omega)]
    exact ⟨cg_NtR hC4.1 hC4.2.1 hC4.2.2 hM6 hP8 (eq37_refl _) (fun a h1 h2 => eC a (by omega) (by omega) (by omega) (by omega)) q.1, cg_Nt hC4.1 hC4.2.2 hM6 (eq37_refl _) q.2⟩
  · have q := hI.2.2.2 i hi
    have h3 := hI.1
    rw [eC (514 + i) (by omega) (by omega) (by omega) (by omega)]
    exact ⟨q.1, cg_HsR hC4.1 hC4.2.1 hC4.2.2 hM6 hP8 (eq37_refl _) (fun _ _ => eq37_refl _) (fun a h1 h2 => eC a (by omega) (by omega) (by omega) (by omega)) q.2⟩
section R24
variable {l : Launch} {g : mG} {d : Nat} {A : Mm}
theorem r_undo {m : Mm} (hm : cl m = A) {w : Nat} (hw : A 0 36 = nI w) (h16 : w ≤ 16) (hd : 1 ≤ d) : mHi l g d k_X12_undo [.ref 0] m (fun x m2 => (w = 0 → x = -1 ∧ Cn A m2) ∧ (w ≠ 0 → x = nI (w - 1) ∧ m2 0 0 = 0 ∧ Un A w (cl m2))) := by
  refine nBi 0 rfl rfl rfl (by decide) rfl (fun htr o Φ hΦ => mGoOn (mOk (by decide)) rfl [] 400 ?_)
  show (¬ ((mset m 0 0 (0 : Int32)) 0 36) = 0 → (Value.ref 0).category = 1 ∧ (mReq (mInB ((mset (mset m 0 0 (0 : Int32)) 0 36 (((mset m 0 0 (0 : Int32)) 0 36) - (1 : Int32))) 0 36) 16) (mCal l g d k_X12_undo Φ 0 0 _ 37 k_X12_copies false [.ref (mRF 496 (((mset (mset m 0 0 (0 : Int32)) 0 36 (((mset m 0 0 (0 : Int32)) 0 36) - (1 : Int32))) 0 36).toNatClampNeg)), .ref 494] [] [.ref 0] (mset (mset m 0 0 (0 : Int32)) 0 36 (((mset m 0 0 (0 : Int32)) 0 36) - (1 : Int32))) o 0 0 0))) ∧ (((mset m 0 0 (0 : Int32)) 0 36) = 0 → Φ (.inl (some (.int (-1 : Int32)))) (mset m 0 0 (0 : Int32)) o ∧ 0 ≤ 0 ∧ 0 ≤ 0)
  have hC := Cn_0 hm
  generalize mset m 0 0 (0 : Int32) = M at hC ⊢
  have e36 : M 0 36 = nI w := by rw [clO hC.1 (by omega)]; exact hw
  rw [e36]
  refine ⟨fun z => ?_, fun z => eR (hΦ _ _ ⟨fun _ => ⟨rfl, hC⟩, fun q => absurd ?_ q⟩)⟩
  · have hw0 : w ≠ 0 := fun e => z (by rw [e]; rfl)
    rw [nI_dec1 (by omega), mset_eq, pk_us, mIn_ok (show w - 1 < 16 by omega) (by decide), nI_cl (by omega), rf_496, show 497 + (w - 1) = 496 + w by omega]
    refine ⟨rfl, nCv htr (r_copies (x := 496 + w) (y := 494) ⟨sB_6 (by omega), by rw [sL_6 (by omega)]; decide, by rw [sL_6 (by omega)]; decide⟩ ⟨rfl, by decide, by decide⟩ (by omega)) (by omega) ?_⟩
    intro m2 ⟨f1, f2⟩
    show Φ (.inl (some (.int ((mset m2 0 37 (0 : Int32)) 0 36)))) (mset m2 0 37 (0 : Int32)) o ∧ 0 ≤ 0 ∧ 0 ≤ 0
    have e2 : mset m2 0 37 (0 : Int32) 0 36 = nI (w - 1) := by rw [mset_eq, pk_un (by decide), f1 0 (by decide), mset_eq, pk_us]
    rw [e2]
    have c0 : (mset m2 0 37 (0 : Int32)) 0 = upd (upd (M 0) 36 (nI (w - 1))) 37 0 := by rw [mset_eq, f1 0 (by decide), mset_eq]
    have hcl : ∀ a i, cl (mset m2 0 37 (0 : Int32)) a i = bif sc a i then 0 else mset m2 0 37 (0 : Int32) a i := fun _ _ => rfl
    have hA : ∀ a i, A a i = bif sc a i then 0 else M a i := fun a i => by rw [← hC.1]; rfl
    refine eR (hΦ _ _ ⟨fun q => absurd q hw0, fun _ => ⟨rfl, ?_, fun a h1 h2 => ?_, ?_, ?_⟩⟩)
    · rw [c0, pk_un (by decide), pk_un (by decide)]; exact hC.2
    · funext i
      rw [hcl, hA, mset_ne _ _ _ h1, f1 a h2, mset_ne _ _ _ h1]
    · intro i hi
      rw [hcl, show sc 494 i = false from rfl, cond_false, mset_ne _ _ _ (by decide), ← f2 i hi, mset_ne _ _ _ (by omega), clF hC.1 (by omega)]
    · funext i
      rw [hcl, c0, upd_at, upd_at, upd_at, upd_at, hA]
      by_cases e37 : i = 37
      · subst e37; rfl
      · rw [if_neg e37, if_neg e37]
        by_cases e36 : i = 36
        · subst e36; rfl
        · rw [if_neg e36, if_neg e36]
  · rw [show (0 : Int32) = nI 0 from rfl, nI_eq (by omega) (by decide)] at z
    exact z
end R24
