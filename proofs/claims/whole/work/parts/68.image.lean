set_option maxRecDepth 100000
/-! IMAGE AND RESTORE: the reference, the relation -/
theorem PA0_all {x : Nat} {m0 m2 : Mm} {s : Nat} (h : PA 0 x m0 m2 s) {a i : Nat} (h1 : ¬ (a = 0 ∧ i = 39)) (h2 : a ≠ x) : m2 a i = m0 a i := by
  by_cases z : ∃ j, j < 630 ∧ a = ce1 j ∧ i = ce2 j
  · obtain ⟨j, hj, e1, e2⟩ := z
    rw [e1, e2]
    exact (h.2.2.1 rfl).1 j hj
  · exact h.1 a i (fun j hj q => z ⟨j, hj, q⟩) h1 h2
theorem src_cl {A M : Mm} (h : cl M = A) {j : Nat} (hj : j < 630) : src M j = src A j := by
  unfold src
  rcases ce_in hj with ⟨a1, a2, a3⟩ | ⟨a0, a1, a2, a3⟩ | ⟨a1, a2, a3⟩ <;> rw [a2, a3]
  · exact clO h (by omega)
  · exact clA h _ (by omega)
  · exact clA h _ (by omega)
def Im (A : Mm) (k : Nat) (B : Mm) : Prop := (∀ a, a ≠ 0 → a ≠ 514 + k → B a = A a) ∧ (∀ i, i ≠ 38 → i ≠ 39 → B 0 i = A 0 i) ∧ B 0 38 = nI (k + 1) ∧ ∀ j, j < 630 → B (514 + k) j = src A j
def Re (A : Mm) (k : Nat) (B : Mm) : Prop := (∀ a, a ≠ 0 → a ≠ 494 → a < 497 ∨ 512 < a → B a = A a) ∧ (∀ i, i ≠ 36 → i ≠ 37 → i ≠ 38 → i ≠ 39 → B 0 i = A 0 i) ∧ B 0 38 = nI (k - 1) ∧ B 0 37 = 0 ∧ ∀ j, j < 630 → src B j = A (513 + k) j
theorem Rl_image {A B C : Mm} (hR : Rl A) {k w : Nat} (hk : nI3 A = k) (h3 : k < 3) (hw : nWk A = w) (hU : Im A k B) (f1 : ∀ a, a ≠ 586 → a < 707 + 70 * k ∨ 707 + 70 * k + 69 < a → C a = B a) (f2 : C 586 = upd (B 586) 13 (nI (k + 1))) (f3 : C (707 + 70 * k) 2 = nI w) (f4 : ncp B C 626 (708 + 70 * k)) (f5 : ∀ j, j < w → ncp B C (631 + 4 * j) (713 + 70 * k + 4 * j)) : Rl C := by
  obtain ⟨u1, u2, u3, u4⟩ := hU
  have hH := hR.2.1.2
  have h36 := hR.2.1.1
  rw [hw] at hH h36
  have h16 := hH.1
  have eC : ∀ a, a ≠ 0 → a ≠ 514 + k → a ≠ 586 → a < 707 + 70 * k ∨ 707 + 70 * k + 69 < a → C a = A a := fun a h1 h2 h3 h4 => (f1 a h3 h4).trans (u1 a h1 h2)
  have e0 : ∀ i, C 0 i = B 0 i := fun i => by rw [f1 0 (by decide) (by omega)]
  have e6 : C 586 = upd (A 586) 13 (nI (k + 1)) := by rw [f2, u1 586 (by decide) (by omega)]
  have eI : ∀ j, j < 630 → C (514 + k) j = src A j := fun j hj => by rw [f1 (514 + k) (by omega) (by omega)]; exact u4 j hj
  have hC4 := nMSP (eC 4 (by decide) (by omega) (by decide) (by omega))
  have hA := hR.1.1.1
  have hM6 := hA.2.2.1.2
  have hP8 := hA.2.2.2.2
  have hI := hR.2.2.1
  rw [hk] at hI
  refine Rl_night hR (fun a h1 h2 => eC a (by omega) (by omega) (by omega) (by omega)) (fun i h1 h2 h3 h4 => by rw [e0, u2 i h3 h4]) (fun a h1 h2 => eC a (by omega) (by omega) (by omega) (by omega)) (fun i h1 h2 => by rw [e6, pk_un h1]) (by rw [e6, pk_un (by decide), e0, u2 37 (by decide) (by decide)]; exact hR.1.2.2.2.2.2.2.2.2) (n := w) (by rw [e0, u2 36 (by decide) (by decide)]; exact h36) ?_ (k := k + 1) (by omega) (by rw [e0]; exact u3) (by rw [e6, pk_us]) (fun i hi => ?_)
  · refine cg_HsR hC4.1 hC4.2.1 hC4.2.2 hM6 hP8 ?_ (fun i hi => ?_) (fun a h1 h2 => eC a (by omega) (by omega) (by omega) (by omega)) hH
    · rw [eC 494 (by decide) (by omega) (by decide) (by omega)]; exact eq37_refl _
    · rw [eC (497 + i) (by omega) (by omega) (by omega) (by omega)]; exact eq37_refl _
  · by_cases e : i = k
    · subst e
      have ew : C (514 + i) 0 = nI w := by rw [eI 0 (by decide)]; exact h36
      have ew2 : (C (514 + i) 0).toNatClampNeg = w := by rw [ew, nI_cl (by omega)]
      rw [ew2]
      have en : eq37 (A 494) (fun k => C (514 + i) (1 + k)) := fun j hj => by
        dsimp only
        rw [eI (1 + j) (by omega)]
        unfold src
        rw [(ce_1 hj).1, (ce_1 hj).2]
      refine ⟨ew, h16, f3, ⟨?_, cg_Nt hC4.1 hC4.2.2 hM6 en hH.2.2.1.2⟩, fun j hj => ?_⟩
      · have h1 := f4 A _ hA (NtR_fr (fun a h1 h2 => u1 a (by omega) (by omega)) hH.2.2.1.1)
        rw [show 708 + 70 * i = 707 + 70 * i + 1 by omega] at h1
        exact cg_NtR hC4.1 hC4.2.1 hC4.2.2 hM6 hP8 en (fun _ _ _ => rfl) h1
      · have eb : eq37 (A (497 + j)) (fun k => C (514 + i) (38 + 37 * j + k)) := fun p hp => by
          dsimp only
          rw [eI (38 + 37 * j + p) (by omega)]
          unfold src
          rw [(ce_2 (w := j) hp).1, (ce_2 (w := j) hp).2]
        have q := hH.2.2.2 j hj
        dsimp only at q ⊢
        have h1 := f5 j hj A _ hA (NtR_fr (fun a h1 h2 => u1 a (by omega) (by omega)) q.1)
        rw [show 713 + 70 * i + 4 * j = 707 + 70 * i + 6 + 4 * j by omega] at h1
        exact ⟨cg_NtR hC4.1 hC4.2.1 hC4.2.2 hM6 hP8 eb (fun _ _ _ => rfl) h1, cg_Nt hC4.1 hC4.2.2 hM6 eb q.2⟩
    · have q := hI.2.2.2 i (by omega)
      rw [eC (514 + i) (by omega) (by omega) (by omega) (by omega)]
      exact ⟨q.1, cg_HsR hC4.1 hC4.2.1 hC4.2.2 hM6 hP8 (eq37_refl _) (fun _ _ => eq37_refl _) (fun a h1 h2 => eC a (by omega) (by omega) (by omega) (by omega)) q.2⟩
theorem Rl_restore {A B C : Mm} (hR : Rl A) {k w : Nat} (hk : nI3 A = k) (h0 : k ≠ 0) (hw : (A (513 + k) 0).toNatClampNeg = w) (hU : Re A k B) (f1 : ∀ a, a ≠ 586 → a < 625 ∨ 694 < a → C a = B a) (f2 : C 586 = upd (upd (B 586) 13 (nI (k - 1))) 14 0) (f3 : C 625 2 = nI w) (f4 : ncp B C (638 + 70 * k) 626) (f5 : ∀ j, j < w → ncp B C (643 + 70 * k + 4 * j) (631 + 4 * j)) : Rl C := by
  obtain ⟨u1, u2, u3, u4, u5⟩ := hU
  have hI := hR.2.2.1
  rw [hk] at hI
  have hk3 := hI.1
  have hl := hI.2.2.2 (k - 1) (by omega)
  rw [show 514 + (k - 1) = 513 + k by omega, show 707 + 70 * (k - 1) = 637 + 70 * k by omega, hw] at hl
  obtain ⟨l1, l2⟩ := hl
  have h16 := l2.1
  have eC : ∀ a, a ≠ 0 → a ≠ 494 → a < 497 ∨ 512 < a → a ≠ 586 → a < 625 ∨ 694 < a → C a = A a := fun a h1 h2 h3 h4 h5 => (f1 a h4 h5).trans (u1 a h1 h2 h3)
  have e0 : ∀ i, C 0 i = B 0 i := fun i => by rw [f1 0 (by decide) (by omega)]
  have e6 : C 586 = upd (upd (A 586) 13 (nI (k - 1))) 14 0 := by rw [f2, u1 586 (by decide) (by omega) (by omega)]
  have hC4 := nMSP (eC 4 (by decide) (by omega) (by decide) (by omega) (by omega))
  have hA := hR.1.1.1
  have hM6 := hA.2.2.1.2
  have hP8 := hA.2.2.2.2
  have en : eq37 (fun i => A (513 + k) (1 + i)) (C 494) := fun j hj => by
    have q := u5 (1 + j) (by omega)
    unfold src at q
    rw [(ce_1 hj).1, (ce_1 hj).2] at q
    dsimp only
    rw [f1 494 (by decide) (by omega), q]
  have eb : ∀ i, i < 16 → eq37 (fun p => A (513 + k) (38 + 37 * i + p)) (C (497 + i)) := fun i hi p hp => by
    have q := u5 (38 + 37 * i + p) (by omega)
    unfold src at q
    rw [(ce_2 (w := i) hp).1, (ce_2 (w := i) hp).2] at q
    dsimp only
    rw [f1 (497 + i) (by omega) (by omega), q]
  have h36 : C 0 36 = nI w := by
    have q := u5 0 (by decide)
    have q2 : src B 0 = B 0 36 := rfl
    rw [e0, ← q2, q]
    exact l1
  refine Rl_night hR (fun a h1 h2 => eC a (by omega) (by omega) (by omega) (by omega) (by omega)) (fun i h1 h2 h3 h4 => by rw [e0, u2 i h1 h2 h3 h4]) (fun a h1 h2 => eC a (by omega) (by omega) (by omega) (by omega) (by omega)) (fun i h1 h2 => by rw [e6, pk_un h2, pk_un h1]) (by rw [e6, pk_us, e0, u4]) (n := w) h36 ⟨h16, f3, ⟨?_, cg_Nt hC4.1 hC4.2.2 hM6 en l2.2.2.1.2⟩, fun i hi => ?_⟩ (k := k - 1) (by omega) (by rw [e0]; exact u3) (by rw [e6, pk_un (by decide), pk_us]) (fun i hi => ?_)
  · have h1 := f4 A _ hA (NtR_fr (fun a h1 h2 => u1 a (by omega) (by omega) (by omega)) (by have := l2.2.2.1.1; rw [show 637 + 70 * k + 1 = 638 + 70 * k by omega] at this; exact this))
    exact cg_NtR hC4.1 hC4.2.1 hC4.2.2 hM6 hP8 en (fun _ _ _ => rfl) h1
  · have q := l2.2.2.2 i hi
    dsimp only at q ⊢
    rw [show 637 + 70 * k + 6 + 4 * i = 643 + 70 * k + 4 * i by omega] at q
    have h1 := f5 i hi A _ hA (NtR_fr (fun a h1 h2 => u1 a (by omega) (by omega) (by omega)) q.1)
    rw [show 625 + 6 + 4 * i = 631 + 4 * i by omega]
    exact ⟨cg_NtR hC4.1 hC4.2.1 hC4.2.2 hM6 hP8 (eb i (by omega)) (fun _ _ _ => rfl) h1, cg_Nt hC4.1 hC4.2.2 hM6 (eb i (by omega)) q.2⟩
  · have q := hI.2.2.2 i (by omega)
    rw [eC (514 + i) (by omega) (by omega) (by omega) (by omega) (by omega)]
    exact ⟨q.1, cg_HsR hC4.1 hC4.2.1 hC4.2.2 hM6 hP8 (eq37_refl _) (fun _ _ => eq37_refl _) (fun a h1 h2 => eC a (by omega) (by omega) (by omega) (by omega) (by omega)) q.2⟩
section R25
variable {l : Launch} {g : mG} {d : Nat} {A : Mm}
theorem r_image {m : Mm} (hm : cl m = A) {k : Nat} (hk : A 0 38 = nI k) (h3 : k ≤ 3) (hd : 2 ≤ d) : mHi l g d k_X12_image [.ref 0] m (fun x m2 => (k = 3 → x = -1 ∧ Cn A m2) ∧ (k < 3 → x = nI (k + 1) ∧ m2 0 0 = 0 ∧ Im A k (cl m2))) := by
  refine nBi 0 rfl rfl rfl (by decide) rfl (fun htr o Φ hΦ => mGoOn (mOk (by decide)) rfl [] 400 ?_)
  show (¬ ((mset m 0 0 (0 : Int32)) 0 38) = (3 : Int32) → mReq (mInB ((mset m 0 0 (0 : Int32)) 0 38) 3) (True ∧ mCal l g d k_X12_image Φ 0 0 _ 26 k_X12_putsAll false [.ref 0, .ref (mRF 513 (((mset m 0 0 (0 : Int32)) 0 38).toNatClampNeg)), .int (0 : Int32)] [] [.ref 0] (mset m 0 0 (0 : Int32)) o 0 0 0)) ∧ (((mset m 0 0 (0 : Int32)) 0 38) = (3 : Int32) → Φ (.inl (some (.int (-1 : Int32)))) (mset m 0 0 (0 : Int32)) o ∧ 0 ≤ 0 ∧ 0 ≤ 0)
  have hC := Cn_0 hm
  generalize mset m 0 0 (0 : Int32) = M at hC ⊢
  have e38 : M 0 38 = nI k := by rw [clO hC.1 (by omega)]; exact hk
  rw [e38]
  refine ⟨fun z => ?_, fun z => eR (hΦ _ _ ⟨fun _ => ⟨rfl, hC⟩, fun q => absurd q ?_⟩)⟩
  · have hk3 : k < 3 := by
      rcases Nat.lt_or_eq_of_le h3 with q | q
      · exact q
      · exact absurd (by rw [q]; rfl) z
    rw [mIn_ok hk3 (by decide), nI_cl (by omega), rf_513]
    refine ⟨trivial, nCv htr (r_putsAll (x := 514 + k) (t := 0) (by omega) (by decide) (by omega)) (by omega) ?_⟩
    intro m2 hP
    show (Value.ref 0).category = 1 ∧ (Φ (.inl (some (.int ((mset m2 0 38 ((m2 0 38) + (1 : Int32))) 0 38)))) (mset m2 0 38 ((m2 0 38) + (1 : Int32))) o ∧ 0 ≤ 0 ∧ 0 ≤ 0)
    have e2 : m2 0 38 = nI k := by rw [PA0_all hP (by omega) (by omega)]; exact e38
    rw [e2, nI_1, mset_eq, pk_us]
    have hcl : ∀ a i, cl (mset m2 0 38 (nI (k + 1))) a i = bif sc a i then 0 else mset m2 0 38 (nI (k + 1)) a i := fun _ _ => rfl
    have hA : ∀ a i, A a i = bif sc a i then 0 else M a i := fun a i => by rw [← hC.1]; rfl
    refine ⟨rfl, eR (hΦ _ _ ⟨fun q => absurd q (by omega), fun _ => ⟨rfl, ?_, fun a h1 h2 => ?_, fun i h1 h2 => ?_, ?_, fun j hj => ?_⟩⟩)⟩
    · rw [mset_eq, pk_un (by decide), PA0_all hP (by omega) (by omega)]; exact hC.2
    · funext i
      rw [hcl, hA, mset_ne _ _ _ h1, PA0_all hP (fun q => h1 q.1) h2]
    · rw [hcl, hA, mset_eq, pk_un h1, PA0_all hP (fun q => h2 q.2) (by omega)]
    · rw [hcl, show sc 0 38 = false from rfl, cond_false, mset_eq, pk_us]
    · have hs : sc (514 + k) j = false := by
        rcases (show k = 0 ∨ k = 1 ∨ k = 2 by omega) with rfl | rfl | rfl <;> rfl
      rw [hcl, hs, cond_false, mset_ne _ _ _ (by omega), (hP.2.2.1 rfl).2 j hj, src_cl hC.1 hj]
  · rw [show (3 : Int32) = nI 3 from rfl, nI_eq (by omega) (by decide)] at z
    omega
theorem r_restore {m : Mm} (hm : cl m = A) {k : Nat} (hk : A 0 38 = nI k) (h3 : k ≤ 3) (hd : 2 ≤ d) : mHi l g d k_X12_restore [.ref 0] m (fun x m2 => (k = 0 → x = -1 ∧ Cn A m2) ∧ (k ≠ 0 → x = nI (k - 1) ∧ m2 0 0 = 0 ∧ Re A k (cl m2))) := by
  refine nBi 0 rfl rfl rfl (by decide) rfl (fun htr o Φ hΦ => mGoOn (mOk (by decide)) rfl [] 400 ?_)
  show (¬ ((mset m 0 0 (0 : Int32)) 0 38) = 0 → (Value.ref 0).category = 1 ∧ (mReq (mInB ((mset (mset m 0 0 (0 : Int32)) 0 38 (((mset m 0 0 (0 : Int32)) 0 38) - (1 : Int32))) 0 38) 3) (True ∧ mCal l g d k_X12_restore Φ 0 0 _ 35 k_X12_putsAll false [.ref 0, .ref (mRF 513 (((mset (mset m 0 0 (0 : Int32)) 0 38 (((mset m 0 0 (0 : Int32)) 0 38) - (1 : Int32))) 0 38).toNatClampNeg)), .int (1 : Int32)] [] [.ref 0] (mset (mset m 0 0 (0 : Int32)) 0 38 (((mset m 0 0 (0 : Int32)) 0 38) - (1 : Int32))) o 0 0 0))) ∧ (((mset m 0 0 (0 : Int32)) 0 38) = 0 → Φ (.inl (some (.int (-1 : Int32)))) (mset m 0 0 (0 : Int32)) o ∧ 0 ≤ 0 ∧ 0 ≤ 0)
  have hC := Cn_0 hm
  generalize mset m 0 0 (0 : Int32) = M at hC ⊢
  have e38 : M 0 38 = nI k := by rw [clO hC.1 (by omega)]; exact hk
  rw [e38]
  refine ⟨fun z => ?_, fun z => eR (hΦ _ _ ⟨fun _ => ⟨rfl, hC⟩, fun q => absurd ?_ q⟩)⟩
  · have hk0 : k ≠ 0 := fun e => z (by rw [e]; rfl)
    rw [nI_dec1 (by omega), mset_eq, pk_us, mIn_ok (show k - 1 < 3 by omega) (by decide), nI_cl (by omega), rf_513, show 514 + (k - 1) = 513 + k by omega]
    refine ⟨rfl, trivial, nCv htr (r_putsAll (x := 513 + k) (t := 1) (by omega) (by decide) (by omega)) (by omega) ?_⟩
    intro m2 hP
    show Φ (.inl (some (.int ((mset m2 0 37 (0 : Int32)) 0 38)))) (mset m2 0 37 (0 : Int32)) o ∧ 0 ≤ 0 ∧ 0 ≤ 0
    have hin : ∀ a i, (∀ j, j < 630 → ¬ (a = ce1 j ∧ i = ce2 j)) ∨ (a = 0 ∧ i = 36) ∨ a = 494 ∨ 497 ≤ a ∧ a ≤ 512 := fun a i => by
      by_cases z : ∃ j, j < 630 ∧ a = ce1 j ∧ i = ce2 j
      · obtain ⟨j, hj, e1, e2⟩ := z
        rcases ce_in hj with ⟨a1, a2, a3⟩ | ⟨a0, a1, a2, a3⟩ | ⟨a1, a2, a3⟩ <;> omega
      · exact Or.inl (fun j hj q => z ⟨j, hj, q⟩)
    have hcl : ∀ a i, cl (mset m2 0 37 (0 : Int32)) a i = bif sc a i then 0 else mset m2 0 37 (0 : Int32) a i := fun _ _ => rfl
    have hA : ∀ a i, A a i = bif sc a i then 0 else M a i := fun a i => by rw [← hC.1]; rfl
    have hP1 := hP.2.2.2 (by decide)
    have g0 : ∀ i, i ≠ 36 → i ≠ 39 → m2 0 i = mset M 0 38 (nI (k - 1)) 0 i := fun i h1 h2 => by
      rcases hin 0 i with q | q | q | q
      · exact hP.1 0 i q (by omega) (by omega)
      · omega
      · omega
      · omega
    have e2 : mset m2 0 37 (0 : Int32) 0 38 = nI (k - 1) := by rw [mset_eq, pk_un (by decide), g0 38 (by decide) (by decide), mset_eq, pk_us]
    rw [e2]
    refine eR (hΦ _ _ ⟨fun q => absurd q hk0, fun _ => ⟨rfl, ?_, fun a h1 h2 h4 => ?_, fun i h1 h2 h4 h5 => ?_, ?_, ?_, fun j hj => ?_⟩⟩)
    · rw [mset_eq, pk_un (by decide), g0 0 (by decide) (by decide), mset_eq, pk_un (by decide)]; exact hC.2
    · funext i
      rw [hcl, hA, mset_ne _ _ _ h1]
      have e : m2 a i = M a i := by
        by_cases ex : a = 513 + k
        · rw [ex, hP1.1, mset_ne _ _ _ (by omega)]
        · rcases hin a i with q | q | q | q
          · rw [hP.1 a i q (by omega) ex, mset_ne _ _ _ h1]
          · omega
          · omega
          · omega
      rw [e]
    · rw [hcl, hA, mset_eq, pk_un h2, g0 i h1 h5, mset_eq, pk_un h4]
    · rw [hcl, show sc 0 38 = false from rfl, cond_false, e2]
    · rw [hcl, show sc 0 37 = false from rfl, cond_false, mset_eq, pk_us]
    · have q := hP1.2 j hj
      have hs : sc (ce1 j) (ce2 j) = false ∧ ¬ (ce1 j = 0 ∧ ce2 j = 37) := by
        rcases ce_in hj with ⟨a1, a2, a3⟩ | ⟨a0, a1, a2, a3⟩ | ⟨a1, a2, a3⟩
        · rw [a2, a3]; exact ⟨rfl, by decide⟩
        · rw [a2, a3]; exact ⟨rfl, by omega⟩
        · rw [a2, a3]
          refine ⟨?_, by omega⟩
          have : ∀ c, c < 16 → ∀ i, i < 37 → sc (497 + c) i = false := by decide +kernel
          exact this _ (by omega) _ (Nat.mod_lt _ (by decide))
      show cl (mset m2 0 37 (0 : Int32)) (ce1 j) (ce2 j) = _
      rw [hcl, hs.1, cond_false, mset_at, if_neg hs.2]
      show src m2 j = _
      rw [q, mset_ne _ _ _ (by omega), clA hC.1 _ (by omega)]
  · rw [show (0 : Int32) = nI 0 from rfl, nI_eq (by omega) (by decide)] at z
    exact z
end R25
