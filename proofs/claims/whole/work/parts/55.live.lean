set_option maxRecDepth 100000
/-! YEARS, in the class -/
theorem xor_bits {P Q : Nat → Prop} {n k : Nat} (hn : n ≤ 32) (hk : k < n) (h : ∀ i, i < n → i ≠ k → (P i ↔ Q i)) (hk2 : P k ↔ ¬ Q k) : msk P n ^^^ jshl 1 (nI k) = msk Q n := by
  refine b_ext (fun i hi => ?_)
  rw [b_xor, bt_sh (by omega) hi]
  have h1 := bt_msk (P := P) hn i hi
  have h2 := bt_msk (P := Q) hn i hi
  by_cases e : i = k
  · subst e
    rw [decide_eq_true rfl]
    cases x : bt (msk P n) i <;> cases y : bt (msk Q n) i
    · exfalso
      have n1 : ¬ (i < n ∧ P i) := fun q => by rw [h1.mpr q] at x; cases x
      have n2 : ¬ (i < n ∧ Q i) := fun q => by rw [h2.mpr q] at y; cases y
      exact n1 ⟨hk, hk2.mpr (fun q => n2 ⟨hk, q⟩)⟩
    · rfl
    · rfl
    · exact absurd (h2.mp y).2 (hk2.mp (h1.mp x).2)
  · rw [decide_eq_false e]
    cases x : bt (msk P n) i <;> cases y : bt (msk Q n) i
    · rfl
    · have q := h2.mp y
      rw [h1.mpr ⟨q.1, (h i q.1 e).mpr q.2⟩] at x; cases x
    · have q := h1.mp x
      rw [h2.mpr ⟨q.1, (h i q.1 e).mp q.2⟩] at y; cases y
    · rfl
theorem ushr_15 (x : Int32) : jushr x 16 &&& 32767 = jshr x 16 &&& 32767 := by
  refine b_ext (fun i hi => ?_)
  rw [b_and, b_and]
  have e1 : bt (jushr x 16) i = bt x (16 + i) := b_ushr 16 (by decide) x i
  have e2 : bt (jshr x 16) i = if 16 + i < 32 then bt x (16 + i) else bt x 31 := b_sshr 16 (by decide) x hi
  rw [e1, e2]
  by_cases h : 16 + i < 32
  · rw [if_pos h]
  · have : bt 32767 i = false := (show ∀ i, i < 32 → ¬ 16 + i < 32 → bt 32767 i = false by decide +kernel) i hi h
    rw [this, Bool.and_false, Bool.and_false]
section X13
variable {l : Launch} {g : mG} {d : Nat} {A : Mm}
theorem x_beQuiet (m : Mm) {N : Nat} (hN : ntB N = true) (hd : 1 ≤ d) : mFu l g d k_X5_beQuiet [.ref N] m (mput (mset m N 3 0) (N + 3) (fil (m (N + 3)) 9 24)) := by
  have hn := nt_of hN
  refine nFu 0 rfl rfl rfl (by decide) rfl (fun htr o Φ hΦ => mGoOn (mOk (by decide)) rfl [] 400 ?_)
  show mReq (mIsB N 15) (mReq (mIsB N 15) (mCal l g d k_X5_beQuiet Φ 0 0 _ 11 k_J7_fill_53178 false [.ref (mRF N 6), .int (24 : Int32)] [] [.ref N] (mset m N 3 (0 : Int32)) o 0 0 0))
  rw [hn.2.2.2.1]
  refine mReq_i hn.1 (mReq_i hn.1 (fCv htr (j_fill _ hn.2.2.2.2.2.2.1 hn.2.2.2.2.2.2.2 (by decide) 24) hd ?_))
  rw [mset_ne m (a := N) (x := N + 3) _ _ (by omega)]
  exact eR hΦ
theorem x_passHour (hA : CtB A) {m : Mm} {N : Nat} (hN : ntB N = true) (hd : 2 ≤ d) {R : Nat → Int32} (hR : NtR A R m N) (hV : Nt A R) : mHv l g d k_X5_passHour [.ref N] m (fun m2 => eqN N m m2 ∧ NtR A (nHour R) m2 N) := by
  have hn := nt_of hN
  have h6 := hA.2.2.1.2
  have h8 := hA.2.2.2.2
  obtain ⟨h, hh, eh⟩ := hV.2.2.2.2.1
  refine nBv 0 rfl rfl rfl (by decide) rfl (fun htr o Φ hΦ => mGoOn (mOk (by decide)) rfl [] 400 ?_)
  show (Value.ref N).category = 1 ∧ (mReq (mIsB N 15) (mReq (mIsB N 15) (mReq (mIsB N 15) ((¬ ((mset m N 0 ((m N 0) + (1 : Int32))) N 0) = (24 : Int32) → Φ (.inl none) (mset m N 0 ((m N 0) + (1 : Int32))) o ∧ 0 ≤ 0 ∧ 0 ≤ 0) ∧ (((mset m N 0 ((m N 0) + (1 : Int32))) N 0) = (24 : Int32) → mReq (mIsB N 15) ((Value.ref N).category = 1 ∧ (mReq (mIsB N 15) (mReq (mIsB N 15) (mReq (mIsB N 15) True ∧ mCal l g d k_X5_passHour Φ 0 0 _ 35 k_X5_beQuiet false [.ref N] [] [.ref N] (mset (mset (mset m N 0 ((m N 0) + (1 : Int32))) N 0 (0 : Int32)) N 1 (((mset (mset m N 0 ((m N 0) + (1 : Int32))) N 0 (0 : Int32)) N 1) + (1 : Int32))) o 0 0 0)))))))))
  rw [hR.1]
  have e1 : mset m N 0 (R 35 + 1) N 0 = R 35 + 1 := by rw [mset_eq, pk_us]
  rw [e1]
  have hle : 24 ≤ R 35 + 1 ↔ R 35 + 1 = 24 := by
    rw [eh, nI_1, show (24 : Int32) = nI 24 from rfl, nI_leI (by decide) (by omega), nI_eq (by omega) (by decide)]
    omega
  unfold nHour at hΦ
  refine ⟨rfl, mReq_i hn.1 (mReq_i hn.1 (mReq_i hn.1 ⟨fun q => ?_, fun q => ?_⟩))⟩
  · rw [if_neg (fun z => q (hle.mp z))] at hΦ
    refine eR (hΦ _ ⟨eqN_set (eqN_refl _ _) (by omega) _ _, ?_, ?_, ?_, ?_, fun j hj => ?_, fun j hj => ?_, fun j hj hjS => ?_⟩)
    · rw [mset_eq, pk_us, pk_us]
    · rw [mset_eq, pk_un (by decide), pk_un (by decide)]; exact hR.2.1
    · rw [mset_eq, pk_un (by decide), hR.2.2.1]; exact msk_cong (fun j hj => by rw [pk_un (by omega)])
    · rw [mset_eq, pk_un (by decide), hR.2.2.2.1]; exact msk_cong (fun j hj => by rw [pk_un (by omega)])
    · rw [mset_ne _ _ _ (by omega), pk_un (by omega)]; exact hR.2.2.2.2.1 j hj
    · rw [mset_ne _ _ _ (by omega), pk_un (by omega)]; exact hR.2.2.2.2.2.1 j hj
    · rw [mset_ne _ _ _ (by omega), pk_un (by omega)]; exact hR.2.2.2.2.2.2 j hj hjS
  · rw [if_pos (hle.mpr q)] at hΦ
    refine mReq_i hn.1 ⟨rfl, mReq_i hn.1 (mReq_i hn.1 ⟨mReq_i hn.1 trivial, fCv htr (x_beQuiet _ hN (by omega)) (by omega) ?_⟩)⟩
    rw [mset_mset, mset_eq, pk_un (show (1 : Nat) ≠ 0 by decide), hR.2.1, mset_ne _ (a := N) (x := N + 3) _ _ (by omega), mset_ne _ (a := N) (x := N + 3) _ _ (by omega)]
    refine eR (hΦ _ ⟨eqN_put (eqN_set (eqN_set (eqN_set (eqN_refl _ _) (by omega) _ _) (by omega) _ _) (by omega) _ _) (by omega) _, ?_, ?_, ?_, ?_, fun j hj => ?_, fun j hj => ?_, fun j hj hjS => ?_⟩)
    · rw [mput_ne _ _ (by omega), mset_eq, pk_un (by decide), mset_eq, pk_un (by decide), mset_eq, pk_us]; rfl
    · rw [mput_ne _ _ (by omega), mset_eq, pk_un (by decide), mset_eq, pk_us]; rfl
    · rw [mput_ne _ _ (by omega), mset_eq, pk_un (by decide), mset_eq, pk_un (by decide), mset_eq, pk_un (by decide), hR.2.2.1]
      exact msk_cong (fun j hj => by
        show _ ↔ (if 12 + j = 35 then _ else if 12 + j = 36 then _ else if 18 ≤ 12 + j ∧ 12 + j < 27 then _ else if 27 ≤ 12 + j ∧ 12 + j < 35 then _ else R (12 + j)) = 0
        rw [if_neg (by omega), if_neg (by omega), if_neg (by omega), if_neg (by omega)])
    · rw [mput_ne _ _ (by omega), mset_eq, pk_us]
      refine hB_ext (fun i hi => ⟨fun z => absurd z (hB_0 _), fun z => ?_⟩)
      rw [hB_msk (by omega) hi] at z
      have z2 : (if 27 + i = 35 then 0 else if 27 + i = 36 then R 36 + 1 else if 18 ≤ 27 + i ∧ 27 + i < 27 then 24 else if 27 ≤ 27 + i ∧ 27 + i < 35 then 0 else R (27 + i)) = (1 : Int32) := z.2
      rw [if_neg (by omega), if_neg (by omega), if_neg (by omega), if_pos (by omega)] at z2
      exact absurd z2 (by decide)
    · rw [mput_ne _ _ (by omega), mset_ne _ _ _ (by omega), mset_ne _ _ _ (by omega), mset_ne _ _ _ (by omega), hR.2.2.2.2.1 j hj]
      show _ = (if j = 35 then _ else if j = 36 then _ else if 18 ≤ j ∧ j < 27 then _ else if 27 ≤ j ∧ j < 35 then _ else R j)
      rw [if_neg (by omega), if_neg (by omega), if_neg (by omega), if_neg (by omega)]
    · rw [mput_ne _ _ (by omega), mset_ne _ _ _ (by omega), mset_ne _ _ _ (by omega), mset_ne _ _ _ (by omega), hR.2.2.2.2.2.1 j hj]
      show _ = (if 6 + j = 35 then _ else if 6 + j = 36 then _ else if 18 ≤ 6 + j ∧ 6 + j < 27 then _ else if 27 ≤ 6 + j ∧ 6 + j < 35 then _ else R (6 + j))
      rw [if_neg (by omega), if_neg (by omega), if_neg (by omega), if_neg (by omega)]
    · rw [mput_eq]
      show (if j < 9 then 24 else _) = (if 18 + j = 35 then _ else if 18 + j = 36 then _ else if 18 ≤ 18 + j ∧ 18 + j < 27 then 24 else _)
      rw [if_pos hj, if_neg (by omega), if_neg (by omega), if_pos (by omega)]
theorem x_turnBed (hA : CtB A) {m : Mm} {N : Nat} (hN : ntB N = true) {R : Nat → Int32} (hR : NtR A R m N) (hV : Nt A R) {k : Nat} (hk : k < nM A) : mHv l g d k_X5_turnBed [.ref N, .int (nI k)] m (fun m2 => eqN N m m2 ∧ NtR A (bdF R k) m2 N) := by
  have hn := nt_of hN
  have h6 := hA.2.2.1.2
  have h8 := hA.2.2.2.2
  refine nBv 0 rfl rfl rfl (by decide) rfl (fun htr o Φ hΦ => mGoOn (mOk (by decide)) rfl [] 400 ?_)
  show (Value.ref N).category = 1 ∧ (mReq (mIsB N 15) (mReq (mIsB N 15) (Φ (.inl none) (mset m N 2 ((m N 2) ^^^ (jshl (1 : Int32) (nI k)))) o ∧ 0 ≤ 0 ∧ 0 ≤ 0)))
  refine ⟨rfl, mReq_i hn.1 (mReq_i hn.1 (eR (hΦ _ ⟨eqN_set (eqN_refl _ _) (by omega) _ _, ?_, ?_, ?_, ?_, fun j hj => ?_, fun j hj => ?_, fun j hj hjS => ?_⟩)))⟩
  · unfold bdF; rw [mset_eq, pk_un (by decide), pk_un (by omega)]; exact hR.1
  · unfold bdF; rw [mset_eq, pk_un (by decide), pk_un (by omega)]; exact hR.2.1
  · rw [mset_eq, pk_us, hR.2.2.1]
    refine xor_bits (by omega) hk (fun i hi hne => ?_) ?_
    · unfold bdF; rw [pk_un (by omega)]
    · unfold bdF; rw [pk_us]
      obtain ⟨b, hb, eb⟩ := hV.2.1 k (by omega)
      rw [eb]
      rcases (show b = 0 ∨ b = 1 by omega) with rfl | rfl <;> decide
  · unfold bdF; rw [mset_eq, pk_un (by decide), hR.2.2.2.1]; exact msk_cong (fun j hj => by rw [pk_un (by omega)])
  · unfold bdF; rw [mset_ne _ _ _ (by omega), pk_un (by omega)]; exact hR.2.2.2.2.1 j hj
  · unfold bdF; rw [mset_ne _ _ _ (by omega), pk_un (by omega)]; exact hR.2.2.2.2.2.1 j hj
  · unfold bdF; rw [mset_ne _ _ _ (by omega), pk_un (by omega)]; exact hR.2.2.2.2.2.2 j hj hjS
theorem x_ncopy {m : Mm} {N M : Nat} (hN : ntB N = true) (hM : ntB M = true) (hNM : N + 3 < M ∨ M + 3 < N) (hd : 2 ≤ d) : mHv l g d k_X5_copy [.ref N, .ref M] m (fun m2 => (∀ a, a < N ∨ N + 3 < a → m2 a = m a) ∧ ∀ A R, CtB A → NtR A R m M → NtR A R m2 N) := by
  have hn := nt_of hN
  have hn2 := nt_of hM
  refine nBv 0 rfl rfl rfl (by decide) rfl (fun htr o Φ hΦ => mGoOn (mOk (by decide)) rfl [] 400 ?_)
  show mReq (mIsB M 15) (mReq (mIsB N 15) (mReq (mIsB M 15) (mReq (mIsB N 15) (mReq (mIsB M 15) (mReq (mIsB N 15) (mReq (mIsB M 15) (mReq (mIsB N 15) (mReq (mIsB M 15) (mReq (mIsB N 15) (mCal l g d k_X5_copy Φ 0 0 _ 40 k_X11_copyRow true [.ref (mRF M 4), .ref (mRF N 4)] [] [.ref N, .ref M] (mset (mset (mset (mset m N 0 (m M 0)) N 1 ((mset m N 0 (m M 0)) M 1)) N 2 ((mset (mset m N 0 (m M 0)) N 1 ((mset m N 0 (m M 0)) M 1)) M 2)) N 3 ((mset (mset (mset m N 0 (m M 0)) N 1 ((mset m N 0 (m M 0)) M 1)) N 2 ((mset (mset m N 0 (m M 0)) N 1 ((mset m N 0 (m M 0)) M 1)) M 2)) M 3)) o 0 0 0))))))))))
  simp only [hn.2.1, hn.2.2.1, hn.2.2.2.1, hn2.2.1, hn2.2.2.1, hn2.2.2.2.1, hn.1, hn2.1, mReq_tt]
  have f0 : ∀ a, a ≠ N → (mset (mset (mset (mset m N 0 (m M 0)) N 1 ((mset m N 0 (m M 0)) M 1)) N 2 ((mset (mset m N 0 (m M 0)) N 1 ((mset m N 0 (m M 0)) M 1)) M 2)) N 3 ((mset (mset (mset m N 0 (m M 0)) N 1 ((mset m N 0 (m M 0)) M 1)) N 2 ((mset (mset m N 0 (m M 0)) N 1 ((mset m N 0 (m M 0)) M 1)) M 2)) M 3)) a = m a := fun a ha => by rw [mset_ne _ _ _ ha, mset_ne _ _ _ ha, mset_ne _ _ _ ha, mset_ne _ _ _ ha]
  have hMN : M ≠ N := by omega
  have f1 : ∀ j, j < 4 → (mset (mset (mset (mset m N 0 (m M 0)) N 1 ((mset m N 0 (m M 0)) M 1)) N 2 ((mset (mset m N 0 (m M 0)) N 1 ((mset m N 0 (m M 0)) M 1)) M 2)) N 3 ((mset (mset (mset m N 0 (m M 0)) N 1 ((mset m N 0 (m M 0)) M 1)) N 2 ((mset (mset m N 0 (m M 0)) N 1 ((mset m N 0 (m M 0)) M 1)) M 2)) M 3)) N j = m M j := fun j hj => by
    simp only [mset_eq, mset_ne _ _ _ hMN, upd_at]
    rcases (show j = 0 ∨ j = 1 ∨ j = 2 ∨ j = 3 by omega) with rfl | rfl | rfl | rfl <;> rfl
  generalize mset (mset (mset (mset m N 0 (m M 0)) N 1 ((mset m N 0 (m M 0)) M 1)) N 2 ((mset (mset m N 0 (m M 0)) N 1 ((mset m N 0 (m M 0)) M 1)) M 2)) N 3 ((mset (mset (mset m N 0 (m M 0)) N 1 ((mset m N 0 (m M 0)) M 1)) N 2 ((mset (mset m N 0 (m M 0)) N 1 ((mset m N 0 (m M 0)) M 1)) M 2)) M 3) = m1 at f0 f1 ⊢
  refine fCv htr (x_copyRow m1 (x := M + 1) (y := N + 1) (n := 6) hn2.2.2.2.2.1.1 hn2.2.2.2.2.1.2 hn.2.2.2.2.1.1 hn.2.2.2.2.1.2 (by decide) (by omega)) (by omega) ?_
  show mReq (mIsB M 15) (mReq (mIsB N 15) (mCal l g d k_X5_copy Φ 0 0 _ 51 k_X11_copyRow true [.ref (mRF M 5), .ref (mRF N 5)] [] [.ref N, .ref M] (mput m1 (N + 1) (cpf (m1 (M + 1)) (m1 (N + 1)) 6)) o 0 0 0))
  simp only [hn.2.1, hn.2.2.1, hn.2.2.2.1, hn2.2.1, hn2.2.2.1, hn2.2.2.2.1, hn.1, hn2.1, mReq_tt]
  have g0 : ∀ a, a ≠ N → a ≠ N + 1 → mput m1 (N + 1) (cpf (m1 (M + 1)) (m1 (N + 1)) 6) a = m a := fun a h1 h2 => by rw [mput_ne _ _ h2]; exact f0 a h1
  have g1 : ∀ j, j < 4 → mput m1 (N + 1) (cpf (m1 (M + 1)) (m1 (N + 1)) 6) N j = m M j := fun j hj => by rw [mput_ne _ _ (by omega)]; exact f1 j hj
  have g2 : ∀ j, j < 6 → mput m1 (N + 1) (cpf (m1 (M + 1)) (m1 (N + 1)) 6) (N + 1) j = m (M + 1) j := fun j hj => by
    rw [mput_eq]; unfold cpf; rw [if_pos hj, f0 _ (by omega)]
  generalize mput m1 (N + 1) (cpf (m1 (M + 1)) (m1 (N + 1)) 6) = m2 at g0 g1 g2 ⊢
  refine fCv htr (x_copyRow m2 (x := M + 2) (y := N + 2) (n := 6) hn2.2.2.2.2.2.1.1 hn2.2.2.2.2.2.1.2 hn.2.2.2.2.2.1.1 hn.2.2.2.2.2.1.2 (by decide) (by omega)) (by omega) ?_
  show mReq (mIsB M 15) (mReq (mIsB N 15) (mCal l g d k_X5_copy Φ 0 0 _ 62 k_X11_copyRow true [.ref (mRF M 6), .ref (mRF N 6)] [] [.ref N, .ref M] (mput m2 (N + 2) (cpf (m2 (M + 2)) (m2 (N + 2)) 6)) o 0 0 0))
  simp only [hn.2.1, hn.2.2.1, hn.2.2.2.1, hn2.2.1, hn2.2.2.1, hn2.2.2.2.1, hn.1, hn2.1, mReq_tt]
  have i0 : ∀ a, a ≠ N → a ≠ N + 1 → a ≠ N + 2 → mput m2 (N + 2) (cpf (m2 (M + 2)) (m2 (N + 2)) 6) a = m a := fun a h1 h2 h3 => by rw [mput_ne _ _ h3]; exact g0 a h1 h2
  have i1 : ∀ j, j < 4 → mput m2 (N + 2) (cpf (m2 (M + 2)) (m2 (N + 2)) 6) N j = m M j := fun j hj => by rw [mput_ne _ _ (by omega)]; exact g1 j hj
  have i2 : ∀ j, j < 6 → mput m2 (N + 2) (cpf (m2 (M + 2)) (m2 (N + 2)) 6) (N + 1) j = m (M + 1) j := fun j hj => by rw [mput_ne _ _ (by omega)]; exact g2 j hj
  have i3 : ∀ j, j < 6 → mput m2 (N + 2) (cpf (m2 (M + 2)) (m2 (N + 2)) 6) (N + 2) j = m (M + 2) j := fun j hj => by
    rw [mput_eq]; unfold cpf; rw [if_pos hj, g0 _ (by omega) (by omega)]
  generalize mput m2 (N + 2) (cpf (m2 (M + 2)) (m2 (N + 2)) 6) = m3 at i0 i1 i2 i3 ⊢
  refine fCv htr (x_copyRow m3 (x := M + 3) (y := N + 3) (n := 9) hn2.2.2.2.2.2.2.1 hn2.2.2.2.2.2.2.2 hn.2.2.2.2.2.2.1 hn.2.2.2.2.2.2.2 (by decide) (by omega)) (by omega) ?_
  refine eR (hΦ _ ⟨fun a ha => ?_, fun A R hA hR => ?_⟩)
  · rw [mput_ne _ _ (by omega)]; exact i0 a (by omega) (by omega) (by omega)
  · have h6 := hA.2.2.1.2
    refine ⟨?_, ?_, ?_, ?_, fun j hj => ?_, fun j hj => ?_, fun j hj hjS => ?_⟩
    · rw [mput_ne _ _ (by omega), i1 0 (by decide)]; exact hR.1
    · rw [mput_ne _ _ (by omega), i1 1 (by decide)]; exact hR.2.1
    · rw [mput_ne _ _ (by omega), i1 2 (by decide)]; exact hR.2.2.1
    · rw [mput_ne _ _ (by omega), i1 3 (by decide)]; exact hR.2.2.2.1
    · rw [mput_ne _ _ (by omega), i2 j (by omega)]; exact hR.2.2.2.2.1 j hj
    · rw [mput_ne _ _ (by omega), i3 j (by omega)]; exact hR.2.2.2.2.2.1 j hj
    · rw [mput_eq]; unfold cpf; rw [if_pos hj, i0 _ (by omega) (by omega) (by omega)]; exact hR.2.2.2.2.2.2 j hj hjS
theorem x_draw (m : Mm) {n : Nat} (h0 : 0 < n) (hn : n < 2 ^ 31) : mFi l g d k_X10_draw [.ref 701, .int (nI n)] m (drv (dr (m 701 3)) (nI n)) (mset m 701 3 (dr (m 701 3))) := by
  refine nFi 1 rfl rfl rfl (by decide) rfl (fun htr o Φ hΦ => mGoOn (mOk (by decide)) rfl [] 400 ?_)
  show ((nI n) ≤ 0 → Φ (.inl (some (.int (0 : Int32)))) (mset m 701 3 (((m 701 3) * (1103515245 : Int32)) + (12345 : Int32))) o ∧ 0 ≤ 0 ∧ 0 ≤ 0) ∧ (¬ (nI n) ≤ 0 → ¬ (nI n) = 0 ∧ (Φ (.inl (some (.int (jrem ((jushr ((mset m 701 3 (((m 701 3) * (1103515245 : Int32)) + (12345 : Int32))) 701 3) (16 : Int32)) &&& (32767 : Int32)) (nI n))))) (mset m 701 3 (((m 701 3) * (1103515245 : Int32)) + (12345 : Int32))) o ∧ 0 ≤ 0 ∧ 0 ≤ 0))
  rw [mset_eq, pk_us]
  refine ⟨fun q => absurd q (nI_nle h0 hn), fun q => ⟨nI_ne0 h0 hn, ?_⟩⟩
  unfold drv at hΦ
  rw [← ushr_15] at hΦ
  exact eR hΦ
/-- newly awake -/
theorem awk_bits {A : Mm} (hA : CtB A) {R R' : Nat → Int32} (hR : ∀ p, p < nP A → In (R (27 + p)) 2) (hm : ∀ p, p < nP A → R (27 + p) = 1 → R' (27 + p) = 1) : ∃ n, n < 512 ∧ msk (fun p => R' (27 + p) = 1) (nP A) &&& (msk (fun p => R (27 + p) = 1) (nP A) ^^^ (-1)) = nI n ∧ one24 (nI n) = cnt (fun p => R' (27 + p) = 1 ∧ R (27 + p) = 0) (nP A) := by
  have h8 := hA.2.2.2.2
  have hb : ∀ i, i < 32 → (hB (msk (fun p => R' (27 + p) = 1) (nP A) &&& (msk (fun p => R (27 + p) = 1) (nP A) ^^^ (-1))) i ↔ i < nP A ∧ (R' (27 + i) = 1 ∧ R (27 + i) = 0)) := by
    intro i hi
    rw [hB_and, hB_msk (by omega) hi, hB_not _ hi, hB_msk (by omega) hi]
    constructor
    · rintro ⟨⟨a, b⟩, c⟩
      obtain ⟨z, hz, ez⟩ := hR i a
      refine ⟨a, b, ?_⟩
      rcases (show z = 0 ∨ z = 1 by omega) with rfl | rfl
      · exact ez
      · exact absurd ⟨a, ez⟩ c
    · rintro ⟨a, b, c⟩
      refine ⟨⟨a, b⟩, fun q => ?_⟩
      have := q.2
      rw [c] at this
      exact absurd this (by decide)
  obtain ⟨n, hn, e⟩ := small9 (x := msk (fun p => R' (27 + p) = 1) (nP A) &&& (msk (fun p => R (27 + p) = 1) (nP A) ^^^ (-1))) (fun i h1 h2 q => by
    have := ((hb i h2).mp q).1
    omega)
  refine ⟨n, hn, e, ?_⟩
  rw [← e]
  exact one24_of (by omega) (fun i hi => hb i (by omega))
/-- what a walk that was done wakes -/
theorem nWalk_w {A : Mm} (hA : CtB A) {R : Nat → Int32} (hR : Nt A R) {k s : Nat} (hk : k < nM A) (hs : s < nS A) (w : Int32) (h : ¬ (R (12 + k) = 1 ∨ ¬ Ln A (R k) (nI s))) (hup : R (12 + k) = 0) : (nWalk A R k s w).1 = 1 ∧ (nWalk A R k s w).2.2 = w + nI (cnt (fun p => (nWalk A R k s w).2.1 (27 + p) = 1 ∧ R (27 + p) = 0) (nP A)) ∧ (∀ p, p < nP A → R (27 + p) = 1 → (nWalk A R k s w).2.1 (27 + p) = 1) ∧ nWalk A R k s w = nCall A (upd R k (nI s)) k w := by
  have h6 := hA.2.2.1.2
  have h9 := hA.1.2
  have h8 := hA.2.2.2.2
  have e0 : nWalk A R k s w = nCall A (upd R k (nI s)) k w := ifp_f h
  have hup2 : upd R k (nI s) (12 + k) = 0 := by rw [pk_un (by omega)]; exact hup
  rw [e0, nCall_up w hup2]
  have hsn : (upd R k (nI s) k).toNatClampNeg = s := by rw [pk_us, nI_cl (by omega)]
  have hcr : ∀ p, p < nP A → coR A (upd R k (nI s)) k (27 + p) = R (27 + p) := fun p hp => by
    rw [coR_at, if_neg (by omega), hsn, if_neg (by omega), pk_un (by omega)]
  unfold coS
  rw [hsn]
  generalize coC A (upd R k (nI s)) k = c
  refine ⟨rfl, ?_, ?_, rfl⟩
  · show (fo (stC A s c) (nP A) (coR A (upd R k (nI s)) k, w)).2 = w + nI (cnt (fun p => (fo (stC A s c) (nP A) (coR A (upd R k (nI s)) k, w)).1 (27 + p) = 1 ∧ R (27 + p) = 0) (nP A))
    rw [coS_w A s c _ w (N := nP A) (fun p hp => by rw [hcr p hp]; exact hR.2.2.2.1 p (by omega)) (nP A) (Nat.le_refl _)]
    congr 2
    refine cnt_cong (fun p hp => ?_)
    rw [hcr p hp, coS_at, hcr p hp]
    constructor
    · rintro ⟨a, b⟩
      exact ⟨by rw [ifp_t ⟨by omega, by omega, by rw [show 27 + p - 27 = p by omega]; exact a⟩], b⟩
    · rintro ⟨a, b⟩
      by_cases z : 27 ≤ 27 + p ∧ 27 + p < 27 + nP A ∧ mtc A s c (27 + p - 27)
      · exact ⟨by have := z.2.2; rwa [show 27 + p - 27 = p by omega] at this, b⟩
      · rw [ifp_f z, b] at a; exact absurd a (by decide)
  · intro p hp h1
    show (fo (stC A s c) (nP A) (coR A (upd R k (nI s)) k, w)).1 (27 + p) = 1
    rw [coS_at, hcr p hp]
    by_cases z : 27 ≤ 27 + p ∧ 27 + p < 27 + nP A ∧ mtc A s c (27 + p - 27)
    · rw [ifp_t z]
    · rw [ifp_f z]; exact h1
end X13
