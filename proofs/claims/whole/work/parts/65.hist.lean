set_option maxRecDepth 100000
/-! HISTORIES, in the class -/
def isH (h : Nat) : Prop := h = 625 ∨ h = 707 ∨ h = 777 ∨ h = 847
theorem hs_of {h : Nat} (hh : isH h) : mIsB h 13 = true ∧ mRF h 0 = h + 1 ∧ mRF h 1 = h + 5 ∧ ntB (h + 1) = true ∧ (mArrB (h + 5) = true ∧ mRowB (h + 5) = true ∧ mLn (h + 5) = 16) ∧ ∀ i, i < 16 → mRF (h + 5) i = h + 6 + 4 * i ∧ ntB (h + 6 + 4 * i) = true := by
  rcases hh with rfl | rfl | rfl | rfl <;> decide +kernel
/-- nothing stored, as a step -/
theorem ms_anull_n {l : Launch} {g : mG} {d k : Nat} {Φ : mR → Mm → Int64 → Prop} {MC MS : Nat} {pc a b c : Nat} {ts : List Nat} {i : Fin 4} (hk : mChk k = true) (he : mFind (mCd k) pc = some (.astore_n i, 1, a, b, c, ts)) {L S : List Value} {m : Mm} {o : Int64} {cN sN : Nat}
    (kk : mWB l g d k Φ MC MS (pc + 1) (mSto L i .null) S m o cN sN) : mWB l g d k Φ MC MS pc L (.null :: S) m o cN sN := by
  intro p ev s mi args below meth cd H locs ls C hP hS hL
  obtain ⟨hx, hb, hml, hr, hlk, hown, hts, htab, htr, hW, hB⟩ := id C
  obtain ⟨hd, -, hp⟩ := mDec hk he
  exact lv_astore_nN hx hb hd rfl hL (of_decide_eq_true hp) rfl (fun ls1 hl1 => kk p ev s mi args below meth cd H locs ls1 C hP hS (mSto_has (v := .null) hl1))
section X19
variable {l : Launch} {g : mG} {d : Nat}
theorem x_nb (m : Mm) {h i : Nat} (hh : isH h) (hi : i < 16) : mFr l g d k_X3_nightBefore [.ref h, .int (nI i)] m (.ref (h + 6 + 4 * i)) := by
  have hs := hs_of hh
  refine nFr 0 rfl rfl rfl (by decide) rfl (Or.inl ⟨_, rfl⟩) (fun htr o Φ hΦ => mGoOn (mOk (by decide)) rfl [] 400 ?_)
  show ((nI i) < 0 → Φ (.inl (some (.null))) m o ∧ 0 ≤ 0 ∧ 0 ≤ 0) ∧ (¬ (nI i) < 0 → mReq (mIsB h 13) (mReq (mArrB (mRF h 1)) (((Int32.ofNat (mLn (mRF h 1))) ≤ (nI i) → Φ (.inl (some (.null))) m o ∧ 0 ≤ 0 ∧ 0 ≤ 0) ∧ (¬ (Int32.ofNat (mLn (mRF h 1))) ≤ (nI i) → mReq (mIsB h 13) (mReq (mRowB (mRF h 1)) (mReq (mInB (nI i) (mLn (mRF h 1))) (Φ (.inl (some (.ref (mRF (mRF h 1) ((nI i).toNatClampNeg))))) m o ∧ 0 ≤ 0 ∧ 0 ≤ 0)))))))
  rw [hs.2.2.1, hs.1, hs.2.2.2.2.1.1, hs.2.2.2.2.1.2.1, hs.2.2.2.2.1.2.2, mIn_ok hi (by decide), nI_cl (by omega), (hs.2.2.2.2.2 i hi).1]
  refine ⟨fun z => absurd z (nI_pos (by omega)), fun _ => ⟨fun z => absurd z ?_, fun _ => eR hΦ⟩⟩
  show ¬ nI 16 ≤ nI i
  rw [nI_leI (by decide) (by omega)]; omega
theorem x_nb0 (m : Mm) {h : Nat} (hh : isH h) {x : Int32} (hx : x < 0 ∨ nI 16 ≤ x) : mFr l g d k_X3_nightBefore [.ref h, .int x] m .null := by
  have hs := hs_of hh
  refine nFr 0 rfl rfl rfl (by decide) rfl (Or.inr rfl) (fun htr o Φ hΦ => mGoOn (mOk (by decide)) rfl [] 400 ?_)
  show (x < 0 → Φ (.inl (some (.null))) m o ∧ 0 ≤ 0 ∧ 0 ≤ 0) ∧ (¬ x < 0 → mReq (mIsB h 13) (mReq (mArrB (mRF h 1)) (((Int32.ofNat (mLn (mRF h 1))) ≤ x → Φ (.inl (some (.null))) m o ∧ 0 ≤ 0 ∧ 0 ≤ 0) ∧ (¬ (Int32.ofNat (mLn (mRF h 1))) ≤ x → mReq (mIsB h 13) (mReq (mRowB (mRF h 1)) (mReq (mInB x (mLn (mRF h 1))) (Φ (.inl (some (.ref (mRF (mRF h 1) x.toNatClampNeg)))) m o ∧ 0 ≤ 0 ∧ 0 ≤ 0)))))))
  rw [hs.2.2.1, hs.1, hs.2.2.2.2.1.1, hs.2.2.2.2.1.2.1, hs.2.2.2.2.1.2.2]
  refine ⟨fun z => eR hΦ, fun z => ⟨fun _ => eR hΦ, fun y => ?_⟩⟩
  exact absurd (hx.resolve_left z) y
/-- the nights of m from N on lie in m2 from K on -/
def ncp (m m2 : Mm) (N K : Nat) : Prop := ∀ A R, CtB A → NtR A R m N → NtR A R m2 K
theorem ncp_fr {m m2 m0 m3 : Mm} {N K : Nat} (h : ncp m m2 N K) (h1 : ∀ a, N ≤ a → a ≤ N + 3 → m0 a = m a) (h2 : ∀ a, K ≤ a → a ≤ K + 3 → m3 a = m2 a) : ncp m0 m3 N K := fun A R hA hR => NtR_fr h2 (h A R hA (NtR_fr (fun a x y => (h1 a x y).symm) hR))
theorem x_hcopy {m : Mm} {h k n : Nat} (hh : isH h) (hk : isH k) (hhk : h ≠ k) (hn : n ≤ 16) (hw : m k 2 = nI n) (hd : 4 ≤ d) : mHv l g d k_X3_copy [.ref h, .ref k] m (fun m2 => (∀ a, a < h ∨ h + 69 < a → m2 a = m a) ∧ m2 h 2 = nI n ∧ ncp m m2 (k + 1) (h + 1) ∧ ∀ i, i < n → ncp m m2 (k + 6 + 4 * i) (h + 6 + 4 * i)) := by
  have hs := hs_of hh
  have ks := hs_of hk
  have far : h + 69 < k ∨ k + 69 < h := by
    unfold isH at hh hk
    omega
  refine nBv 3 rfl rfl rfl (by decide) rfl (fun htr o Φ hΦ => mGoOn (mOk (by decide)) rfl [21,57] 400 ?_)
  show mReq (mIsB h 13) (mReq (mIsB k 13) (mReq (mIsB (mRF h 0) 15) True ∧ mCal l g d k_X3_copy Φ 0 0 _ 8 k_X5_copy false [.ref (mRF h 0), .ref (mRF k 0)] [] [.ref h, .ref k, mJ, mJ, mJ] m o 0 0 0))
  rw [hs.1, ks.1, hs.2.1, ks.2.1, (nt_of hs.2.2.2.1).1]
  refine ⟨trivial, nCv htr (x_ncopy (N := h + 1) (M := k + 1) hs.2.2.2.1 ks.2.2.2.1 (by omega) (by omega)) (by omega) ?_⟩
  intro m1 ⟨f1, f2⟩
  show mReq (mIsB k 13) (mReq (mIsB h 13) (mWB l g d k_X3_copy Φ 0 0 21 [.ref h, .ref k, .int (0 : Int32), mJ, mJ] [] (mset m1 h 2 (m1 k 2)) o 0 0))
  rw [hs.1, ks.1]
  have e1 : m1 k 2 = nI n := by rw [f1 k (by omega)]; exact hw
  rw [e1]
  show mWB l g d k_X3_copy Φ 0 0 21 [.ref h, .ref k, .int (nI 0), mJ, mJ] [] (mset m1 h 2 (nI n)) o 0 0
  refine mLoopZ (P := fun i => ∀ m2, ((∀ a, a < h ∨ h + 69 < a → m2 a = m a) ∧ m2 h 2 = nI n ∧ ncp m m2 (k + 1) (h + 1) ∧ ∀ j, j < i → ncp m m2 (k + 6 + 4 * j) (h + 6 + 4 * j)) → mWB l g d k_X3_copy Φ 0 0 21 [.ref h, .ref k, .int (nI i), mJ, mJ] [] m2 o 0 0) (N := n) ?_ ?_ _ ⟨fun a ha => ?_, ?_, ?_, fun j hj => absurd hj (by omega)⟩
  · intro m2 h2
    refine mGoOn (mOk (by decide)) rfl [21,57] 400 ?_
    show mReq (mIsB h 13) (((m2 h 2) ≤ (nI n) → Φ (.inl none) m2 o ∧ 0 ≤ 0 ∧ 0 ≤ 0) ∧ (¬ (m2 h 2) ≤ (nI n) → mReq (mIsB h 13) True ∧ mCal l g d k_X3_copy Φ 0 0 _ 31 k_X3_nightBefore false [.ref h, .int (nI n)] [] [.ref h, .ref k, .int (nI n), mJ, mJ] m2 o 0 0 3))
    rw [hs.1, h2.2.1]
    exact ⟨fun _ => eR (hΦ _ h2), fun z => absurd (Int32.le_refl _) z⟩
  · intro i hi ih m2 h2
    refine mGoOn (mOk (by decide)) rfl [21,57] 400 ?_
    show mReq (mIsB h 13) (((m2 h 2) ≤ (nI i) → Φ (.inl none) m2 o ∧ 0 ≤ 0 ∧ 0 ≤ 0) ∧ (¬ (m2 h 2) ≤ (nI i) → mReq (mIsB h 13) True ∧ mCal l g d k_X3_copy Φ 0 0 _ 31 k_X3_nightBefore false [.ref h, .int (nI i)] [] [.ref h, .ref k, .int (nI i), mJ, mJ] m2 o 0 0 3))
    rw [hs.1, h2.2.1]
    refine ⟨fun z => absurd z (by rw [nI_leI (by omega) (by omega)]; omega), fun _ => ⟨trivial, gCr htr (x_nb m2 hh (i := i) (by omega)) (by omega) ?_⟩⟩
    show mReq (mIsB k 13) True ∧ mCal l g d k_X3_copy Φ 0 0 _ 37 k_X3_nightBefore false [.ref k, .int (nI i)] [] [.ref h, .ref k, .int (nI i), .ref (h + 6 + 4 * i), mJ] m2 o 0 0 3
    rw [ks.1]
    refine ⟨trivial, gCr htr (x_nb m2 hk (i := i) (by omega)) (by omega) ?_⟩
    show mReq (mIsB (h + 6 + 4 * i) 15) True ∧ mCal l g d k_X3_copy Φ 0 0 _ 54 k_X5_copy false [.ref (h + 6 + 4 * i), .ref (k + 6 + 4 * i)] [] [.ref h, .ref k, .int (nI i), .ref (h + 6 + 4 * i), .ref (k + 6 + 4 * i)] m2 o 0 0 0
    have hn1 := (hs.2.2.2.2.2 i (by omega)).2
    have hn2 := (ks.2.2.2.2.2 i (by omega)).2
    rw [(nt_of hn1).1]
    refine ⟨trivial, nCv htr (x_ncopy hn1 hn2 (by omega) (by omega)) (by omega) ?_⟩
    intro m3 ⟨g1, g2⟩
    refine mGoOn (mOk (by decide)) rfl [21] 400 ?_
    show mWB l g d k_X3_copy Φ 0 0 21 [.ref h, .ref k, .int ((nI i) + (1 : Int32)), .ref (h + 6 + 4 * i), .ref (k + 6 + 4 * i)] [] m3 o 0 0
    rw [nI_1]
    refine mWB_wk (ih m3 ⟨fun a ha => ?_, ?_, ?_, fun j hj => ?_⟩) ⟨Or.inr rfl, Or.inr rfl, Or.inr rfl, Or.inl rfl, Or.inl rfl, trivial⟩
    · rw [g1 a (by omega)]; exact h2.1 a ha
    · rw [g1 h (by omega)]; exact h2.2.1
    · exact ncp_fr h2.2.2.1 (fun a _ _ => rfl) (fun a x y => g1 a (by omega))
    · by_cases e : j = i
      · subst e
        exact fun A R hA hR => g2 A R hA (NtR_fr (fun a x y => h2.1 a (by omega)) hR)
      · exact ncp_fr (h2.2.2.2 j (by omega)) (fun a _ _ => rfl) (fun a x y => g1 a (by omega))
  · rw [mset_ne _ _ _ (by omega)]; exact f1 a (by omega)
  · rw [mset_eq, pk_us]
  · exact ncp_fr f2 (fun a _ _ => rfl) (fun a x y => mset_ne _ _ _ (by omega))
theorem x_goBack {m : Mm} {w : Nat} (hw : m 625 2 = nI w) (h16 : w ≤ 16) (hd : 4 ≤ d) : mHi l g d k_X3_goBack [.ref 625] m (fun x m2 => (w = 0 → x = 0 ∧ m2 = m) ∧ (w ≠ 0 → x = 1 ∧ (∀ a, a < 625 ∨ 629 < a → m2 a = m a) ∧ m2 625 2 = nI (w - 1) ∧ ncp m m2 (627 + 4 * w) 626)) := by
  have hh : isH 625 := Or.inl rfl
  have hs := hs_of hh
  refine nBi 1 rfl rfl rfl (by decide) rfl (fun htr o Φ hΦ => mGoOn (mOk (by decide)) rfl [10] 400 ?_)
  show True ∧ mCal l g d k_X3_goBack Φ 0 0 _ 7 k_X3_nightBefore false [.ref 625, .int ((m 625 2) - (1 : Int32))] [] [.ref 625, mJ] m o 0 0 3
  rw [hw]
  by_cases z : w = 0
  · subst z
    refine ⟨trivial, gCr htr (x_nb0 m hh (Or.inl nI_0m)) (by omega) ?_⟩
    refine ms_anull_n (mOk (by decide)) rfl ?_
    refine mGoOn (mOk (by decide)) rfl [] 400 ?_
    show ((0 : Int32) = 0 ∨ (0 : Int32) = 1) ∧ Φ (.inl (some (.int (0 : Int32)))) m o ∧ 0 ≤ 0 ∧ 0 ≤ 0
    exact ⟨Or.inl rfl, eR (hΦ _ _ ⟨fun _ => ⟨rfl, rfl⟩, fun q => absurd rfl q⟩)⟩
  · rw [nI_dec1 (by omega)]
    refine ⟨trivial, gCr htr (x_nb m hh (i := w - 1) (by omega)) (by omega) ?_⟩
    have e : 625 + 6 + 4 * (w - 1) = 627 + 4 * w := by omega
    rw [e]
    refine mGoOn (mOk (by decide)) rfl [] 400 ?_
    show True ∧ mCal l g d k_X3_goBack Φ 0 0 _ 22 k_X5_copy false [.ref 626, .ref (627 + 4 * w)] [] [.ref 625, .ref (627 + 4 * w)] m o 0 0 0
    have hn2 := (hs.2.2.2.2.2 (w - 1) (by omega)).2
    rw [e] at hn2
    refine ⟨trivial, nCv htr (x_ncopy (N := 626) rfl hn2 (by omega) (by omega)) (by omega) ?_⟩
    intro m2 ⟨g1, g2⟩
    show (Value.ref 625).category = 1 ∧ (((1 : Int32) = 0 ∨ (1 : Int32) = 1) ∧ Φ (.inl (some (.int (1 : Int32)))) (mset m2 625 2 ((m2 625 2) - (1 : Int32))) o ∧ 0 ≤ 0 ∧ 0 ≤ 0)
    have e2 : m2 625 2 = nI w := by rw [g1 625 (by omega)]; exact hw
    rw [e2, nI_dec1 (by omega)]
    refine ⟨rfl, Or.inr rfl, eR (hΦ _ _ ⟨fun q => absurd q z, fun _ => ⟨rfl, fun a ha => ?_, ?_, ?_⟩⟩)⟩
    · rw [mset_ne _ _ _ (by omega)]; exact g1 a (by omega)
    · rw [mset_eq, pk_us]
    · exact ncp_fr g2 (fun a _ _ => rfl) (fun a x y => mset_ne _ _ _ (by omega))
theorem x_undo {m : Mm} {w : Nat} (hw : m 625 2 = nI w) (h16 : w ≤ 16) (hd : 5 ≤ d) : mHi l g d k_X11_undo [.ref 586] m (fun x m2 => (w = 0 → x = -1 ∧ m2 = m) ∧ (w ≠ 0 → x = nI (w - 1) ∧ (∀ a, a ≠ 586 → a < 625 ∨ 629 < a → m2 a = m a) ∧ m2 586 = upd (m 586) 14 0 ∧ m2 625 2 = nI (w - 1) ∧ ncp m m2 (627 + 4 * w) 626)) := by
  refine nBi 0 rfl rfl rfl (by decide) rfl (fun htr o Φ hΦ => mGoOn (mOk (by decide)) rfl [] 400 ?_)
  show True ∧ mCal l g d k_X11_undo Φ 0 0 _ 4 k_X3_goBack false [.ref 625] [] [.ref 586] m o 0 0 1
  refine ⟨trivial, nCi htr (x_goBack hw h16 (by omega)) (by omega) ?_⟩
  intro x m2 ⟨h1, h2⟩
  show (¬ x = 0 → Φ (.inl (some (.int ((mset m2 586 14 (0 : Int32)) 625 2)))) (mset m2 586 14 (0 : Int32)) o ∧ 0 ≤ 0 ∧ 0 ≤ 0) ∧ (x = 0 → Φ (.inl (some (.int (-1 : Int32)))) m2 o ∧ 0 ≤ 0 ∧ 0 ≤ 0)
  by_cases z : w = 0
  · obtain ⟨rfl, rfl⟩ := h1 z
    exact br0a (eR (hΦ _ _ ⟨fun _ => ⟨rfl, rfl⟩, fun q => absurd z q⟩))
  · obtain ⟨rfl, f1, f2, f3⟩ := h2 z
    rw [mset_ne m2 (a := 586) (x := 625) _ _ (by decide), f2]
    refine br1a (eR (hΦ _ _ ⟨fun q => absurd q z, fun _ => ⟨rfl, fun a h1 h2 => ?_, ?_, ?_, ?_⟩⟩))
    · rw [mset_ne _ _ _ h1]; exact f1 a h2
    · rw [mset_eq, f1 586 (by omega)]
    · rw [mset_ne _ _ _ (by decide)]; exact f2
    · exact ncp_fr f3 (fun a _ _ => rfl) (fun a x y => mset_ne _ _ _ (by omega))
theorem im_all : ∀ i, i < 3 → mRF 695 i = 707 + 70 * i ∧ isH (707 + 70 * i) := by
  intro i hi
  rcases (show i = 0 ∨ i = 1 ∨ i = 2 by omega) with rfl | rfl | rfl
  · exact ⟨rfl, Or.inr (Or.inl rfl)⟩
  · exact ⟨rfl, Or.inr (Or.inr (Or.inl rfl))⟩
  · exact ⟨rfl, Or.inr (Or.inr (Or.inr rfl))⟩
theorem x_imageAt (m : Mm) {i : Nat} (hi : i < 3) : mFr l g d k_X11_imageAt [.ref 586, .int (nI i)] m (.ref (707 + 70 * i)) := by
  refine nFr 0 rfl rfl rfl (by decide) rfl (Or.inl ⟨_, rfl⟩) (fun htr o Φ hΦ => mGoOn (mOk (by decide)) rfl [] 400 ?_)
  show ((nI i) < 0 → Φ (.inl (some (.null))) m o ∧ 0 ≤ 0 ∧ 0 ≤ 0) ∧ (¬ (nI i) < 0 → ((3 : Int32) ≤ (nI i) → Φ (.inl (some (.null))) m o ∧ 0 ≤ 0 ∧ 0 ≤ 0) ∧ (¬ (3 : Int32) ≤ (nI i) → mReq (mInB (nI i) 3) (Φ (.inl (some (.ref (mRF 695 ((nI i).toNatClampNeg))))) m o ∧ 0 ≤ 0 ∧ 0 ≤ 0)))
  rw [mIn_ok hi (by decide), nI_cl (by omega), (im_all i hi).1]
  refine ⟨fun z => absurd z (nI_pos (by omega)), fun _ => ⟨fun z => absurd z ?_, fun _ => eR hΦ⟩⟩
  show ¬ nI 3 ≤ nI i
  rw [nI_leI (by decide) (by omega)]; omega
theorem x_imageAt0 (m : Mm) {x : Int32} (hx : x < 0 ∨ (3 : Int32) ≤ x) : mFr l g d k_X11_imageAt [.ref 586, .int x] m .null := by
  refine nFr 0 rfl rfl rfl (by decide) rfl (Or.inr rfl) (fun htr o Φ hΦ => mGoOn (mOk (by decide)) rfl [] 400 ?_)
  show (x < 0 → Φ (.inl (some (.null))) m o ∧ 0 ≤ 0 ∧ 0 ≤ 0) ∧ (¬ x < 0 → ((3 : Int32) ≤ x → Φ (.inl (some (.null))) m o ∧ 0 ≤ 0 ∧ 0 ≤ 0) ∧ (¬ (3 : Int32) ≤ x → mReq (mInB x 3) (Φ (.inl (some (.ref (mRF 695 x.toNatClampNeg)))) m o ∧ 0 ≤ 0 ∧ 0 ≤ 0)))
  exact ⟨fun z => eR hΦ, fun z => ⟨fun _ => eR hΦ, fun y => absurd (hx.resolve_left z) y⟩⟩
theorem x_image {m : Mm} {i w : Nat} (hi : m 586 13 = nI i) (h3 : i ≤ 3) (hw : m 625 2 = nI w) (h16 : w ≤ 16) (hd : 5 ≤ d) : mHi l g d k_X11_image [.ref 586] m (fun x m2 => (i = 3 → x = -1 ∧ m2 = m) ∧ (i < 3 → x = nI (i + 1) ∧ (∀ a, a ≠ 586 → a < 707 + 70 * i ∨ 707 + 70 * i + 69 < a → m2 a = m a) ∧ m2 586 = upd (m 586) 13 (nI (i + 1)) ∧ m2 (707 + 70 * i) 2 = nI w ∧ ncp m m2 626 (708 + 70 * i) ∧ ∀ j, j < w → ncp m m2 (631 + 4 * j) (713 + 70 * i + 4 * j))) := by
  refine nBi 1 rfl rfl rfl (by decide) rfl (fun htr o Φ hΦ => mGoOn (mOk (by decide)) rfl [8] 400 ?_)
  show True ∧ mCal l g d k_X11_image Φ 0 0 _ 5 k_X11_imageAt false [.ref 586, .int (m 586 13)] [] [.ref 586, mJ] m o 0 0 3
  rw [hi]
  by_cases z : i = 3
  · subst z
    refine ⟨trivial, gCr htr (x_imageAt0 m (Or.inr (by decide))) (by omega) ?_⟩
    refine ms_anull_n (mOk (by decide)) rfl ?_
    refine mGoOn (mOk (by decide)) rfl [] 400 ?_
    show Φ (.inl (some (.int (-1 : Int32)))) m o ∧ 0 ≤ 0 ∧ 0 ≤ 0
    exact eR (hΦ _ _ ⟨fun _ => ⟨rfl, rfl⟩, fun q => absurd q (by omega)⟩)
  · refine ⟨trivial, gCr htr (x_imageAt m (i := i) (by omega)) (by omega) ?_⟩
    refine mGoOn (mOk (by decide)) rfl [] 400 ?_
    show mReq (mIsB (707 + 70 * i) 13) True ∧ mCal l g d k_X11_image Φ 0 0 _ 20 k_X3_copy false [.ref (707 + 70 * i), .ref 625] [] [.ref 586, .ref (707 + 70 * i)] m o 0 0 0
    have hI := (im_all i (by omega)).2
    rw [(hs_of hI).1]
    refine ⟨trivial, nCv htr (x_hcopy hI (Or.inl rfl) (by omega) h16 hw (by omega)) (by omega) ?_⟩
    intro m2 ⟨f1, f2, f3, f4⟩
    show (Value.ref 586).category = 1 ∧ (Φ (.inl (some (.int ((mset m2 586 13 ((m2 586 13) + (1 : Int32))) 586 13)))) (mset m2 586 13 ((m2 586 13) + (1 : Int32))) o ∧ 0 ≤ 0 ∧ 0 ≤ 0)
    have e : m2 586 13 = nI i := by rw [f1 586 (by omega)]; exact hi
    rw [e, nI_1]
    refine ⟨rfl, eR (hΦ _ _ ⟨fun q => absurd q z, fun _ => ⟨by rw [mset_eq, pk_us], fun a h1 h2 => ?_, ?_, ?_, ?_, fun j hj => ?_⟩⟩)⟩
    · rw [mset_ne _ _ _ h1]; exact f1 a h2
    · rw [mset_eq, f1 586 (by omega)]
    · rw [mset_ne _ _ _ (by omega)]; exact f2
    · rw [show 708 + 70 * i = 707 + 70 * i + 1 by omega]
      exact ncp_fr f3 (fun a _ _ => rfl) (fun a x y => mset_ne _ _ _ (by omega))
    · rw [show 713 + 70 * i + 4 * j = 707 + 70 * i + 6 + 4 * j by omega]
      exact ncp_fr (f4 j hj) (fun a _ _ => rfl) (fun a x y => mset_ne _ _ _ (by omega))
theorem x_restore {m : Mm} {i w : Nat} (hi : m 586 13 = nI i) (h3 : i ≤ 3) (hw : i ≠ 0 → m (637 + 70 * i) 2 = nI w) (h16 : w ≤ 16) (hd : 5 ≤ d) : mHi l g d k_X11_restore [.ref 586] m (fun x m2 => (i = 0 → x = -1 ∧ m2 = m) ∧ (i ≠ 0 → x = nI (i - 1) ∧ (∀ a, a ≠ 586 → a < 625 ∨ 694 < a → m2 a = m a) ∧ m2 586 = upd (upd (m 586) 13 (nI (i - 1))) 14 0 ∧ m2 625 2 = nI w ∧ ncp m m2 (638 + 70 * i) 626 ∧ ∀ j, j < w → ncp m m2 (643 + 70 * i + 4 * j) (631 + 4 * j))) := by
  refine nBi 1 rfl rfl rfl (by decide) rfl (fun htr o Φ hΦ => mGoOn (mOk (by decide)) rfl [10] 400 ?_)
  show True ∧ mCal l g d k_X11_restore Φ 0 0 _ 7 k_X11_imageAt false [.ref 586, .int ((m 586 13) - (1 : Int32))] [] [.ref 586, mJ] m o 0 0 3
  rw [hi]
  by_cases z : i = 0
  · subst z
    refine ⟨trivial, gCr htr (x_imageAt0 m (Or.inl nI_0m)) (by omega) ?_⟩
    refine ms_anull_n (mOk (by decide)) rfl ?_
    refine mGoOn (mOk (by decide)) rfl [] 400 ?_
    show Φ (.inl (some (.int (-1 : Int32)))) m o ∧ 0 ≤ 0 ∧ 0 ≤ 0
    exact eR (hΦ _ _ ⟨fun _ => ⟨rfl, rfl⟩, fun q => absurd rfl q⟩)
  · rw [nI_dec1 (by omega)]
    refine ⟨trivial, gCr htr (x_imageAt m (i := i - 1) (by omega)) (by omega) ?_⟩
    have e0 : 707 + 70 * (i - 1) = 637 + 70 * i := by omega
    have hI := (im_all (i - 1) (by omega)).2
    rw [e0] at hI ⊢
    refine mGoOn (mOk (by decide)) rfl [] 400 ?_
    show True ∧ mCal l g d k_X11_restore Φ 0 0 _ 22 k_X3_copy false [.ref 625, .ref (637 + 70 * i)] [] [.ref 586, .ref (637 + 70 * i)] m o 0 0 0
    refine ⟨trivial, nCv htr (x_hcopy (Or.inl rfl) hI (by omega) h16 (hw z) (by omega)) (by omega) ?_⟩
    intro m2 ⟨f1, f2, f3, f4⟩
    show (Value.ref 586).category = 1 ∧ (Φ (.inl (some (.int ((mset (mset m2 586 13 ((m2 586 13) - (1 : Int32))) 586 14 (0 : Int32)) 586 13)))) (mset (mset m2 586 13 ((m2 586 13) - (1 : Int32))) 586 14 (0 : Int32)) o ∧ 0 ≤ 0 ∧ 0 ≤ 0)
    have e : m2 586 13 = nI i := by rw [f1 586 (by omega)]; exact hi
    rw [e, nI_dec1 (by omega)]
    refine ⟨rfl, eR (hΦ _ _ ⟨fun q => absurd q z, fun _ => ⟨by rw [mset_eq, pk_un (by decide), mset_eq, pk_us], fun a h1 h2 => ?_, ?_, ?_, ?_, fun j hj => ?_⟩⟩)⟩
    · rw [mset_ne _ _ _ h1, mset_ne _ _ _ h1]; exact f1 a h2
    · rw [mset_eq, mset_eq, f1 586 (by omega)]
    · rw [mset_ne _ _ _ (by decide), mset_ne _ _ _ (by decide)]; exact f2
    · rw [show 638 + 70 * i = 637 + 70 * i + 1 by omega]
      exact ncp_fr f3 (fun a _ _ => rfl) (fun a x y => by rw [mset_ne _ _ _ (by omega), mset_ne _ _ _ (by omega)])
    · rw [show 643 + 70 * i + 4 * j = 637 + 70 * i + 6 + 4 * j by omega]
      exact ncp_fr (f4 j hj) (fun a _ _ => rfl) (fun a x y => by rw [mset_ne _ _ _ (by omega), mset_ne _ _ _ (by omega)])
end X19
