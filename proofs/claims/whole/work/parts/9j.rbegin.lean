set_option maxRecDepth 100000
/-- what a new city leaves -/
def nowN (m : Mm) (t2 k : Nat) : Int32 := if k < t2 then m (38 + k) 0 else if 18 ≤ k ∧ k < 27 then 24 else 0
def Bg3 (m m2 : Mm) (t : Nat → Nat) : Prop := (∀ a, a ≠ 4 → a ≠ 6 → (a < 23 ∨ 36 < a) → (a < 45 ∨ 50 < a) → (a < 61 ∨ 68 < a) → m2 a = m a) ∧ (∀ k, k < 4 → m2 4 k = nI (t k)) ∧ (∀ s, s < t 0 → m2 6 s = m 5 s) ∧ (∀ i, i < t 1 → ∀ j, j < 2 → m2 (23 + i) j = m (8 + i) j) ∧ (∀ i, i < t 2 → ∀ j, j < 3 → m2 (45 + i) j = m (38 + i) j) ∧ (∀ i, i < t 3 → ∀ j, j < 2 → m2 (61 + i) j = m (52 + i) j)
section R42
variable {l : Launch} {g : mG} {d : Nat}
theorem r_tellsNothing (m : Mm) : mHv l g d k_X12_tellsNothing [.ref 0] m (fun m2 => (∀ a, a ≠ 3 → m2 a = m a) ∧ ∀ k, k < 4 → m2 3 k = 0) := by
  refine nBv 1 rfl rfl rfl (by decide) rfl (fun htr o Φ hΦ => mGoOn (mOk (by decide)) rfl [2] 400 ?_)
  show mWB l g d k_X12_tellsNothing Φ 0 0 2 [.ref 0, .int (0 : Int32)] [] m o 0 0
  refine mLoopZ (P := fun i => ∀ m2, ((∀ a, a ≠ 3 → m2 a = m a) ∧ ∀ k, k < i → m2 3 k = 0) → mWB l g d k_X12_tellsNothing Φ 0 0 2 [.ref 0, .int (nI i)] [] m2 o 0 0) (N := 4) ?_ ?_ m ⟨fun _ _ => rfl, fun t ht => absurd ht (by omega)⟩
  · intro m2 h2
    generalize hc : nI 4 = c
    refine mGoOn (mOk (by decide)) rfl [2] 400 ?_
    show ((4 : Int32) ≤ c → Φ (.inl none) m2 o ∧ 0 ≤ 0 ∧ 0 ≤ 0) ∧ (¬ (4 : Int32) ≤ c → mReq (mInB c 4) (mWB l g d k_X12_tellsNothing Φ 0 0 2 [.ref 0, .int (c + (1 : Int32))] [] (mset m2 3 c.toNatClampNeg (0 : Int32)) o 0 0))
    exact ⟨fun _ => eR (hΦ _ h2), fun z => absurd (by rw [← hc]; exact Int32.le_refl _) z⟩
  · intro i hi ih m2 h2
    refine mGoOn (mOk (by decide)) rfl [2] 400 ?_
    show ((4 : Int32) ≤ (nI i) → Φ (.inl none) m2 o ∧ 0 ≤ 0 ∧ 0 ≤ 0) ∧ (¬ (4 : Int32) ≤ (nI i) → mReq (mInB (nI i) 4) (mWB l g d k_X12_tellsNothing Φ 0 0 2 [.ref 0, .int ((nI i) + (1 : Int32))] [] (mset m2 3 ((nI i).toNatClampNeg) (0 : Int32)) o 0 0))
    rw [show (4 : Int32) = nI 4 from rfl, nI_leI (by decide) (by omega), mIn_ok hi (by decide), nI_cl (by omega), nI_1]
    refine ⟨fun z => absurd z (by omega), fun _ => mReq_i rfl (ih _ ⟨fun a ha => by rw [mset_ne _ _ _ ha]; exact h2.1 a ha, fun k hk => ?_⟩)⟩
    rw [mset_eq, upd_at]
    by_cases q : k = i
    · rw [if_pos q]
    · rw [if_neg q]; exact h2.2 k (by omega)
theorem r_beginsAnew {m : Mm} {t : Nat → Nat} (ht : ∀ k, k < 4 → m 3 k = nI (t k)) (h0 : t 0 ≤ 9) (h1 : t 1 ≤ 14) (h2 : t 2 ≤ 6) (h3 : t 3 ≤ 8) (hd : 1 ≤ d) : mHv l g d k_X12_beginsAnew [.ref 0] m (fun m2 => ∃ m3, Bg3 m m3 t ∧ (∀ a, a ≠ 0 → a ≠ 494 → m2 a = m3 a) ∧ (∀ i, i ≠ 21 → i ≠ 35 → i ≠ 36 → i ≠ 37 → i ≠ 38 → m2 0 i = m 0 i) ∧ (m2 0 21 = 0 ∧ m2 0 35 = 0 ∧ m2 0 36 = 0 ∧ m2 0 37 = 0 ∧ m2 0 38 = 0) ∧ ∀ k, k < 37 → m2 494 k = nowN m (t 2) k) := by
  refine nBv 1 rfl rfl rfl (by decide) rfl (fun htr o Φ hΦ => mGoOn (mOk (by decide)) rfl [2] 400 ?_)
  show mWB l g d k_X12_beginsAnew Φ 0 0 2 [.ref 0, .int (0 : Int32)] [] m o 0 0
  have k106 : ∀ m3, Bg3 m m3 t → mWB l g d k_X12_beginsAnew Φ 0 0 106 [.ref 0, mJ] [] m3 o 0 0 := by
    intro m3 hB
    have e42 : m3 4 2 = nI (t 2) := hB.2.1 2 (by decide)
    have k161 : ∀ m5, (∀ a, a ≠ 494 → m5 a = m3 a) → (∀ k, k < 37 → m5 494 k = if k < t 2 then m (38 + k) 0 else 0) → mWB l g d k_X12_beginsAnew Φ 0 0 161 [.ref 0, mJ] [] m5 o 0 0 := by
      intro m5 hf5 hr5
      refine mGoOn (mOk (by decide)) rfl [163] 400 ?_
      show mWB l g d k_X12_beginsAnew Φ 0 0 163 [.ref 0, .int (0 : Int32)] [] m5 o 0 0
      refine mLoopZ (P := fun i => ∀ m6, ((∀ a, a ≠ 494 → m6 a = m3 a) ∧ ∀ k, k < 37 → m6 494 k = if k < t 2 then m (38 + k) 0 else if 18 ≤ k ∧ k < 18 + i then 24 else 0) → mWB l g d k_X12_beginsAnew Φ 0 0 163 [.ref 0, .int (nI i)] [] m6 o 0 0) (N := 9) ?_ ?_ m5 ⟨hf5, fun k hk => ?_⟩
      · intro m6 h6
        generalize hc : nI 9 = c
        refine mGoOn (mOk (by decide)) rfl [163] 400 ?_
        show ((9 : Int32) ≤ c → Φ (.inl none) (mset (mset (mset (mset (mset m6 0 21 (0 : Int32)) 0 35 (0 : Int32)) 0 36 (0 : Int32)) 0 37 (0 : Int32)) 0 38 (0 : Int32)) o ∧ 0 ≤ 0 ∧ 0 ≤ 0) ∧ (¬ (9 : Int32) ≤ c → mReq (mInB ((18 : Int32) + c) 37) (mWB l g d k_X12_beginsAnew Φ 0 0 163 [.ref 0, .int (c + (1 : Int32))] [] (mset m6 494 (((18 : Int32) + c).toNatClampNeg) (24 : Int32)) o 0 0))
        refine ⟨fun _ => ?_, fun z => absurd (by rw [← hc]; exact Int32.le_refl _) z⟩
        have e0 : m6 0 = m 0 := by rw [h6.1 0 (by decide), hB.1 0 (by decide) (by decide) (by omega) (by omega) (by omega)]
        refine eR (hΦ _ ⟨m3, hB, fun a a1 a2 => ?_, fun i i1 i2 i3 i4 i5 => ?_, ⟨?_, ?_, ?_, ?_, ?_⟩, fun k hk => ?_⟩)
        · rw [mset_ne _ _ _ a1, mset_ne _ _ _ a1, mset_ne _ _ _ a1, mset_ne _ _ _ a1, mset_ne _ _ _ a1]; exact h6.1 a a2
        · rw [mset_eq, pk_un i5, mset_eq, pk_un i4, mset_eq, pk_un i3, mset_eq, pk_un i2, mset_eq, pk_un i1, e0]
        · rw [mset_eq, pk_un (by decide), mset_eq, pk_un (by decide), mset_eq, pk_un (by decide), mset_eq, pk_un (by decide), mset_eq, pk_us]
        · rw [mset_eq, pk_un (by decide), mset_eq, pk_un (by decide), mset_eq, pk_un (by decide), mset_eq, pk_us]
        · rw [mset_eq, pk_un (by decide), mset_eq, pk_un (by decide), mset_eq, pk_us]
        · rw [mset_eq, pk_un (by decide), mset_eq, pk_us]
        · rw [mset_eq, pk_us]
        · rw [mset_ne _ _ _ (by decide), mset_ne _ _ _ (by decide), mset_ne _ _ _ (by decide), mset_ne _ _ _ (by decide), mset_ne _ _ _ (by decide)]
          exact h6.2 k hk
      · intro i hi ih m6 h6
        refine mGoOn (mOk (by decide)) rfl [163] 400 ?_
        show ((9 : Int32) ≤ (nI i) → Φ (.inl none) (mset (mset (mset (mset (mset m6 0 21 (0 : Int32)) 0 35 (0 : Int32)) 0 36 (0 : Int32)) 0 37 (0 : Int32)) 0 38 (0 : Int32)) o ∧ 0 ≤ 0 ∧ 0 ≤ 0) ∧ (¬ (9 : Int32) ≤ (nI i) → mReq (mInB ((18 : Int32) + (nI i)) 37) (mWB l g d k_X12_beginsAnew Φ 0 0 163 [.ref 0, .int ((nI i) + (1 : Int32))] [] (mset m6 494 (((18 : Int32) + (nI i)).toNatClampNeg) (24 : Int32)) o 0 0))
        rw [show (9 : Int32) = nI 9 from rfl, nI_leI (by decide) (by omega), show (18 : Int32) = nI 18 from rfl, nI_add, mIn_ok (show 18 + i < 37 by omega) (by decide), nI_cl (by omega), nI_1]
        refine ⟨fun z => absurd z (by omega), fun _ => mReq_i rfl (ih _ ⟨fun a ha => by rw [mset_ne _ _ _ ha]; exact h6.1 a ha, fun k hk => ?_⟩)⟩
        rw [mset_eq, upd_at]
        by_cases q : k = 18 + i
        · rw [if_pos q, if_neg (by omega), if_pos (by omega)]
        · rw [if_neg q, h6.2 k hk]
          by_cases y : k < t 2
          · rw [if_pos y, if_pos y]
          · rw [if_neg y, if_neg y]
            by_cases u : 18 ≤ k ∧ k < 18 + i
            · rw [if_pos u, if_pos (by omega)]
            · rw [if_neg u, if_neg (by omega)]
      · rw [hr5 k hk]
        by_cases y : k < t 2
        · rw [if_pos y, if_pos y]
        · rw [if_neg y, if_neg y, if_neg (by omega)]
    have k127 : ∀ m4, (∀ a, a ≠ 494 → m4 a = m3 a) → (∀ k, k < 37 → m4 494 k = 0) → mWB l g d k_X12_beginsAnew Φ 0 0 127 [.ref 0, mJ] [] m4 o 0 0 := by
      intro m4 hf4 hr4
      refine mGoOn (mOk (by decide)) rfl [129] 400 ?_
      show mWB l g d k_X12_beginsAnew Φ 0 0 129 [.ref 0, .int (0 : Int32)] [] m4 o 0 0
      refine mLoopZ (P := fun i => ∀ m5, ((∀ a, a ≠ 494 → m5 a = m3 a) ∧ ∀ k, k < 37 → m5 494 k = if k < i then m (38 + k) 0 else 0) → mWB l g d k_X12_beginsAnew Φ 0 0 129 [.ref 0, .int (nI i)] [] m5 o 0 0) (N := t 2) ?_ ?_ m4 ⟨hf4, fun k hk => by rw [if_neg (by omega)]; exact hr4 k hk⟩
      · intro m5 h5
        have e4 : m5 4 2 = nI (t 2) := by rw [h5.1 4 (by decide)]; exact e42
        refine mGoOn (mOk (by decide)) rfl [129,161] 400 ?_
        show ((m5 4 2) ≤ (nI (t 2)) → mWB l g d k_X12_beginsAnew Φ 0 0 161 [.ref 0, .int (nI (t 2))] [] m5 o 0 0) ∧ (¬ (m5 4 2) ≤ (nI (t 2)) → mReq (mInB (nI (t 2)) 6) (mReq (mIsB (mRF 44 ((nI (t 2)).toNatClampNeg)) 1) (mReq (mInB (0 : Int32) (mLn (mRF 44 ((nI (t 2)).toNatClampNeg)))) (mReq (mInB ((0 : Int32) + (nI (t 2))) 37) (mWB l g d k_X12_beginsAnew Φ 0 0 129 [.ref 0, .int ((nI (t 2)) + (1 : Int32))] [] (mset m5 494 (((0 : Int32) + (nI (t 2))).toNatClampNeg) (m5 (mRF 44 ((nI (t 2)).toNatClampNeg)) 0)) o 0 0)))))
        rw [e4]
        refine ⟨fun _ => mWB_wk (k161 m5 h5.1 h5.2) ⟨Or.inr rfl, Or.inl rfl, trivial⟩, fun z => absurd (Int32.le_refl _) z⟩
      · intro i hi ih m5 h5
        have e4 : m5 4 2 = nI (t 2) := by rw [h5.1 4 (by decide)]; exact e42
        have e45 : m5 (45 + i) 0 = m (38 + i) 0 := by rw [h5.1 (45 + i) (by omega)]; exact hB.2.2.2.2.1 i hi 0 (by decide)
        refine mGoOn (mOk (by decide)) rfl [129,161] 400 ?_
        show ((m5 4 2) ≤ (nI i) → mWB l g d k_X12_beginsAnew Φ 0 0 161 [.ref 0, .int (nI i)] [] m5 o 0 0) ∧ (¬ (m5 4 2) ≤ (nI i) → mReq (mInB (nI i) 6) (mReq (mIsB (mRF 44 ((nI i).toNatClampNeg)) 1) (mReq (mInB (0 : Int32) (mLn (mRF 44 ((nI i).toNatClampNeg)))) (mReq (mInB ((0 : Int32) + (nI i)) 37) (mWB l g d k_X12_beginsAnew Φ 0 0 129 [.ref 0, .int ((nI i) + (1 : Int32))] [] (mset m5 494 (((0 : Int32) + (nI i)).toNatClampNeg) (m5 (mRF 44 ((nI i).toNatClampNeg)) 0)) o 0 0)))))
        rw [e4, nI_leI (by omega) (by omega), mIn_ok (show i < 6 by omega) (by decide), show (0 : Int32) + nI i = nI i by rw [nI_0a], mIn_ok (show i < 37 by omega) (by decide), nI_cl (by omega), rf_44, sB_3 (by omega), sL_3 (by omega), e45, nI_1]
        refine ⟨fun z => absurd z (by omega), fun _ => mReq_i rfl (mReq_i rfl (mReq_i rfl (mReq_i rfl (ih _ ⟨fun a ha => by rw [mset_ne _ _ _ ha]; exact h5.1 a ha, fun k hk => ?_⟩))))⟩
        rw [mset_eq, upd_at]
        by_cases q : k = i
        · rw [if_pos q, if_pos (by omega), q]
        · rw [if_neg q, h5.2 k hk]
          by_cases y : k < i
          · rw [if_pos y, if_pos (by omega)]
          · rw [if_neg y, if_neg (by omega)]
    refine mGoOn (mOk (by decide)) rfl [108] 400 ?_
    show mWB l g d k_X12_beginsAnew Φ 0 0 108 [.ref 0, .int (0 : Int32)] [] m3 o 0 0
    refine mLoopZ (P := fun i => ∀ m4, ((∀ a, a ≠ 494 → m4 a = m3 a) ∧ ∀ k, k < i → m4 494 k = 0) → mWB l g d k_X12_beginsAnew Φ 0 0 108 [.ref 0, .int (nI i)] [] m4 o 0 0) (N := 37) ?_ ?_ m3 ⟨fun _ _ => rfl, fun t ht => absurd ht (by omega)⟩
    · intro m4 h4
      generalize hc : nI 37 = c
      refine mGoOn (mOk (by decide)) rfl [108,127] 400 ?_
      show ((37 : Int32) ≤ c → mWB l g d k_X12_beginsAnew Φ 0 0 127 [.ref 0, .int c] [] m4 o 0 0) ∧ (¬ (37 : Int32) ≤ c → mReq (mInB c 37) (mWB l g d k_X12_beginsAnew Φ 0 0 108 [.ref 0, .int (c + (1 : Int32))] [] (mset m4 494 c.toNatClampNeg (0 : Int32)) o 0 0))
      exact ⟨fun _ => mWB_wk (k127 m4 h4.1 h4.2) ⟨Or.inr rfl, Or.inl rfl, trivial⟩, fun z => absurd (by rw [← hc]; exact Int32.le_refl _) z⟩
    · intro i hi ih m4 h4
      refine mGoOn (mOk (by decide)) rfl [108,127] 400 ?_
      show ((37 : Int32) ≤ (nI i) → mWB l g d k_X12_beginsAnew Φ 0 0 127 [.ref 0, .int (nI i)] [] m4 o 0 0) ∧ (¬ (37 : Int32) ≤ (nI i) → mReq (mInB (nI i) 37) (mWB l g d k_X12_beginsAnew Φ 0 0 108 [.ref 0, .int ((nI i) + (1 : Int32))] [] (mset m4 494 ((nI i).toNatClampNeg) (0 : Int32)) o 0 0))
      rw [show (37 : Int32) = nI 37 from rfl, nI_leI (by decide) (by omega), mIn_ok hi (by decide), nI_cl (by omega), nI_1]
      refine ⟨fun z => absurd z (by omega), fun _ => mReq_i rfl (ih _ ⟨fun a ha => by rw [mset_ne _ _ _ ha]; exact h4.1 a ha, fun k hk => ?_⟩)⟩
      rw [mset_eq, upd_at]
      by_cases q : k = i
      · rw [if_pos q]
      · rw [if_neg q]; exact h4.2 k (by omega)
  have k55 : ∀ m2, (∀ a, a ≠ 4 → a ≠ 6 → m2 a = m a) → (∀ k, k < 4 → m2 4 k = nI (t k)) → (∀ s, s < t 0 → m2 6 s = m 5 s) → mWB l g d k_X12_beginsAnew Φ 0 0 55 [.ref 0, mJ] [] m2 o 0 0 := by
    intro m2 a1 a2 a3
    refine mGoOn (mOk (by decide)) rfl [106] 400 ?_
    show mCal l g d k_X12_beginsAnew Φ 0 0 _ 69 k_X12_lays false [.ref 7, .ref 22, .int (m2 4 1)] [] [.ref 0, mJ] m2 o 0 0 0
    rw [a2 1 (by decide)]
    refine nCv htr (r_lays ly_7 ly_22 (by decide) (by decide) (c := t 1) h1 (by omega)) (by omega) ?_
    rintro m3 ⟨f1, f2⟩
    show mCal l g d k_X12_beginsAnew Φ 0 0 _ 86 k_X12_lays false [.ref 37, .ref 44, .int (m3 4 2)] [] [.ref 0, mJ] m3 o 0 0 0
    rw [f1 4 (by omega), a2 2 (by decide)]
    refine nCv htr (r_lays ly_37 ly_44 (by decide) (by decide) (c := t 2) h2 (by omega)) (by omega) ?_
    rintro m4 ⟨g1, g2⟩
    show mCal l g d k_X12_beginsAnew Φ 0 0 _ 103 k_X12_lays false [.ref 51, .ref 60, .int (m4 4 3)] [] [.ref 0, mJ] m4 o 0 0 0
    rw [g1 4 (by omega), f1 4 (by omega), a2 3 (by decide)]
    refine nCv htr (r_lays ly_51 ly_60 (by decide) (by decide) (c := t 3) h3 (by omega)) (by omega) ?_
    rintro m5 ⟨i1, i2⟩
    refine k106 m5 ⟨fun a b1 b2 b3 b4 b5 => ?_, fun k hk => ?_, fun s hs => ?_, fun i hi j hj => ?_, fun i hi j hj => ?_, fun i hi j hj => ?_⟩
    · rw [i1 a (by omega), g1 a (by omega), f1 a (by omega), a1 a b1 b2]
    · rw [i1 4 (by omega), g1 4 (by omega), f1 4 (by omega), a2 k hk]
    · rw [i1 6 (by omega), g1 6 (by omega), f1 6 (by omega), a3 s hs]
    · have q := f2 i hi j hj
      rw [show 22 + 1 + i = 23 + i by omega, show 7 + 1 + i = 8 + i by omega, a1 (8 + i) (by omega) (by omega)] at q
      rw [i1 (23 + i) (by omega), g1 (23 + i) (by omega), q]
    · have q := g2 i hi j hj
      rw [show 44 + 1 + i = 45 + i by omega, show 37 + 1 + i = 38 + i by omega, f1 (38 + i) (by omega), a1 (38 + i) (by omega) (by omega)] at q
      rw [i1 (45 + i) (by omega), q]
    · have q := i2 i hi j hj
      rw [show 60 + 1 + i = 61 + i by omega, show 51 + 1 + i = 52 + i by omega, g1 (52 + i) (by omega), f1 (52 + i) (by omega), a1 (52 + i) (by omega) (by omega)] at q
      exact q
  have k25 : ∀ m2, (∀ a, a ≠ 4 → m2 a = m a) → (∀ k, k < 4 → m2 4 k = nI (t k)) → mWB l g d k_X12_beginsAnew Φ 0 0 25 [.ref 0, mJ] [] m2 o 0 0 := by
    intro m2 a1 a2
    refine mGoOn (mOk (by decide)) rfl [27] 400 ?_
    show mWB l g d k_X12_beginsAnew Φ 0 0 27 [.ref 0, .int (0 : Int32)] [] m2 o 0 0
    refine mLoopZ (P := fun i => ∀ m3, ((∀ a, a ≠ 6 → m3 a = m2 a) ∧ ∀ k, k < i → m3 6 k = m 5 k) → mWB l g d k_X12_beginsAnew Φ 0 0 27 [.ref 0, .int (nI i)] [] m3 o 0 0) (N := t 0) ?_ ?_ m2 ⟨fun _ _ => rfl, fun t ht => absurd ht (by omega)⟩
    · intro m3 b3
      refine mGoOn (mOk (by decide)) rfl [27,55] 400 ?_
      show ((m3 4 0) ≤ (nI (t 0)) → mWB l g d k_X12_beginsAnew Φ 0 0 55 [.ref 0, .int (nI (t 0))] [] m3 o 0 0) ∧ (¬ (m3 4 0) ≤ (nI (t 0)) → mReq (mInB (nI (t 0)) 9) (mReq (mInB (nI (t 0)) 9) (mWB l g d k_X12_beginsAnew Φ 0 0 27 [.ref 0, .int ((nI (t 0)) + (1 : Int32))] [] (mset m3 6 ((nI (t 0)).toNatClampNeg) (m3 5 ((nI (t 0)).toNatClampNeg))) o 0 0)))
      rw [b3.1 4 (by decide), a2 0 (by decide)]
      exact ⟨fun _ => mWB_wk (k55 m3 (fun a c1 c2 => by rw [b3.1 a c2, a1 a c1]) (fun k hk => by rw [b3.1 4 (by decide), a2 k hk]) b3.2) ⟨Or.inr rfl, Or.inl rfl, trivial⟩, fun z => absurd (Int32.le_refl _) z⟩
    · intro i hi ih m3 b3
      refine mGoOn (mOk (by decide)) rfl [27,55] 400 ?_
      show ((m3 4 0) ≤ (nI i) → mWB l g d k_X12_beginsAnew Φ 0 0 55 [.ref 0, .int (nI i)] [] m3 o 0 0) ∧ (¬ (m3 4 0) ≤ (nI i) → mReq (mInB (nI i) 9) (mReq (mInB (nI i) 9) (mWB l g d k_X12_beginsAnew Φ 0 0 27 [.ref 0, .int ((nI i) + (1 : Int32))] [] (mset m3 6 ((nI i).toNatClampNeg) (m3 5 ((nI i).toNatClampNeg))) o 0 0)))
      rw [b3.1 4 (by decide), a2 0 (by decide), b3.1 5 (by decide), a1 5 (by decide), nI_leI (by omega) (by omega), mIn_ok (show i < 9 by omega) (by decide), nI_cl (by omega), nI_1]
      refine ⟨fun z => absurd z (by omega), fun _ => mReq_i rfl (mReq_i rfl (ih _ ⟨fun a ha => by rw [mset_ne _ _ _ ha]; exact b3.1 a ha, fun k hk => ?_⟩))⟩
      rw [mset_eq, upd_at]
      by_cases q : k = i
      · rw [if_pos q, q]
      · rw [if_neg q]; exact b3.2 k (by omega)
  refine mLoopZ (P := fun i => ∀ m2, ((∀ a, a ≠ 4 → m2 a = m a) ∧ ∀ k, k < i → m2 4 k = nI (t k)) → mWB l g d k_X12_beginsAnew Φ 0 0 2 [.ref 0, .int (nI i)] [] m2 o 0 0) (N := 4) ?_ ?_ m ⟨fun _ _ => rfl, fun t ht => absurd ht (by omega)⟩
  · intro m2 b2
    generalize hc : nI 4 = c
    refine mGoOn (mOk (by decide)) rfl [2,25] 400 ?_
    show ((4 : Int32) ≤ c → mWB l g d k_X12_beginsAnew Φ 0 0 25 [.ref 0, .int c] [] m2 o 0 0) ∧ (¬ (4 : Int32) ≤ c → mReq (mInB c 4) (mReq (mInB c 4) (mWB l g d k_X12_beginsAnew Φ 0 0 2 [.ref 0, .int (c + (1 : Int32))] [] (mset m2 4 c.toNatClampNeg (m2 3 c.toNatClampNeg)) o 0 0)))
    exact ⟨fun _ => mWB_wk (k25 m2 b2.1 b2.2) ⟨Or.inr rfl, Or.inl rfl, trivial⟩, fun z => absurd (by rw [← hc]; exact Int32.le_refl _) z⟩
  · intro i hi ih m2 b2
    refine mGoOn (mOk (by decide)) rfl [2,25] 400 ?_
    show ((4 : Int32) ≤ (nI i) → mWB l g d k_X12_beginsAnew Φ 0 0 25 [.ref 0, .int (nI i)] [] m2 o 0 0) ∧ (¬ (4 : Int32) ≤ (nI i) → mReq (mInB (nI i) 4) (mReq (mInB (nI i) 4) (mWB l g d k_X12_beginsAnew Φ 0 0 2 [.ref 0, .int ((nI i) + (1 : Int32))] [] (mset m2 4 ((nI i).toNatClampNeg) (m2 3 ((nI i).toNatClampNeg))) o 0 0)))
    rw [b2.1 3 (by decide), show (4 : Int32) = nI 4 from rfl, nI_leI (by decide) (by omega), mIn_ok hi (by decide), nI_cl (by omega), nI_1]
    refine ⟨fun z => absurd z (by omega), fun _ => mReq_i rfl (mReq_i rfl (ih _ ⟨fun a ha => by rw [mset_ne _ _ _ ha]; exact b2.1 a ha, fun k hk => ?_⟩))⟩
    rw [mset_eq, upd_at]
    by_cases q : k = i
    · rw [if_pos q, q]; exact ht i hi
    · rw [if_neg q]; exact b2.2 k (by omega)
end R42
