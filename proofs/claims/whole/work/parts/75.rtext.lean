set_option maxRecDepth 100000
/-! THE REFERENCE: rows laid over, a text begun -/
def lyP (x w K : Nat) : Prop := mRowB x = true ∧ mLn x = K ∧ ∀ i, i < K → mRF x i = x + 1 + i ∧ mIsB (x + 1 + i) 1 = true ∧ mLn (x + 1 + i) = w ∧ mArrB (x + 1 + i) = true
theorem ly_391 : lyP 391 2 9 := ⟨rfl, rfl, by decide +kernel⟩
theorem ly_401 : lyP 401 2 9 := ⟨rfl, rfl, by decide +kernel⟩
theorem ly_7 : lyP 7 2 14 := ⟨rfl, rfl, by decide +kernel⟩
theorem ly_22 : lyP 22 2 14 := ⟨rfl, rfl, by decide +kernel⟩
theorem ly_37 : lyP 37 3 6 := ⟨rfl, rfl, by decide +kernel⟩
theorem ly_44 : lyP 44 3 6 := ⟨rfl, rfl, by decide +kernel⟩
theorem ly_51 : lyP 51 2 8 := ⟨rfl, rfl, by decide +kernel⟩
theorem ly_60 : lyP 60 2 8 := ⟨rfl, rfl, by decide +kernel⟩
theorem ly_230 : lyP 230 2 160 := ⟨rfl, rfl, by decide +kernel⟩
theorem ly_69 : lyP 69 2 160 := ⟨rfl, rfl, by decide +kernel⟩
section R26
variable {l : Launch} {g : mG} {d : Nat}
theorem r_lays {m : Mm} {x y w K c : Nat} (hx : lyP x w K) (hy : lyP y w K) (hw : w < 10) (hK : K < 1000) (hc : c ≤ K) (far : x + K < y ∨ y + K < x) : mHv l g d k_X12_lays [.ref x, .ref y, .int (nI c)] m (fun m2 => (∀ a, a < y + 1 ∨ y + K < a → m2 a = m a) ∧ ∀ i, i < c → ∀ j, j < w → m2 (y + 1 + i) j = m (x + 1 + i) j) := by
  refine nBv 2 rfl rfl rfl (by decide) rfl (fun htr o Φ hΦ => mGoOn (mOk (by decide)) rfl [2,10] 400 ?_)
  show mWB l g d k_X12_lays Φ 0 0 2 [.ref x, .ref y, .int (nI c), .int (0 : Int32), mJ] [] m o 0 0
  refine mLoopZ (P := fun i => ∀ m2, ((∀ a, a < y + 1 ∨ y + K < a → m2 a = m a) ∧ ∀ t, t < i → ∀ j, j < w → m2 (y + 1 + t) j = m (x + 1 + t) j) → mWB l g d k_X12_lays Φ 0 0 2 [.ref x, .ref y, .int (nI c), .int (nI i), mJ] [] m2 o 0 0) (N := c) ?_ ?_ m ⟨fun _ _ => rfl, fun t ht => absurd ht (by omega)⟩
  · intro m2 h2
    refine mGoOn (mOk (by decide)) rfl [2,10] 400 ?_
    show ((nI c) ≤ (nI c) → Φ (.inl none) m2 o ∧ 0 ≤ 0 ∧ 0 ≤ 0) ∧ (¬ (nI c) ≤ (nI c) → mWB l g d k_X12_lays Φ 0 0 10 [.ref x, .ref y, .int (nI c), .int (nI c), .int (0 : Int32)] [] m2 o 0 0)
    exact ⟨fun _ => eR (hΦ _ h2), fun z => absurd (Int32.le_refl _) z⟩
  · intro i hi ih m2 h2
    refine mGoOn (mOk (by decide)) rfl [2,10] 400 ?_
    show ((nI c) ≤ (nI i) → Φ (.inl none) m2 o ∧ 0 ≤ 0 ∧ 0 ≤ 0) ∧ (¬ (nI c) ≤ (nI i) → mWB l g d k_X12_lays Φ 0 0 10 [.ref x, .ref y, .int (nI c), .int (nI i), .int (0 : Int32)] [] m2 o 0 0)
    refine ⟨fun z => absurd z (by rw [nI_leI (by omega) (by omega)]; omega), fun _ => ?_⟩
    have bx := hx.2.2 i (by omega)
    have bb := hy.2.2 i (by omega)
    refine mLoopZ (P := fun j => ∀ m2, ((∀ a, a < y + 1 ∨ y + K < a → m2 a = m a) ∧ (∀ t, t < i → ∀ j, j < w → m2 (y + 1 + t) j = m (x + 1 + t) j) ∧ ∀ t, t < j → m2 (y + 1 + i) t = m (x + 1 + i) t) → mWB l g d k_X12_lays Φ 0 0 10 [.ref x, .ref y, .int (nI c), .int (nI i), .int (nI j)] [] m2 o 0 0) (N := w) ?_ ?_ m2 ⟨h2.1, h2.2, fun t ht => absurd ht (by omega)⟩
    · intro m2 h2
      refine mGoOn (mOk (by decide)) rfl [2,10] 400 ?_
      show mReq (mRowB y) (mReq (mInB (nI i) (mLn y)) (mReq (mArrB (mRF y ((nI i).toNatClampNeg))) (((Int32.ofNat (mLn (mRF y ((nI i).toNatClampNeg)))) ≤ (nI w) → mWB l g d k_X12_lays Φ 0 0 2 [.ref x, .ref y, .int (nI c), .int ((nI i) + (1 : Int32)), .int (nI w)] [] m2 o 0 0) ∧ (¬ (Int32.ofNat (mLn (mRF y ((nI i).toNatClampNeg)))) ≤ (nI w) → mReq (mRowB y) (mReq (mInB (nI i) (mLn y)) (mReq (mRowB x) (mReq (mInB (nI i) (mLn x)) (mReq (mIsB (mRF x ((nI i).toNatClampNeg)) 1) (mReq (mInB (nI w) (mLn (mRF x ((nI i).toNatClampNeg)))) (mReq (mIsB (mRF y ((nI i).toNatClampNeg)) 1) (mReq (mInB (nI w) (mLn (mRF y ((nI i).toNatClampNeg)))) (mWB l g d k_X12_lays Φ 0 0 10 [.ref x, .ref y, .int (nI c), .int (nI i), .int ((nI w) + (1 : Int32))] [] (mset m2 (mRF y ((nI i).toNatClampNeg)) ((nI w).toNatClampNeg) (m2 (mRF x ((nI i).toNatClampNeg)) ((nI w).toNatClampNeg))) o 0 0))))))))))))
      rw [hy.1, hy.2.1, mIn_ok (show i < K by omega) (by omega), nI_cl (by omega), bb.1, bb.2.2.2, bb.2.2.1, nI_1]
      refine ⟨fun _ => mWB_wk (ih m2 ⟨h2.1, fun t ht j hj => ?_⟩) ⟨Or.inr rfl, Or.inr rfl, Or.inr rfl, Or.inr rfl, Or.inl rfl, trivial⟩, fun z => absurd (Int32.le_refl _) z⟩
      by_cases e : t = i
      · subst e; exact h2.2.2 j hj
      · exact h2.2.1 t (by omega) j hj
    · intro j hj ih2 m2 h2
      refine mGoOn (mOk (by decide)) rfl [2,10] 400 ?_
      show mReq (mRowB y) (mReq (mInB (nI i) (mLn y)) (mReq (mArrB (mRF y ((nI i).toNatClampNeg))) (((Int32.ofNat (mLn (mRF y ((nI i).toNatClampNeg)))) ≤ (nI j) → mWB l g d k_X12_lays Φ 0 0 2 [.ref x, .ref y, .int (nI c), .int ((nI i) + (1 : Int32)), .int (nI j)] [] m2 o 0 0) ∧ (¬ (Int32.ofNat (mLn (mRF y ((nI i).toNatClampNeg)))) ≤ (nI j) → mReq (mRowB y) (mReq (mInB (nI i) (mLn y)) (mReq (mRowB x) (mReq (mInB (nI i) (mLn x)) (mReq (mIsB (mRF x ((nI i).toNatClampNeg)) 1) (mReq (mInB (nI j) (mLn (mRF x ((nI i).toNatClampNeg)))) (mReq (mIsB (mRF y ((nI i).toNatClampNeg)) 1) (mReq (mInB (nI j) (mLn (mRF y ((nI i).toNatClampNeg)))) (mWB l g d k_X12_lays Φ 0 0 10 [.ref x, .ref y, .int (nI c), .int (nI i), .int ((nI j) + (1 : Int32))] [] (mset m2 (mRF y ((nI i).toNatClampNeg)) ((nI j).toNatClampNeg) (m2 (mRF x ((nI i).toNatClampNeg)) ((nI j).toNatClampNeg))) o 0 0))))))))))))
      rw [hy.1, hy.2.1, hx.1, hx.2.1, mIn_ok (show i < K by omega) (by omega), nI_cl (show i < 2 ^ 31 by omega), bb.1, bb.2.2.2, bb.2.2.1, bx.1, bx.2.1, bx.2.2.1, bb.2.1, mIn_ok hj (by omega), nI_cl (show j < 2 ^ 31 by omega)]
      refine ⟨fun z => absurd z ?_, fun _ => ?_⟩
      · show ¬ nI w ≤ nI j
        rw [nI_leI (by omega) (by omega)]; omega
      · rw [nI_1]
        refine ih2 _ ⟨fun a ha => ?_, fun t ht j hj => ?_, fun t ht => ?_⟩
        · rw [mset_ne _ _ _ (by omega)]; exact h2.1 a ha
        · rw [mset_ne _ _ _ (by omega)]; exact h2.2.1 t ht j hj
        · rw [mset_eq, upd_at]
          by_cases e : t = j
          · rw [if_pos e, h2.1 (x + 1 + i) (by omega), e]
          · rw [if_neg e]; exact h2.2.2 t (by omega)
/-- how a text lies before it is read -/
def St (m X : Mm) (n : Nat) : Prop := (∀ a, a ≠ 0 → X a = m a) ∧ (∀ i, i ≠ 1 → i ≠ 2 → i ≠ 4 → i ≠ 5 → i ≠ 6 → i ≠ 7 → i ≠ 8 → X 0 i = m 0 i) ∧ X 0 1 = 0 ∧ X 0 2 = nI n ∧ X 0 7 = 0 ∧ X 0 8 = 0
theorem r_starts {m : Mm} {n : Nat} (hn : n ≤ 600) (hd : 2 ≤ d) : mHv l g d k_X12_starts [.ref 0, .int (nI n)] m (fun m2 => ∃ X, m2 = mPS X (skp (m 1) n 0, 0, -1) ∧ St m X n) := by
  refine nBv 0 rfl rfl rfl (by decide) rfl (fun htr o Φ hΦ => mGoOn (mOk (by decide)) rfl [] 400 ?_)
  show True ∧ mCal l g d k_X12_starts Φ 0 0 _ 36 k_X12_blanks false [.ref 0] [] [.ref 0, .int (nI n)] (mset (mset (mset (mset (mset (mset (mset m 0 1 (0 : Int32)) 0 2 (nI n)) 0 4 (0 : Int32)) 0 5 (0 : Int32)) 0 6 (-1 : Int32)) 0 7 (0 : Int32)) 0 8 (0 : Int32)) o 0 0 0
  have hX : St m (mset (mset (mset (mset (mset (mset (mset m 0 1 (0 : Int32)) 0 2 (nI n)) 0 4 (0 : Int32)) 0 5 (0 : Int32)) 0 6 (-1 : Int32)) 0 7 (0 : Int32)) 0 8 (0 : Int32)) n := by
    refine ⟨fun a ha => ?_, fun i h1 h2 h4 h5 h6 h7 h8 => ?_, ?_, ?_, ?_, ?_⟩
    · rw [mset_ne _ _ _ ha, mset_ne _ _ _ ha, mset_ne _ _ _ ha, mset_ne _ _ _ ha, mset_ne _ _ _ ha, mset_ne _ _ _ ha, mset_ne _ _ _ ha]
    · rw [mset_eq, pk_un h8, mset_eq, pk_un h7, mset_eq, pk_un h6, mset_eq, pk_un h5, mset_eq, pk_un h4, mset_eq, pk_un h2, mset_eq, pk_un h1]
    · simp only [mset_eq, upd_at]; rfl
    · simp only [mset_eq, upd_at]; rfl
    · simp only [mset_eq, upd_at]; rfl
    · simp only [mset_eq, upd_at]; rfl
  have e4 : (mset (mset (mset (mset (mset (mset (mset m 0 1 (0 : Int32)) 0 2 (nI n)) 0 4 (0 : Int32)) 0 5 (0 : Int32)) 0 6 (-1 : Int32)) 0 7 (0 : Int32)) 0 8 (0 : Int32)) 0 4 = nI 0 ∧ (mset (mset (mset (mset (mset (mset (mset m 0 1 (0 : Int32)) 0 2 (nI n)) 0 4 (0 : Int32)) 0 5 (0 : Int32)) 0 6 (-1 : Int32)) 0 7 (0 : Int32)) 0 8 (0 : Int32)) 0 5 = 0 ∧ (mset (mset (mset (mset (mset (mset (mset m 0 1 (0 : Int32)) 0 2 (nI n)) 0 4 (0 : Int32)) 0 5 (0 : Int32)) 0 6 (-1 : Int32)) 0 7 (0 : Int32)) 0 8 (0 : Int32)) 0 6 = -1 := by
    refine ⟨?_, ?_, ?_⟩ <;> simp only [mset_eq, upd_at] <;> rfl
  generalize mset (mset (mset (mset (mset (mset (mset m 0 1 (0 : Int32)) 0 2 (nI n)) 0 4 (0 : Int32)) 0 5 (0 : Int32)) 0 6 (-1 : Int32)) 0 7 (0 : Int32)) 0 8 (0 : Int32) = X at hX e4 ⊢
  have hb := q_blanks (l := l) (g := g) (d := d - 1) X (0, 0, -1) hX.2.2.2.1 hn (Nat.zero_le _) (by omega)
  rw [← mPS_at X e4.1 e4.2.1 e4.2.2, hX.1 1 (by decide)] at hb
  refine ⟨trivial, fCv htr hb (by omega) ?_⟩
  exact eR (hΦ _ ⟨X, rfl, hX⟩)
theorem r_ends (m : Mm) (p : PS) : mFi l g d k_X12_ends [.ref 0] (mPS m p) (p.2.1 - 10) (mPS (mset m 0 3 p.2.2) p) := by
  refine nFi 0 rfl rfl rfl (by decide) rfl (fun htr o Φ hΦ => mGoOn (mOk (by decide)) rfl [] 400 ?_)
  show Φ (.inl (some (.int (((mset (mPS m p) 0 3 ((mPS m p) 0 6)) 0 5) - (10 : Int32))))) (mset (mPS m p) 0 3 ((mPS m p) 0 6)) o ∧ 0 ≤ 0 ∧ 0 ≤ 0
  have e : mset (mPS m p) 0 3 ((mPS m p) 0 6) = mPS (mset m 0 3 p.2.2) p := by
    rw [mPS_6]
    funext a i
    by_cases ha : a = 0
    · subst ha
      rw [mset_eq, upd_at]
      by_cases hi : i = 3
      · subst hi; rw [if_pos rfl, mPS_f _ _ (by decide) (by decide) (by decide), mset_eq, pk_us]
      · rw [if_neg hi]
        by_cases h4 : i = 4
        · subst h4; rw [mPS_4, mPS_4]
        · by_cases h5 : i = 5
          · subst h5; rw [mPS_5, mPS_5]
          · by_cases h6 : i = 6
            · subst h6; rw [mPS_6, mPS_6]
            · rw [mPS_f _ _ h4 h5 h6, mPS_f _ _ h4 h5 h6, mset_eq, pk_un hi]
    · rw [mset_ne _ _ _ ha, mPS_o _ _ ha, mPS_o _ _ ha, mset_ne _ _ _ ha]
  rw [e, mPS_5]
  exact eR hΦ
end R26
