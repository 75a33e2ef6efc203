set_option maxRecDepth 100000
/-! A LAW IS READ, in the reference: small steps -/
theorem mPS_set0 (X : Mm) (p : PS) {i : Nat} (h4 : i ≠ 4) (h5 : i ≠ 5) (h6 : i ≠ 6) (v : Int32) : mset (mPS X p) 0 i v = mPS (mset X 0 i v) p := by
  funext a j
  by_cases ha : a = 0
  · subst ha
    rw [mset_eq, upd_at]
    by_cases hj : j = i
    · subst hj; rw [if_pos rfl, mPS_f _ _ h4 h5 h6, mset_eq, pk_us]
    · rw [if_neg hj]
      by_cases q4 : j = 4
      · subst q4; rw [mPS_4, mPS_4]
      · by_cases q5 : j = 5
        · subst q5; rw [mPS_5, mPS_5]
        · by_cases q6 : j = 6
          · subst q6; rw [mPS_6, mPS_6]
          · rw [mPS_f _ _ q4 q5 q6, mPS_f _ _ q4 q5 q6, mset_eq, pk_un hj]
  · rw [mset_ne _ _ _ ha, mPS_o _ _ ha, mPS_o _ _ ha, mset_ne _ _ _ ha]
def lNote (X : Mm) (c : Nat) (a b : Int32) : Mm := mset (mset (mset X (231 + c) 0 a) (231 + c) 1 b) 0 22 (nI (c + 1))
section R29
variable {l : Launch} {g : mG} {d : Nat}
theorem r_notes {X : Mm} {p : PS} {c : Nat} (hc : X 0 22 = nI c) (h160 : c < 160) (a b : Int32) : mFu l g d k_X12_notes [.ref 0, .int a, .int b] (mPS X p) (mPS (if p.2.1 = 0 then lNote X c a b else X) p) := by
  refine nFu 0 rfl rfl rfl (by decide) rfl (fun htr o Φ hΦ => mGoOn (mOk (by decide)) rfl [] 400 ?_)
  show (((mPS X p) 0 5) = 0 → mReq (mInB ((mPS X p) 0 22) 160) (mReq (mIsB (mRF 230 (((mPS X p) 0 22).toNatClampNeg)) 1) (mReq (mInB (0 : Int32) (mLn (mRF 230 (((mPS X p) 0 22).toNatClampNeg)))) (mReq (mInB ((mset (mPS X p) (mRF 230 (((mPS X p) 0 22).toNatClampNeg)) 0 a) 0 22) 160) (mReq (mIsB (mRF 230 (((mset (mPS X p) (mRF 230 (((mPS X p) 0 22).toNatClampNeg)) 0 a) 0 22).toNatClampNeg)) 1) (mReq (mInB (1 : Int32) (mLn (mRF 230 (((mset (mPS X p) (mRF 230 (((mPS X p) 0 22).toNatClampNeg)) 0 a) 0 22).toNatClampNeg)))) ((Value.ref 0).category = 1 ∧ (Φ (.inl none) (mset (mset (mset (mPS X p) (mRF 230 (((mPS X p) 0 22).toNatClampNeg)) 0 a) (mRF 230 (((mset (mPS X p) (mRF 230 (((mPS X p) 0 22).toNatClampNeg)) 0 a) 0 22).toNatClampNeg)) 1 b) 0 22 (((mset (mset (mPS X p) (mRF 230 (((mPS X p) 0 22).toNatClampNeg)) 0 a) (mRF 230 (((mset (mPS X p) (mRF 230 (((mPS X p) 0 22).toNatClampNeg)) 0 a) 0 22).toNatClampNeg)) 1 b) 0 22) + (1 : Int32))) o ∧ 0 ≤ 0 ∧ 0 ≤ 0)))))))) ∧ (¬ ((mPS X p) 0 5) = 0 → Φ (.inl none) (mPS X p) o ∧ 0 ≤ 0 ∧ 0 ≤ 0)
  have e22 : (mPS X p) 0 22 = nI c := by rw [mPS_f _ _ (by decide) (by decide) (by decide)]; exact hc
  have e5 : (mPS X p) 0 5 = p.2.1 := mPS_5 X p
  rw [e5, e22, nI_cl (by omega), rf_230, mset_ne _ (a := 231 + c) (x := 0) _ _ (by omega), e22, nI_cl (by omega), rf_230, mset_ne _ (a := 231 + c) (x := 0) _ _ (by omega), mset_ne _ (a := 231 + c) (x := 0) _ _ (by omega), e22, nI_1, sB_4 (by omega), sL_4 (by omega), mIn_ok h160 (by decide), mPS_set _ _ (by omega), mPS_set _ _ (by omega), mPS_set0 _ _ (by decide) (by decide) (by decide)]
  refine ⟨fun q => ?_, fun q => ?_⟩
  · rw [if_pos q] at hΦ
    exact ⟨rfl, eR hΦ⟩
  · rw [if_neg q] at hΦ
    exact eR hΦ
theorem r_opensOne {X : Mm} {p : PS} {k : Nat} (hk : X 0 8 = nI k) (h6 : k ≤ 6) (hd : 1 ≤ d) : mFi l g d k_X12_opensOne [.ref 0] (mPS X p) (if p.2.1 = 0 ∧ k < 6 then 1 else 0) (if p.2.1 = 0 then (if k < 6 then mPS (mset X 0 8 (nI (k + 1))) p else mPS X (pWr 3 (nI p.1) p)) else mPS X p) := by
  refine nFi 0 rfl rfl rfl (by decide) rfl (fun htr o Φ hΦ => mGoOn (mOk (by decide)) rfl [] 400 ?_)
  show (¬ ((mPS X p) 0 5) = 0 → (¬ ((mPS X p) 0 5) = 0 → (¬ ((mPS X p) 0 5) = 0 → ((0 : Int32) = 0 ∨ (0 : Int32) = 1) ∧ Φ (.inl (some (.int (0 : Int32)))) (mPS X p) o ∧ 0 ≤ 0 ∧ 0 ≤ 0) ∧ (((mPS X p) 0 5) = 0 → ((1 : Int32) = 0 ∨ (1 : Int32) = 1) ∧ Φ (.inl (some (.int (1 : Int32)))) (mPS X p) o ∧ 0 ≤ 0 ∧ 0 ≤ 0)) ∧ (((mPS X p) 0 5) = 0 → (Value.ref 0).category = 1 ∧ ((¬ ((mset (mPS X p) 0 8 (((mPS X p) 0 8) + (1 : Int32))) 0 5) = 0 → ((0 : Int32) = 0 ∨ (0 : Int32) = 1) ∧ Φ (.inl (some (.int (0 : Int32)))) (mset (mPS X p) 0 8 (((mPS X p) 0 8) + (1 : Int32))) o ∧ 0 ≤ 0 ∧ 0 ≤ 0) ∧ (((mset (mPS X p) 0 8 (((mPS X p) 0 8) + (1 : Int32))) 0 5) = 0 → ((1 : Int32) = 0 ∨ (1 : Int32) = 1) ∧ Φ (.inl (some (.int (1 : Int32)))) (mset (mPS X p) 0 8 (((mPS X p) 0 8) + (1 : Int32))) o ∧ 0 ≤ 0 ∧ 0 ≤ 0)))) ∧ (((mPS X p) 0 5) = 0 → (¬ ((mPS X p) 0 8) = (6 : Int32) → (¬ ((mPS X p) 0 5) = 0 → (¬ ((mPS X p) 0 5) = 0 → ((0 : Int32) = 0 ∨ (0 : Int32) = 1) ∧ Φ (.inl (some (.int (0 : Int32)))) (mPS X p) o ∧ 0 ≤ 0 ∧ 0 ≤ 0) ∧ (((mPS X p) 0 5) = 0 → ((1 : Int32) = 0 ∨ (1 : Int32) = 1) ∧ Φ (.inl (some (.int (1 : Int32)))) (mPS X p) o ∧ 0 ≤ 0 ∧ 0 ≤ 0)) ∧ (((mPS X p) 0 5) = 0 → (Value.ref 0).category = 1 ∧ ((¬ ((mset (mPS X p) 0 8 (((mPS X p) 0 8) + (1 : Int32))) 0 5) = 0 → ((0 : Int32) = 0 ∨ (0 : Int32) = 1) ∧ Φ (.inl (some (.int (0 : Int32)))) (mset (mPS X p) 0 8 (((mPS X p) 0 8) + (1 : Int32))) o ∧ 0 ≤ 0 ∧ 0 ≤ 0) ∧ (((mset (mPS X p) 0 8 (((mPS X p) 0 8) + (1 : Int32))) 0 5) = 0 → ((1 : Int32) = 0 ∨ (1 : Int32) = 1) ∧ Φ (.inl (some (.int (1 : Int32)))) (mset (mPS X p) 0 8 (((mPS X p) 0 8) + (1 : Int32))) o ∧ 0 ≤ 0 ∧ 0 ≤ 0)))) ∧ (((mPS X p) 0 8) = (6 : Int32) → True ∧ mCal l g d k_X12_opensOne Φ 0 0 _ 22 k_X12_wrong false [.ref 0, .int (3 : Int32), .int ((mPS X p) 0 4)] [] [.ref 0] (mPS X p) o 0 0 0))
  have e8 : (mPS X p) 0 8 = nI k := by rw [mPS_f _ _ (by decide) (by decide) (by decide)]; exact hk
  have e5 : (mPS X p) 0 5 = p.2.1 := mPS_5 X p
  rw [e5, e8, nI_1, mPS_set0 _ _ (by decide) (by decide) (by decide), mPS_5, mPS_4]
  by_cases q : p.2.1 = 0
  · refine ⟨fun y => absurd q y, fun _ => ⟨fun y => ⟨fun u => absurd q u, fun _ => ⟨rfl, fun u => absurd q u, fun _ => ⟨Or.inr rfl, eR ?_⟩⟩⟩, fun y => ⟨trivial, fCv htr (q_wrong 3 (nI p.1) X p) (by omega) ?_⟩⟩⟩
    · have hk6 : k < 6 := by
        rcases Nat.lt_or_eq_of_le h6 with z | z
        · exact z
        · exact absurd (by rw [z]; rfl) y
      rw [if_pos ⟨q, hk6⟩, if_pos q, if_pos hk6] at hΦ
      exact hΦ
    · rw [show (6 : Int32) = nI 6 from rfl, nI_eq (by omega) (by decide)] at y
      have hk6 : ¬ k < 6 := by omega
      rw [if_neg (fun z => hk6 z.2), if_pos q, if_neg hk6] at hΦ
      have e : pWr 3 (nI p.1) p = (p.1, 3, nI p.1) := if_pos q
      rw [e] at hΦ ⊢
      show (¬ ((mPS X (p.1, 3, nI p.1)) 0 5) = 0 → ((0 : Int32) = 0 ∨ (0 : Int32) = 1) ∧ Φ (.inl (some (.int (0 : Int32)))) (mPS X (p.1, 3, nI p.1)) o ∧ 0 ≤ 0 ∧ 0 ≤ 0) ∧ (((mPS X (p.1, 3, nI p.1)) 0 5) = 0 → ((1 : Int32) = 0 ∨ (1 : Int32) = 1) ∧ Φ (.inl (some (.int (1 : Int32)))) (mPS X (p.1, 3, nI p.1)) o ∧ 0 ≤ 0 ∧ 0 ≤ 0)
      rw [mPS_5]
      exact ⟨fun _ => ⟨Or.inl rfl, eR hΦ⟩, fun z => absurd (show (3 : Int32) = 0 from z) (by decide)⟩
  · rw [if_neg (fun z => q z.1), if_neg q] at hΦ
    exact ⟨fun _ => ⟨fun _ => ⟨fun _ => ⟨Or.inl rfl, eR hΦ⟩, fun y => absurd y q⟩, fun y => absurd y q⟩, fun y => absurd y q⟩
end R29
