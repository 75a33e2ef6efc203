set_option maxRecDepth 100000
/-! WHAT IS CALLED: the law's reckoning -/
def eqL (l : List Nat) (m m2 : Mm) : Prop := ∀ a, a ∉ l → m2 a = m a
theorem eqL_refl (l : List Nat) (m : Mm) : eqL l m m := fun _ _ => rfl
theorem eqL_trans {l : List Nat} {m m2 m3 : Mm} (h : eqL l m m2) (h2 : eqL l m2 m3) : eqL l m m3 := fun a ha => (h2 a ha).trans (h a ha)
theorem eqL_sub {l l2 : List Nat} {m m2 : Mm} (h : eqL l m m2) (hs : ∀ a, a ∈ l → a ∈ l2) : eqL l2 m m2 := fun a ha => h a (fun q => ha (hs a q))
theorem eqL_mset {l : List Nat} {m m2 : Mm} (h : eqL l m m2) {a : Nat} (ha : a ∈ l) (i : Nat) (v : Int32) : eqL l m (mset m2 a i v) := fun b hb => by
  rw [mset_ne m2 (a := a) (x := b) i v (fun q => hb (q ▸ ha))]
  exact h b hb
theorem eqL_cl {l : List Nat} {m m2 A : Mm} (hl : ∀ a, a ∈ l → ∀ i, sc a i = true) (h : eqL l m m2) (hm : cl m = A) : cl m2 = A := by
  rw [← hm]
  funext a i
  unfold cl
  cases hs : sc a i with
  | true => rfl
  | false =>
    show m2 a i = m a i
    rw [h a (fun q => by rw [hl a q i] at hs; exact Bool.noConfusion hs)]
theorem nI_dec1 {n : Nat} (h : 1 ≤ n) : nI n - 1 = nI (n - 1) := by
  have := nI_pred (n - 1)
  rwa [show n - 1 + 1 = n by omega] at this
theorem nI_dec {n : Nat} (h : 1 ≤ n) : nI n + (-1 : Int32) = nI (n - 1) := by
  rw [← nI_dec1 h, Int32.sub_eq_add_neg]
abbrev lK : List Nat := [411, 412]
theorem sc_K : ∀ a, a ∈ lK → ∀ i, sc a i = true := by
  intro a ha i
  rcases List.mem_cons.mp ha with rfl | ha
  · rfl
  · rcases List.mem_cons.mp ha with rfl | ha
    · rfl
    · cases ha
theorem eqK_cl {m m2 A : Mm} (h : eqL lK m m2) (hm : cl m = A) : cl m2 = A := eqL_cl sc_K h hm
def jby (c : Nat) (u v : Int32) : Int32 :=
  if c = 2 then u + v else if c = 3 then u - v else if c = 4 then u * v else if c = 5 then (if v = 0 then 0 else if v = -1 then -u else u / v)
  else if c = 6 then (if v = 0 then 0 else if v = -1 then 0 else jrem u v) else if c = 7 then (if u < v then u else v) else (if v < u then u else v)
/-- how many codes the law has -/
def nW (A : Mm) : Nat := (A 0 21).toNatClampNeg
def c0 (A : Mm) (k : Nat) : Nat := (A (70 + k) 0).toNatClampNeg
def c1 (A : Mm) (k : Nat) : Nat := (A (70 + k) 1).toNatClampNeg
/-- values on the stack ahead of the k-th code -/
def ht (A : Mm) : Nat → Nat
  | 0 => 0
  | k + 1 => if c0 A k < 2 then ht A k + 1 else ht A k - 1
def LwOk (A : Mm) : Prop := A 0 21 = nI (nW A) ∧ nW A ≤ 150 ∧ ∀ k, k < nW A → A (70 + k) 0 = nI (c0 A k) ∧ A (70 + k) 1 = nI (c1 A k) ∧ c0 A k ≤ 8 ∧ c1 A k ≤ 999 ∧ (c0 A k = 1 → c1 A k < 8) ∧ (2 ≤ c0 A k → 2 ≤ ht A k)
def evS (A : Mm) (kn : Nat → Int32) : Nat → Nat → Int32
  | 0 => fun _ => kn 0 + kn 2
  | k + 1 => if c0 A k = 0 then upd (evS A kn k) (ht A k) (nI (c1 A k)) else if c0 A k < 2 then upd (evS A kn k) (ht A k) (kn (c1 A k))
    else upd (evS A kn k) (ht A k - 2) (jby (c0 A k) (evS A kn k (ht A k - 2)) (evS A kn k (ht A k - 1)))
def fm24 (x : Int32) : Int32 := jrem (jrem x 24 + 24) 24
def lawV (A : Mm) (kn : Nat → Int32) : Int32 := fm24 (evS A kn (nW A) 0)
def kn8 (a b c d e f g h : Int32) : Nat → Int32 := fun i => if i = 0 then a else if i = 1 then b else if i = 2 then c else if i = 3 then d else if i = 4 then e else if i = 5 then f else if i = 6 then g else h
def wl (A : Mm) (a b c d e f g h : Int32) : Int32 := lawV A (kn8 a b c d e f g h)
theorem ht_le (A : Mm) : ∀ k, ht A k ≤ k
  | 0 => Nat.le_refl _
  | k + 1 => by
    have := ht_le A k
    unfold ht
    by_cases q : c0 A k < 2
    · rw [if_pos q]; omega
    · rw [if_neg q]; omega
theorem jrem_toInt (y : Int32) {n : Int} {k : Int32} (hk : k.toInt = n) (h0 : 0 < n) : (jrem y k).toInt = y.toInt.tmod n := by
  unfold jrem
  have hb := y.toInt_lt
  have hb2 := y.le_toInt
  have hm := Int.tmod_add_mul_tdiv y.toInt n
  have s1 : -2147483648 ≤ n * y.toInt.tdiv n ∧ n * y.toInt.tdiv n < 2147483648 ∧ -2147483648 ≤ y.toInt.tmod n ∧ y.toInt.tmod n < 2147483648 ∧ -2147483648 ≤ y.toInt.tdiv n ∧ y.toInt.tdiv n < 2147483648 := by
    rcases Int.le_total 0 y.toInt with h | h
    · have h1 := Int.tmod_nonneg n h
      have h2 := Int.tdiv_nonneg h (by omega : 0 ≤ n)
      have h3 : y.toInt.tdiv n ≤ n * y.toInt.tdiv n := by
        have := Int.mul_le_mul_of_nonneg_right (show (1 : Int) ≤ n by omega) h2
        rwa [Int.one_mul] at this
      have h4 := Int.mul_nonneg (by omega : 0 ≤ n) h2
      omega
    · have e1 : y.toInt.tmod n = - ((-y.toInt).tmod n) := by rw [Int.neg_tmod, Int.neg_neg]
      have e2 : y.toInt.tdiv n = - ((-y.toInt).tdiv n) := by rw [Int.neg_tdiv, Int.neg_neg]
      have h1 := Int.tmod_nonneg n (by omega : 0 ≤ - y.toInt)
      have h2 := Int.tdiv_nonneg (by omega : 0 ≤ - y.toInt) (by omega : 0 ≤ n)
      have h3 : (- y.toInt).tdiv n ≤ n * (- y.toInt).tdiv n := by
        have := Int.mul_le_mul_of_nonneg_right (show (1 : Int) ≤ n by omega) h2
        rwa [Int.one_mul] at this
      have h4 := Int.mul_nonneg (by omega : 0 ≤ n) h2
      have hm2 := Int.tmod_add_mul_tdiv (- y.toInt) n
      rw [e2, Int.mul_neg, e1]
      omega
  rw [Int32.toInt_sub, Int32.toInt_mul, Int32.toInt_div, hk]
  rw [Int.bmod_eq_of_le_mul_two (x := y.toInt.tdiv n) (by omega) (by omega), Int.mul_comm, Int.bmod_eq_of_le_mul_two (x := n * y.toInt.tdiv n) (by omega) (by omega), Int.bmod_eq_of_le_mul_two (by omega) (by omega)]
  omega
theorem tmod24 (x : Int) : -24 < x.tmod 24 ∧ x.tmod 24 < 24 := ⟨Int.lt_tmod_of_pos x (by decide), Int.tmod_lt_of_pos x (by decide)⟩
theorem fm_toInt (x : Int32) : (fm24 x).toInt = x.toInt % 24 := by
  unfold fm24
  have h2 := jrem_toInt x (n := 24) (k := 24) rfl (by decide)
  have h3 := tmod24 x.toInt
  have h4 : (jrem x 24 + 24).toInt = x.toInt.tmod 24 + 24 := by
    rw [Int32.toInt_add, h2]
    show (x.toInt.tmod 24 + 24).bmod (2 ^ 32) = _
    rw [Int.bmod_eq_of_le_mul_two (by omega) (by omega)]
  rw [jrem_toInt (jrem x 24 + 24) (n := 24) (k := 24) rfl (by decide), h4, Int.tmod_eq_emod_of_nonneg (by omega)]
  have h5 := Int.tmod_add_mul_tdiv x.toInt 24
  omega
theorem fm_In (x : Int32) : In (fm24 x) 24 := by
  have h := fm_toInt x
  refine ⟨(fm24 x).toInt.toNat, by omega, ?_⟩
  rw [fa_eq, nI_toInt (by omega)]
  omega
section R8
variable {l : Launch} {g : mG} {d : Nat} {A : Mm}
theorem r_by (m : Mm) (hd : 1 ≤ d) {c : Nat} (h1 : 2 ≤ c) (h2 : c ≤ 8) (u v : Int32) : mFi l g d k_X12_by [.int (nI c), .int u, .int v] m (jby c u v) m := by
  refine nFi 0 rfl rfl rfl (by decide) rfl (fun htr o Φ hΦ => mGoOn (mOk (by decide)) rfl [] 400 ?_)
  show (((nI c).toInt = 2 → Φ (.inl (some (.int (u + v)))) m o ∧ 0 ≤ 0 ∧ 0 ≤ 0) ∧ ((nI c).toInt = 3 → Φ (.inl (some (.int (u - v)))) m o ∧ 0 ≤ 0 ∧ 0 ≤ 0) ∧ ((nI c).toInt = 4 → Φ (.inl (some (.int (u * v)))) m o ∧ 0 ≤ 0 ∧ 0 ≤ 0) ∧ ((nI c).toInt = 5 → (¬ v = 0 → (¬ v = (-1 : Int32) → ¬ v = 0 ∧ (Φ (.inl (some (.int (u / v)))) m o ∧ 0 ≤ 0 ∧ 0 ≤ 0)) ∧ (v = (-1 : Int32) → Φ (.inl (some (.int (-u)))) m o ∧ 0 ≤ 0 ∧ 0 ≤ 0)) ∧ (v = 0 → Φ (.inl (some (.int (0 : Int32)))) m o ∧ 0 ≤ 0 ∧ 0 ≤ 0)) ∧ ((nI c).toInt = 6 → (v = 0 → Φ (.inl (some (.int (0 : Int32)))) m o ∧ 0 ≤ 0 ∧ 0 ≤ 0) ∧ (¬ v = 0 → (¬ v = (-1 : Int32) → ¬ v = 0 ∧ (Φ (.inl (some (.int (jrem u v)))) m o ∧ 0 ≤ 0 ∧ 0 ≤ 0)) ∧ (v = (-1 : Int32) → Φ (.inl (some (.int (0 : Int32)))) m o ∧ 0 ≤ 0 ∧ 0 ≤ 0))) ∧ ((nI c).toInt = 7 → mCal l g d k_X12_by Φ 0 0 _ 93 k_X12_less false [.int u, .int v] [] [.int (nI c), .int u, .int v] m o 0 0 1) ∧ True) ∧ ((nI c).toInt < 2 ∨ 7 < (nI c).toInt → mCal l g d k_X12_by Φ 0 0 _ 99 k_X12_more false [.int u, .int v] [] [.int (nI c), .int u, .int v] m o 0 0 1)
  rw [nI_toInt (by omega)]
  unfold jby at hΦ
  refine ⟨⟨fun h => ?_, fun h => ?_, fun h => ?_, fun h => ?_, fun h => ?_, fun h => ?_, trivial⟩, fun h => ?_⟩
  · have : c = 2 := by omega
    subst this; exact eR hΦ
  · have : c = 3 := by omega
    subst this; exact eR hΦ
  · have : c = 4 := by omega
    subst this; exact eR hΦ
  · have : c = 5 := by omega
    subst this
    replace hΦ : Φ (.inl (some (.int (if v = 0 then 0 else if v = -1 then -u else u / v)))) m o := hΦ
    refine ⟨fun q => ⟨fun q2 => ⟨q, eI hΦ (by rw [if_neg q, if_neg q2]) rfl⟩, fun q2 => eI hΦ (by rw [if_neg q, if_pos q2]) rfl⟩, fun q => eI hΦ (by rw [if_pos q]) rfl⟩
  · have : c = 6 := by omega
    subst this
    replace hΦ : Φ (.inl (some (.int (if v = 0 then 0 else if v = -1 then 0 else jrem u v)))) m o := hΦ
    refine ⟨fun q => eI hΦ (by rw [if_pos q]) rfl, fun q => ⟨fun q2 => ⟨q, eI hΦ (by rw [if_neg q, if_neg q2]) rfl⟩, fun q2 => eI hΦ (by rw [if_neg q, if_pos q2]) rfl⟩⟩
  · have : c = 7 := by omega
    subst this
    exact fCi htr (r_less _ _ _) hd (eR hΦ)
  · have : c = 8 := by omega
    subst this
    exact fCi htr (r_more _ _ _) hd (eR hΦ)

theorem r_byLaw (hA : LwOk A) {m : Mm} (hm : cl m = A) (hd : 2 ≤ d) {kn : Nat → Int32} (hk : ∀ j, j < 8 → m 412 j = kn j) : mHi l g d k_X12_byLaw [.ref 0] m (fun r m2 => r = lawV A kn ∧ eqL lK m m2) := by
  refine nBi 2 rfl rfl rfl (by decide) rfl (fun htr o Φ hΦ => mGoOn (mOk (by decide)) rfl [23] 400 ?_)
  show mWB l g d k_X12_byLaw Φ 0 0 23 [.ref 0, .int (0 : Int32), .int (0 : Int32)] [] (mset m 411 0 ((m 412 0) + (m 412 2))) o 0 0
  have key : mWB l g d k_X12_byLaw Φ 0 0 23 [.ref 0, .int (nI (ht A 0)), .int (nI 0)] [] (mset m 411 0 (m 412 0 + m 412 2)) o 0 0 := by
    refine mLoopZ (P := fun k => ∀ m', eqL lK m m' → m' 412 = m 412 → (∀ j, j < ht A k ∨ j = 0 → m' 411 j = evS A kn k j) → mWB l g d k_X12_byLaw Φ 0 0 23 [.ref 0, .int (nI (ht A k)), .int (nI k)] [] m' o 0 0) (N := nW A) ?_ ?_ (mset m 411 0 (m 412 0 + m 412 2)) (eqL_mset (eqL_refl _ _) (by simp) _ _) (mset_ne _ _ _ (by decide)) ?_
    · intro m' he h412 hst
      have hm' := eqK_cl he hm
      have hN := hA.2.1
      refine mGoOn (mOk (by decide)) rfl [23,90] 400 ?_
      show ((m' 0 21) ≤ (nI (nW A)) → ¬ (24 : Int32) = 0 ∧ (¬ (24 : Int32) = 0 ∧ (Φ (.inl (some (.int (jrem ((jrem (m' 411 0) (24 : Int32)) + (24 : Int32)) (24 : Int32))))) m' o ∧ 0 ≤ 0 ∧ 0 ≤ 0))) ∧ (¬ (m' 0 21) ≤ (nI (nW A)) → mReq (mInB (nI (nW A)) 160) (mReq (mIsB (mRF 69 ((nI (nW A)).toNatClampNeg)) 1) (mReq (mInB (0 : Int32) (mLn (mRF 69 ((nI (nW A)).toNatClampNeg)))) (((2 : Int32) ≤ (m' (mRF 69 ((nI (nW A)).toNatClampNeg)) 0) → mWB l g d k_X12_byLaw Φ 0 0 90 [.ref 0, .int (nI (ht A (nW A))), .int (nI (nW A))] [] m' o 0 0) ∧ (¬ (2 : Int32) ≤ (m' (mRF 69 ((nI (nW A)).toNatClampNeg)) 0) → mReq (mInB (nI (nW A)) 160) (mReq (mIsB (mRF 69 ((nI (nW A)).toNatClampNeg)) 1) (mReq (mInB (0 : Int32) (mLn (mRF 69 ((nI (nW A)).toNatClampNeg)))) ((¬ (m' (mRF 69 ((nI (nW A)).toNatClampNeg)) 0) = 0 → mReq (mInB (nI (nW A)) 160) (mReq (mIsB (mRF 69 ((nI (nW A)).toNatClampNeg)) 1) (mReq (mInB (1 : Int32) (mLn (mRF 69 ((nI (nW A)).toNatClampNeg)))) (mReq (mInB (m' (mRF 69 ((nI (nW A)).toNatClampNeg)) 1) 8) (mReq (mInB (nI (ht A (nW A))) 160) (mWB l g d k_X12_byLaw Φ 0 0 23 [.ref 0, .int ((nI (ht A (nW A))) + (1 : Int32)), .int ((nI (nW A)) + (1 : Int32))] [] (mset m' 411 ((nI (ht A (nW A))).toNatClampNeg) (m' 412 ((m' (mRF 69 ((nI (nW A)).toNatClampNeg)) 1).toNatClampNeg))) o 0 0)))))) ∧ ((m' (mRF 69 ((nI (nW A)).toNatClampNeg)) 0) = 0 → mReq (mInB (nI (nW A)) 160) (mReq (mIsB (mRF 69 ((nI (nW A)).toNatClampNeg)) 1) (mReq (mInB (1 : Int32) (mLn (mRF 69 ((nI (nW A)).toNatClampNeg)))) (mReq (mInB (nI (ht A (nW A))) 160) (mWB l g d k_X12_byLaw Φ 0 0 23 [.ref 0, .int ((nI (ht A (nW A))) + (1 : Int32)), .int ((nI (nW A)) + (1 : Int32))] [] (mset m' 411 ((nI (ht A (nW A))).toNatClampNeg) (m' (mRF 69 ((nI (nW A)).toNatClampNeg)) 1)) o 0 0)))))))))))))
      simp (disch := omega) only [mReq_tt, nI_0a, nI_a0, nI_cl, mIn_ok, lit_add, lit_sub, add_lit, lit_le, le_lit, lit_lt, lt_lit, eq_lit, nI_add, nI_1, nI_leI, nI_ltI, nI_eq, mIn_0, mIn_1, mIn_2, mIn_3, nI_l0, nI_p0, rf_22, rf_44, rf_60, rf_69, rf_391, rf_7, rf_37, rf_51, rf_230, rf_401, rf_413, rf_496, rf_513, rf_518, sB_2, sB_3, sB_4, sB_5, sB_6, sB_7, sL_2, sL_3, sL_4, sL_5, sL_6, sL_7, not_true_eq_false, not_false_eq_true, false_implies, true_implies, true_and, and_true, eq_self, true_or, or_true, Nat.le_refl, Nat.zero_add, Nat.add_zero, clO hm', hA.1]
      refine ⟨by decide, by decide, hΦ _ _ ⟨?_, he⟩⟩
      rw [hst 0 (Or.inr rfl)]
      rfl
    · intro k hk2 ih m' he h412 hst
      have hm' := eqK_cl he hm
      have hc := hA.2.2 k hk2
      have hh := ht_le A k
      have hN := hA.2.1
      refine mGoOn (mOk (by decide)) rfl [23,90] 400 ?_
      show ((m' 0 21) ≤ (nI k) → ¬ (24 : Int32) = 0 ∧ (¬ (24 : Int32) = 0 ∧ (Φ (.inl (some (.int (jrem ((jrem (m' 411 0) (24 : Int32)) + (24 : Int32)) (24 : Int32))))) m' o ∧ 0 ≤ 0 ∧ 0 ≤ 0))) ∧ (¬ (m' 0 21) ≤ (nI k) → mReq (mInB (nI k) 160) (mReq (mIsB (mRF 69 ((nI k).toNatClampNeg)) 1) (mReq (mInB (0 : Int32) (mLn (mRF 69 ((nI k).toNatClampNeg)))) (((2 : Int32) ≤ (m' (mRF 69 ((nI k).toNatClampNeg)) 0) → mWB l g d k_X12_byLaw Φ 0 0 90 [.ref 0, .int (nI (ht A k)), .int (nI k)] [] m' o 0 0) ∧ (¬ (2 : Int32) ≤ (m' (mRF 69 ((nI k).toNatClampNeg)) 0) → mReq (mInB (nI k) 160) (mReq (mIsB (mRF 69 ((nI k).toNatClampNeg)) 1) (mReq (mInB (0 : Int32) (mLn (mRF 69 ((nI k).toNatClampNeg)))) ((¬ (m' (mRF 69 ((nI k).toNatClampNeg)) 0) = 0 → mReq (mInB (nI k) 160) (mReq (mIsB (mRF 69 ((nI k).toNatClampNeg)) 1) (mReq (mInB (1 : Int32) (mLn (mRF 69 ((nI k).toNatClampNeg)))) (mReq (mInB (m' (mRF 69 ((nI k).toNatClampNeg)) 1) 8) (mReq (mInB (nI (ht A k)) 160) (mWB l g d k_X12_byLaw Φ 0 0 23 [.ref 0, .int ((nI (ht A k)) + (1 : Int32)), .int ((nI k) + (1 : Int32))] [] (mset m' 411 ((nI (ht A k)).toNatClampNeg) (m' 412 ((m' (mRF 69 ((nI k).toNatClampNeg)) 1).toNatClampNeg))) o 0 0)))))) ∧ ((m' (mRF 69 ((nI k).toNatClampNeg)) 0) = 0 → mReq (mInB (nI k) 160) (mReq (mIsB (mRF 69 ((nI k).toNatClampNeg)) 1) (mReq (mInB (1 : Int32) (mLn (mRF 69 ((nI k).toNatClampNeg)))) (mReq (mInB (nI (ht A k)) 160) (mWB l g d k_X12_byLaw Φ 0 0 23 [.ref 0, .int ((nI (ht A k)) + (1 : Int32)), .int ((nI k) + (1 : Int32))] [] (mset m' 411 ((nI (ht A k)).toNatClampNeg) (m' (mRF 69 ((nI k).toNatClampNeg)) 1)) o 0 0)))))))))))))
      have hf : ¬ nW A ≤ k := by omega
      simp (disch := omega) only [mReq_tt, nI_0a, nI_a0, nI_cl, mIn_ok, lit_add, lit_sub, add_lit, lit_le, le_lit, lit_lt, lt_lit, eq_lit, nI_add, nI_1, nI_leI, nI_ltI, nI_eq, mIn_0, mIn_1, mIn_2, mIn_3, nI_l0, nI_p0, rf_22, rf_44, rf_60, rf_69, rf_391, rf_7, rf_37, rf_51, rf_230, rf_401, rf_413, rf_496, rf_513, rf_518, sB_2, sB_3, sB_4, sB_5, sB_6, sB_7, sL_2, sL_3, sL_4, sL_5, sL_6, sL_7, not_true_eq_false, not_false_eq_true, false_implies, true_implies, true_and, and_true, eq_self, true_or, or_true, Nat.le_refl, Nat.zero_add, Nat.add_zero, clO hm', clA hm', hA.1, hc.1, hc.2.1, hf]
      refine ⟨fun h2 => ?_, fun h2 => ⟨fun h3 => ?_, fun h3 => ?_⟩⟩
      · have h2h := hc.2.2.2.2.2 h2
        refine mGoOn (mOk (by decide)) rfl [93] 400 ?_
        show mWB l g d k_X12_byLaw Φ 0 0 93 [.ref 0, .int ((nI (ht A k)) + (-1 : Int32)), .int (nI k)] [] m' o 0 0
        rw [nI_dec (by omega)]
        refine mGoOn (mOk (by decide)) rfl [23] 400 ?_
        show mReq (mInB (nI k) 160) (mReq (mIsB (mRF 69 ((nI k).toNatClampNeg)) 1) (mReq (mInB (0 : Int32) (mLn (mRF 69 ((nI k).toNatClampNeg)))) (mReq (mInB ((nI (ht A k - 1)) - (1 : Int32)) 160) (mReq (mInB (nI (ht A k - 1)) 160) (mCal l g d k_X12_byLaw Φ 0 0 _ 122 k_X12_by false [.int (m' (mRF 69 ((nI k).toNatClampNeg)) 0), .int (m' 411 (((nI (ht A k - 1)) - (1 : Int32)).toNatClampNeg)), .int (m' 411 ((nI (ht A k - 1)).toNatClampNeg))] [.int ((nI (ht A k - 1)) - (1 : Int32)), .ref 411] [.ref 0, .int (nI (ht A k - 1)), .int (nI k)] m' o 0 0 1)))))
        rw [show nI (ht A k - 1) - (1 : Int32) = nI (ht A k - 2) from nI_dec1 (by omega)]
        simp (disch := omega) only [mReq_tt, nI_0a, nI_a0, nI_cl, mIn_ok, lit_add, lit_sub, add_lit, lit_le, le_lit, lit_lt, lt_lit, eq_lit, nI_add, nI_1, nI_leI, nI_ltI, nI_eq, mIn_0, mIn_1, mIn_2, mIn_3, nI_l0, nI_p0, rf_22, rf_44, rf_60, rf_69, rf_391, rf_7, rf_37, rf_51, rf_230, rf_401, rf_413, rf_496, rf_513, rf_518, sB_2, sB_3, sB_4, sB_5, sB_6, sB_7, sL_2, sL_3, sL_4, sL_5, sL_6, sL_7, not_true_eq_false, not_false_eq_true, false_implies, true_implies, true_and, and_true, eq_self, true_or, or_true, Nat.le_refl, Nat.zero_add, Nat.add_zero, clO hm', clA hm', hA.1, hc.1, hc.2.1]
        refine fCi htr (r_by _ (by omega) h2 hc.2.2.1 _ _) (by omega) ?_
        show mReq (mInB (nI (ht A k - 2)) 160) (mWB l g d k_X12_byLaw Φ 0 0 23 [.ref 0, .int (nI (ht A k - 1)), .int ((nI k) + (1 : Int32))] [] (mset m' 411 ((nI (ht A k - 2)).toNatClampNeg) (jby (c0 A k) (m' 411 (ht A k - 2)) (m' 411 (ht A k - 1)))) o 0 0)
        simp (disch := omega) only [mReq_tt, nI_0a, nI_a0, nI_cl, mIn_ok, lit_add, lit_sub, add_lit, lit_le, le_lit, lit_lt, lt_lit, eq_lit, nI_add, nI_1, nI_leI, nI_ltI, nI_eq, mIn_0, mIn_1, mIn_2, mIn_3, nI_l0, nI_p0, rf_22, rf_44, rf_60, rf_69, rf_391, rf_7, rf_37, rf_51, rf_230, rf_401, rf_413, rf_496, rf_513, rf_518, sB_2, sB_3, sB_4, sB_5, sB_6, sB_7, sL_2, sL_3, sL_4, sL_5, sL_6, sL_7, not_true_eq_false, not_false_eq_true, false_implies, true_implies, true_and, and_true, eq_self, true_or, or_true, Nat.le_refl, Nat.zero_add, Nat.add_zero]
        have e1 : ht A (k + 1) = ht A k - 1 := by show (if c0 A k < 2 then _ else _) = _; rw [if_neg (by omega)]
        have ih := ih (mset m' 411 (ht A k - 2) (jby (c0 A k) (m' 411 (ht A k - 2)) (m' 411 (ht A k - 1)))) (eqL_mset he (by simp) _ _) (by rw [mset_ne _ _ _ (by decide)]; exact h412) (by
          intro j hj
          show _ = (if c0 A k = 0 then _ else if c0 A k < 2 then _ else upd (evS A kn k) (ht A k - 2) (jby (c0 A k) (evS A kn k (ht A k - 2)) (evS A kn k (ht A k - 1)))) j
          rw [if_neg (by omega), if_neg (by omega), mset_eq, hst _ (by omega), hst _ (by omega)]
          by_cases q : j = ht A k - 2
          · rw [q, pk_us, pk_us]
          · rw [pk_un q, pk_un q]; exact hst j (by omega))
        rw [e1] at ih
        exact ih
      · have h1 : c0 A k = 1 := by
          have : c0 A k ≠ 0 := h3
          omega
        have h18 := hc.2.2.2.2.1 h1
        simp (disch := omega) only [mReq_tt, nI_0a, nI_a0, nI_cl, mIn_ok, lit_add, lit_sub, add_lit, lit_le, le_lit, lit_lt, lt_lit, eq_lit, nI_add, nI_1, nI_leI, nI_ltI, nI_eq, mIn_0, mIn_1, mIn_2, mIn_3, nI_l0, nI_p0, rf_22, rf_44, rf_60, rf_69, rf_391, rf_7, rf_37, rf_51, rf_230, rf_401, rf_413, rf_496, rf_513, rf_518, sB_2, sB_3, sB_4, sB_5, sB_6, sB_7, sL_2, sL_3, sL_4, sL_5, sL_6, sL_7, not_true_eq_false, not_false_eq_true, false_implies, true_implies, true_and, and_true, eq_self, true_or, or_true, Nat.le_refl, Nat.zero_add, Nat.add_zero]
        have e1 : ht A (k + 1) = ht A k + 1 := by show (if c0 A k < 2 then _ else _) = _; rw [if_pos (by omega)]
        have ih := ih (mset m' 411 (ht A k) (m' 412 (c1 A k))) (eqL_mset he (by simp) _ _) (by rw [mset_ne _ _ _ (by decide)]; exact h412) (by
          intro j hj
          show _ = (if c0 A k = 0 then _ else if c0 A k < 2 then upd (evS A kn k) (ht A k) (kn (c1 A k)) else _) j
          rw [if_neg (by omega), if_pos (by omega), mset_eq, h412, hk _ h18]
          by_cases q : j = ht A k
          · rw [q, pk_us, pk_us]
          · rw [pk_un q, pk_un q]; exact hst j (by omega))
        rw [e1] at ih
        exact ih
      · have h1 : c0 A k = 0 := h3
        have e1 : ht A (k + 1) = ht A k + 1 := by show (if c0 A k < 2 then _ else _) = _; rw [if_pos (by omega)]
        have ih := ih (mset m' 411 (ht A k) (nI (c1 A k))) (eqL_mset he (by simp) _ _) (by rw [mset_ne _ _ _ (by decide)]; exact h412) (by
          intro j hj
          show _ = (if c0 A k = 0 then upd (evS A kn k) (ht A k) (nI (c1 A k)) else _) j
          rw [if_pos h1, mset_eq]
          by_cases q : j = ht A k
          · rw [q, pk_us, pk_us]
          · rw [pk_un q, pk_un q]; exact hst j (by omega))
        rw [e1] at ih
        exact ih
    · intro j hj
      have hj0 : j = 0 := hj.elim (fun q => absurd q (Nat.not_lt_zero _)) id
      rw [mset_eq, hj0, pk_us, hk 0 (by omega), hk 2 (by omega)]
      rfl
  exact key
end R8
