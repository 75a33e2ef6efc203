set_option maxRecDepth 100000
theorem row518 : ∀ a, a < 64 → mIsB (519 + a) 2 = true ∧ mLn (519 + a) = 256 := by decide +kernel
theorem sc518 : ∀ a, a < 64 → ∀ i, sc (519 + a) i = true := fun a ha i => by
  have : ∀ a, a < 64 → (Nat.beq (519 + a) 0 = false ∧ (Nat.ble 517 (519 + a) && Nat.ble (519 + a) 584) = true) := by decide +kernel
  unfold sc
  rw [(this a ha).1, (this a ha).2]
  simp
theorem Cn_518 {A m : Mm} (h : Cn A m) {a : Nat} (ha : a < 64) (i : Nat) (v : Int32) : Cn A (mset m (519 + a) i v) := ⟨cl_mset h.1 v (sc518 a ha i), by rw [mset_ne _ _ _ (by omega)]; exact h.2⟩
theorem nI_or (a b : Nat) : nI a ||| nI b = nI (a ||| b) := hB_ext (fun i hi => by rw [hB_or, hB_nI hi, hB_nI hi, hB_nI hi, Nat.testBit_or, Bool.or_eq_true])
theorem or_pow {a k : Nat} (h : a < 2 ^ k) : a ||| 2 ^ k = a + 2 ^ k := by
  rw [Nat.or_comm, Nat.add_comm]
  have := Nat.two_pow_add_eq_or_of_lt h 1
  rw [Nat.mul_one] at this
  exact this.symm
def TR (A : Mm) (T : Tb) (m : Mm) : Prop := ∀ a b, a < 2 ^ nM A → b < 256 → m (519 + a) b = pI (T a b)
theorem pI_or (P Q : Prop) : pI P ||| pI Q = pI (P ∨ Q) := by
  by_cases hP : P <;> by_cases hQ : Q
  · rw [pI_t hP, pI_t hQ, pI_t (Or.inl hP)]; rfl
  · rw [pI_t hP, pI_f hQ, pI_t (Or.inl hP)]; rfl
  · rw [pI_f hP, pI_t hQ, pI_t (Or.inr hQ)]; rfl
  · rw [pI_f hP, pI_f hQ, pI_f (fun z => z.elim hP hQ)]; rfl
theorem pI_cong {P Q : Prop} (h : P ↔ Q) : pI P = pI Q := by rw [propext h]
section R21
variable {l : Launch} {g : mG} {d : Nat} {A : Mm}
theorem r_wakesBy2 (hA : Sv A) {m : Mm} (hm : Cn A m) (hd : 6 ≤ d) {k s : Nat} (hk : k < nM A) (hs : s < 9) : mHi l g d k_X12_wakesBy [.ref 0, .int (nI k), .int (nI s)] m (fun x m2 => x = wkB A k s ∧ Cn A m2 ∧ eqL lK m m2) := by
  have hN := hA.1.2.2.2
  refine nBi 2 rfl rfl rfl (by decide) rfl (fun htr o Φ hΦ => mGoOn (mOk (by decide)) rfl [5] 400 ?_)
  show mWB l g d k_X12_wakesBy Φ 0 0 5 [.ref 0, .int (nI k), .int (nI s), .int (0 : Int32), .int (0 : Int32)] [] m o 0 0
  refine mLoopZ (P := fun p => ∀ m2, Cn A m2 → eqL lK m m2 → mWB l g d k_X12_wakesBy Φ 0 0 5 [.ref 0, .int (nI k), .int (nI s), .int (msk (fun p => A (61 + p) 0 = nI s ∧ A (61 + p) 1 = sayN A k s (A 494 35)) p), .int (nI p)] [] m2 o 0 0) (N := nP A) (fun m2 hm2 he => mGoOn (mOk (by decide)) rfl [5] 400 ?_) (fun p hi ih m2 hm2 he => mGoOn (mOk (by decide)) rfl [5] 400 ?_) m hm (eqL_refl _ _)
  · show ((m2 4 3) ≤ (nI (nP A)) → Φ (.inl (some (.int (msk (fun p => A (61 + p) 0 = nI s ∧ A (61 + p) 1 = sayN A k s (A 494 35)) (nP A))))) m2 o ∧ 0 ≤ 0 ∧ 0 ≤ 0) ∧ (¬ (m2 4 3) ≤ (nI (nP A)) → mReq (mInB (nI (nP A)) 8) (mReq (mIsB (mRF 60 ((nI (nP A)).toNatClampNeg)) 1) (mReq (mInB (0 : Int32) (mLn (mRF 60 ((nI (nP A)).toNatClampNeg)))) ((¬ (m2 (mRF 60 ((nI (nP A)).toNatClampNeg)) 0) = (nI s) → mWB l g d k_X12_wakesBy Φ 0 0 5 [.ref 0, .int (nI k), .int (nI s), .int ((msk (fun p => A (61 + p) 0 = nI s ∧ A (61 + p) 1 = sayN A k s (A 494 35)) (nP A)) ||| (0 : Int32)), .int ((nI (nP A)) + (1 : Int32))] [] m2 o 0 0) ∧ ((m2 (mRF 60 ((nI (nP A)).toNatClampNeg)) 0) = (nI s) → mReq (mInB (nI (nP A)) 8) (mReq (mIsB (mRF 60 ((nI (nP A)).toNatClampNeg)) 1) (mReq (mInB (1 : Int32) (mLn (mRF 60 ((nI (nP A)).toNatClampNeg)))) (True ∧ mCal l g d k_X12_wakesBy Φ 0 0 _ 46 k_X12_saysIn false [.ref 0, .ref 494, .int (nI k), .int (nI s)] [.int (m2 (mRF 60 ((nI (nP A)).toNatClampNeg)) 1), .int (msk (fun p => A (61 + p) 0 = nI s ∧ A (61 + p) 1 = sayN A k s (A 494 35)) (nP A))] [.ref 0, .int (nI k), .int (nI s), .int (msk (fun p => A (61 + p) 0 = nI s ∧ A (61 + p) 1 = sayN A k s (A 494 35)) (nP A)), .int (nI (nP A))] m2 o 0 0 1))))))))
    simp (disch := omega) only [mReq_tt, nI_0a, nI_a0, nI_cl, mIn_ok, lit_add, lit_sub, add_lit, lit_le, le_lit, lit_lt, lt_lit, eq_lit, nI_add, nI_1, nI_leI, nI_ltI, nI_eq, mIn_lit, mIn_0, mIn_1, mIn_2, mIn_3, nI_l0, nI_p0, rf_22, rf_44, rf_60, rf_69, rf_391, rf_7, rf_37, rf_51, rf_230, rf_401, rf_413, rf_496, rf_513, rf_518, sB_2, sB_3, sB_4, sB_5, sB_6, sB_7, sL_2, sL_3, sL_4, sL_5, sL_6, sL_7, not_true_eq_false, not_false_eq_true, false_implies, true_implies, true_and, and_true, eq_self, true_or, or_true, Nat.le_refl, Nat.zero_add, Nat.add_zero, clA hm2.1, hN.1]
    exact hΦ _ _ ⟨rfl, hm2, he⟩
  show ((m2 4 3) ≤ (nI p) → Φ (.inl (some (.int (msk (fun p => A (61 + p) 0 = nI s ∧ A (61 + p) 1 = sayN A k s (A 494 35)) p)))) m2 o ∧ 0 ≤ 0 ∧ 0 ≤ 0) ∧ (¬ (m2 4 3) ≤ (nI p) → mReq (mInB (nI p) 8) (mReq (mIsB (mRF 60 ((nI p).toNatClampNeg)) 1) (mReq (mInB (0 : Int32) (mLn (mRF 60 ((nI p).toNatClampNeg)))) ((¬ (m2 (mRF 60 ((nI p).toNatClampNeg)) 0) = (nI s) → mWB l g d k_X12_wakesBy Φ 0 0 5 [.ref 0, .int (nI k), .int (nI s), .int ((msk (fun p => A (61 + p) 0 = nI s ∧ A (61 + p) 1 = sayN A k s (A 494 35)) p) ||| (0 : Int32)), .int ((nI p) + (1 : Int32))] [] m2 o 0 0) ∧ ((m2 (mRF 60 ((nI p).toNatClampNeg)) 0) = (nI s) → mReq (mInB (nI p) 8) (mReq (mIsB (mRF 60 ((nI p).toNatClampNeg)) 1) (mReq (mInB (1 : Int32) (mLn (mRF 60 ((nI p).toNatClampNeg)))) (True ∧ mCal l g d k_X12_wakesBy Φ 0 0 _ 46 k_X12_saysIn false [.ref 0, .ref 494, .int (nI k), .int (nI s)] [.int (m2 (mRF 60 ((nI p).toNatClampNeg)) 1), .int (msk (fun p => A (61 + p) 0 = nI s ∧ A (61 + p) 1 = sayN A k s (A 494 35)) p)] [.ref 0, .int (nI k), .int (nI s), .int (msk (fun p => A (61 + p) 0 = nI s ∧ A (61 + p) 1 = sayN A k s (A 494 35)) p), .int (nI p)] m2 o 0 0 1))))))))
  have hf : ¬ nP A ≤ p := by omega
  simp (disch := omega) only [mReq_tt, nI_0a, nI_a0, nI_cl, mIn_ok, lit_add, lit_sub, add_lit, lit_le, le_lit, lit_lt, lt_lit, eq_lit, nI_add, nI_1, nI_leI, nI_ltI, nI_eq, mIn_lit, mIn_0, mIn_1, mIn_2, mIn_3, nI_l0, nI_p0, rf_22, rf_44, rf_60, rf_69, rf_391, rf_7, rf_37, rf_51, rf_230, rf_401, rf_413, rf_496, rf_513, rf_518, sB_2, sB_3, sB_4, sB_5, sB_6, sB_7, sL_2, sL_3, sL_4, sL_5, sL_6, sL_7, not_true_eq_false, not_false_eq_true, false_implies, true_implies, true_and, and_true, eq_self, true_or, or_true, Nat.le_refl, Nat.zero_add, Nat.add_zero, clA hm2.1, hN.1, hf]
  refine ⟨fun h => ?_, fun h => ?_⟩
  · rw [or_zero]
    rw [msk_f (fun q => h q.1)] at ih
    exact ih m2 hm2 he
  · refine nCi htr (r_saysIn hA hm2.1 (by omega) row_494 hk hs) (by omega) ?_
    rintro x m3 ⟨hx, hx2⟩
    have hx1 : x = sayN A k s (A 494 35) := by rw [hx, clF hm2.1 (by omega)]; rfl
    show (¬ (A (61 + p) 1) = x → mWB l g d k_X12_wakesBy Φ 0 0 5 [.ref 0, .int (nI k), .int (nI s), .int ((msk (fun p => A (61 + p) 0 = nI s ∧ A (61 + p) 1 = sayN A k s (A 494 35)) p) ||| (0 : Int32)), .int ((nI p) + (1 : Int32))] [] m3 o 0 0) ∧ ((A (61 + p) 1) = x → mWB l g d k_X12_wakesBy Φ 0 0 5 [.ref 0, .int (nI k), .int (nI s), .int ((msk (fun p => A (61 + p) 0 = nI s ∧ A (61 + p) 1 = sayN A k s (A 494 35)) p) ||| (jshl (1 : Int32) (nI p))), .int ((nI p) + (1 : Int32))] [] m3 o 0 0)
    rw [nI_1, hx1]
    have ih := ih m3 (eqK_Cn hx2 hm2) (eqL_trans he hx2)
    refine ⟨fun q => ?_, fun q => ?_⟩
    · rw [or_zero]
      rw [msk_f (fun y => q y.2)] at ih
      exact ih
    · rw [msk_t ⟨h, q⟩] at ih
      exact ih
theorem TR_step {m : Mm} {T : Tb} {k u a b : Nat} (hT : TR A T m) (hk : a + 2 ^ k < 2 ^ nM A) (h2 : b ||| u < 256) (hb : b < 256) : TR A (tbS k u a b T) (mset m (519 + (a + 2 ^ k)) (b ||| u) (m (519 + (a + 2 ^ k)) (b ||| u) ||| m (519 + a) b)) := by
  intro x y hx hy
  rw [hT _ _ hk h2, hT a b (Nat.lt_of_le_of_lt (Nat.le_add_right _ _) hk) hb, pI_or]
  by_cases e : x = a + 2 ^ k
  · subst e
    rw [mset_eq, upd_at]
    by_cases e2 : y = b ||| u
    · rw [if_pos e2, e2]
      refine pI_cong ⟨fun z => z.elim Or.inl (fun z => Or.inr ⟨rfl, rfl, z⟩), fun z => z.elim Or.inl (fun z => Or.inr z.2.2)⟩
    · rw [if_neg e2, hT _ _ hx hy]
      exact pI_cong ⟨Or.inl, fun z => z.elim id (fun z => absurd z.2.1 e2)⟩
  · rw [mset_ne _ _ _ (by omega), hT _ _ hx hy]
    exact pI_cong ⟨Or.inl, fun z => z.elim id (fun z => absurd z.1 e)⟩
theorem r_raB (htr : l.stackTraces = false) (o : Int64) {Φ : mR → Mm → Int64 → Prop} (h6 : nM A ≤ 6) {w k s u a : Nat} (hk : k < nM A) (ha : a < 2 ^ k) (hu : u < 256) {T : Tb}
    (ih : ∀ m, Cn A m → TR A (tbB k u a T 256) m → mWB l g d k_X12_raise Φ 0 0 132 [.ref 0, .int (nI w), .int (nI k), .int (nI s), .int (nI u), .int (nI (a + 1)), mJ] [] m o 0 0) {m : Mm} (hm : Cn A m) (hT : TR A T m) : mWB l g d k_X12_raise Φ 0 0 143 [.ref 0, .int (nI w), .int (nI k), .int (nI s), .int (nI u), .int (nI a), .int (nI 0)] [] m o 0 0 := by
  have hk2 : 2 ^ k + 2 ^ k ≤ 2 ^ nM A := by
    have h1 : 2 ^ (k + 1) ≤ 2 ^ nM A := Nat.pow_le_pow_right (by decide) (by omega)
    rw [Nat.pow_succ] at h1
    omega
  have hpw : 2 ^ nM A ≤ 2 ^ 6 := Nat.pow_le_pow_right (by decide) h6
  refine mLoopZ (P := fun b => ∀ m, Cn A m → TR A (tbB k u a T b) m → mWB l g d k_X12_raise Φ 0 0 143 [.ref 0, .int (nI w), .int (nI k), .int (nI s), .int (nI u), .int (nI a), .int (nI b)] [] m o 0 0) (N := 256) ?_ ?_ m hm hT
  · intro m hm hT
    refine mGoOn (mOk (by decide)) rfl [97,109,132,143] 400 ?_
    show ((256 : Int32) ≤ (nI 256) → mWB l g d k_X12_raise Φ 0 0 132 [.ref 0, .int (nI w), .int (nI k), .int (nI s), .int (nI u), .int ((nI a) + (1 : Int32)), .int (nI 256)] [] m o 0 0) ∧ (¬ (256 : Int32) ≤ (nI 256) → mReq (mInB ((nI a) ||| (jshl (1 : Int32) (nI k))) 64) ((Value.int ((nI 256) ||| (nI u))).category = 1 ∧ (Value.ref (mRF 518 (((nI a) ||| (jshl (1 : Int32) (nI k))).toNatClampNeg))).category = 1 ∧ (mReq (mIsB (mRF 518 (((nI a) ||| (jshl (1 : Int32) (nI k))).toNatClampNeg)) 2) (mReq (mInB ((nI 256) ||| (nI u)) (mLn (mRF 518 (((nI a) ||| (jshl (1 : Int32) (nI k))).toNatClampNeg)))) (mReq (mInB (nI a) 64) (mReq (mIsB (mRF 518 ((nI a).toNatClampNeg)) 2) (mReq (mInB (nI 256) (mLn (mRF 518 ((nI a).toNatClampNeg)))) (mReq (mIsB (mRF 518 (((nI a) ||| (jshl (1 : Int32) (nI k))).toNatClampNeg)) 2) (mReq (mInB ((nI 256) ||| (nI u)) (mLn (mRF 518 (((nI a) ||| (jshl (1 : Int32) (nI k))).toNatClampNeg)))) ((((m (mRF 518 (((nI a) ||| (jshl (1 : Int32) (nI k))).toNatClampNeg)) (((nI 256) ||| (nI u)).toNatClampNeg)) ||| (m (mRF 518 ((nI a).toNatClampNeg)) ((nI 256).toNatClampNeg))) = 0 ∨ ((m (mRF 518 (((nI a) ||| (jshl (1 : Int32) (nI k))).toNatClampNeg)) (((nI 256) ||| (nI u)).toNatClampNeg)) ||| (m (mRF 518 ((nI a).toNatClampNeg)) ((nI 256).toNatClampNeg))) = 1) ∧ (mWB l g d k_X12_raise Φ 0 0 143 [.ref 0, .int (nI w), .int (nI k), .int (nI s), .int (nI u), .int (nI a), .int ((nI 256) + (1 : Int32))] [] (mset m (mRF 518 (((nI a) ||| (jshl (1 : Int32) (nI k))).toNatClampNeg)) (((nI 256) ||| (nI u)).toNatClampNeg) ((m (mRF 518 (((nI a) ||| (jshl (1 : Int32) (nI k))).toNatClampNeg)) (((nI 256) ||| (nI u)).toNatClampNeg)) ||| (m (mRF 518 ((nI a).toNatClampNeg)) ((nI 256).toNatClampNeg)))) o 0 0)))))))))))
    refine ⟨fun _ => ?_, fun z => absurd (by decide) z⟩
    rw [nI_1]
    exact mWB_wk (ih m hm hT) ⟨Or.inr rfl, Or.inr rfl, Or.inr rfl, Or.inr rfl, Or.inr rfl, Or.inr rfl, Or.inl rfl, trivial⟩
  · intro b hb ih m hm hT
    have hbu : b ||| u < 256 := Nat.or_lt_two_pow (n := 8) hb hu
    refine mGoOn (mOk (by decide)) rfl [97,109,132,143] 400 ?_
    show ((256 : Int32) ≤ (nI b) → mWB l g d k_X12_raise Φ 0 0 132 [.ref 0, .int (nI w), .int (nI k), .int (nI s), .int (nI u), .int ((nI a) + (1 : Int32)), .int (nI b)] [] m o 0 0) ∧ (¬ (256 : Int32) ≤ (nI b) → mReq (mInB ((nI a) ||| (jshl (1 : Int32) (nI k))) 64) ((Value.int ((nI b) ||| (nI u))).category = 1 ∧ (Value.ref (mRF 518 (((nI a) ||| (jshl (1 : Int32) (nI k))).toNatClampNeg))).category = 1 ∧ (mReq (mIsB (mRF 518 (((nI a) ||| (jshl (1 : Int32) (nI k))).toNatClampNeg)) 2) (mReq (mInB ((nI b) ||| (nI u)) (mLn (mRF 518 (((nI a) ||| (jshl (1 : Int32) (nI k))).toNatClampNeg)))) (mReq (mInB (nI a) 64) (mReq (mIsB (mRF 518 ((nI a).toNatClampNeg)) 2) (mReq (mInB (nI b) (mLn (mRF 518 ((nI a).toNatClampNeg)))) (mReq (mIsB (mRF 518 (((nI a) ||| (jshl (1 : Int32) (nI k))).toNatClampNeg)) 2) (mReq (mInB ((nI b) ||| (nI u)) (mLn (mRF 518 (((nI a) ||| (jshl (1 : Int32) (nI k))).toNatClampNeg)))) ((((m (mRF 518 (((nI a) ||| (jshl (1 : Int32) (nI k))).toNatClampNeg)) (((nI b) ||| (nI u)).toNatClampNeg)) ||| (m (mRF 518 ((nI a).toNatClampNeg)) ((nI b).toNatClampNeg))) = 0 ∨ ((m (mRF 518 (((nI a) ||| (jshl (1 : Int32) (nI k))).toNatClampNeg)) (((nI b) ||| (nI u)).toNatClampNeg)) ||| (m (mRF 518 ((nI a).toNatClampNeg)) ((nI b).toNatClampNeg))) = 1) ∧ (mWB l g d k_X12_raise Φ 0 0 143 [.ref 0, .int (nI w), .int (nI k), .int (nI s), .int (nI u), .int (nI a), .int ((nI b) + (1 : Int32))] [] (mset m (mRF 518 (((nI a) ||| (jshl (1 : Int32) (nI k))).toNatClampNeg)) (((nI b) ||| (nI u)).toNatClampNeg) ((m (mRF 518 (((nI a) ||| (jshl (1 : Int32) (nI k))).toNatClampNeg)) (((nI b) ||| (nI u)).toNatClampNeg)) ||| (m (mRF 518 ((nI a).toNatClampNeg)) ((nI b).toNatClampNeg)))) o 0 0)))))))))))
    rw [sh_pow k (by omega), nI_or, or_pow ha, nI_or, nI_cl (show a + 2 ^ k < 2 ^ 31 by omega), nI_cl (show a < 2 ^ 31 by omega), nI_cl (show b < 2 ^ 31 by omega), nI_cl (show b ||| u < 2 ^ 31 by omega), rf_518, rf_518, (row518 (a + 2 ^ k) (by omega)).1, (row518 (a + 2 ^ k) (by omega)).2, (row518 a (by omega)).1, (row518 a (by omega)).2, mIn_ok (show a + 2 ^ k < 64 by omega) (by decide), mIn_ok (show a < 64 by omega) (by decide), mIn_ok hbu (by decide), mIn_ok hb (by decide), nI_1]
    refine ⟨fun z => absurd z (by rw [show (256 : Int32) = nI 256 from rfl, nI_leI (by decide) (by omega)]; omega), fun _ => ⟨rfl, rfl, ?_, ?_⟩⟩
    · rw [hT _ _ (by omega) hbu, hT _ _ (by omega) hb, pI_or]
      exact pI_01 _
    · rw [nI_1]
      exact ih _ (Cn_518 hm (by omega) _ _) (TR_step hT (by omega) hbu hb)
theorem r_raise (hA : Sv A) (hT : Cty A) {m : Mm} (hm : cl m = A) (hd : 8 ≤ d) (w : Int32) : mHi l g d k_X12_raise [.ref 0, .int w] m (rO A (qRai A w)) := by
  have hN2 := hA.1.2.2.1
  have hN3 := hA.1.2.2.2
  have hN0 := hA.1.1
  have h6 := hN2.2
  have h8 := hN3.2
  have hpw : 2 ^ nM A ≤ 2 ^ 6 := Nat.pow_le_pow_right (by decide) h6
  have hpp : 2 ^ nP A ≤ 2 ^ 8 := Nat.pow_le_pow_right (by decide) h8
  refine nBi 5 rfl rfl rfl (by decide) rfl (fun htr o Φ hΦ => mGoOn (mOk (by decide)) rfl [41,55,82,97,109,132,143,218,254] 400 ?_)
  show mCal l g d k_X12_raise Φ 0 0 _ 18 k_X12_in false [.int w, .int (0 : Int32), .int ((jshl (1 : Int32) ((mset m 0 0 (0 : Int32)) 4 3)) - (1 : Int32))] [.ref 0] [.ref 0, .int w, mJ, mJ, mJ, mJ, mJ] (mset m 0 0 (0 : Int32)) o 0 0 1
  have hC := Cn_0 hm
  generalize mset m 0 0 (0 : Int32) = M at hC ⊢
  clear hm
  obtain ⟨hM, hth⟩ := hC
  have hC : Cn A M := ⟨hM, hth⟩
  unfold qRai at hΦ
  refine fCi htr (r_inB (n := 2 ^ nP A) (by omega) (by rw [clA hM 3 (by omega), hN3.1, sh_pow _ (by omega)])) (by omega) ?_
  show (¬ (pI (In w (2 ^ nP A))) = 0 → True ∧ mCal l g d k_X12_raise Φ 0 0 _ 31 k_X12_bad false [.ref 0, .int (0 : Int32), .int (1 : Int32), .int (1 : Int32)] [] [.ref 0, .int w, mJ, mJ, mJ, mJ, mJ] M o 0 0 1) ∧ ((pI (In w (2 ^ nP A))) = 0 → True ∧ mCal l g d k_X12_raise Φ 0 0 _ 31 k_X12_bad false [.ref 0, .int (1 : Int32), .int (1 : Int32), .int (1 : Int32)] [] [.ref 0, .int w, mJ, mJ, mJ, mJ, mJ] M o 0 0 1)
  refine and_sw (fun h1 => ?_) (fun h1 => ?_)
  · replace h1 := pI_0.mp h1
    refine ⟨trivial, fCi htr (r_bad1 hth (t := 1) (j := 1) (by decide) (by decide)) (by omega) ?_⟩
    show ((1 : Int32) = 0 → mWB l g d k_X12_raise Φ 0 0 41 [.ref 0, .int w, .int (0 : Int32), mJ, mJ, mJ, mJ] [] (mset (mset M 0 0 1) 2 1 (M 2 1 + 1)) o 0 0) ∧ (¬ (1 : Int32) = 0 → Φ (.inl (some (.int (0 : Int32)))) (mset (mset M 0 0 1) 2 1 (M 2 1 + 1)) o ∧ 0 ≤ 0 ∧ 0 ≤ 0)
    rw [ifp_f (h1)] at hΦ
    first | exact br1a (eR (hΦ _ _ (rO_t hM (by decide) (by decide)))) | exact br1b (eR (hΦ _ _ (rO_t hM (by decide) (by decide))))
  replace h1 := pI_1.mp h1
  refine ⟨trivial, fCi htr (r_bad0 hth _ _) (by omega) ?_⟩
  show ((0 : Int32) = 0 → mWB l g d k_X12_raise Φ 0 0 41 [.ref 0, .int w, .int (0 : Int32), mJ, mJ, mJ, mJ] [] M o 0 0) ∧ (¬ (0 : Int32) = 0 → Φ (.inl (some (.int (0 : Int32)))) M o ∧ 0 ≤ 0 ∧ 0 ≤ 0)
  rw [ifp_t (h1)] at hΦ
  first | refine br0a ?_ | refine br0b ?_
  obtain ⟨w, hw, rfl⟩ := h1
  have k218 : ∀ m, Cn A m → TR A (tbK A w (nM A)) m → mWB l g d k_X12_raise Φ 0 0 218 [.ref 0, .int (nI w), .int (-1 : Int32), .int (nI (2 ^ nM A) - 1), mJ, mJ, mJ] [] m o 0 0 := by
    intro m hm hTR
    have key : ∀ c, c ≤ 2 ^ nM A → mWB l g d k_X12_raise Φ 0 0 218 [.ref 0, .int (nI w), .int (amd (PRa A (nI w)) f1s (2 ^ nM A) c), .int (nI (2 ^ nM A - c) - 1), mJ, mJ, mJ] [] m o 0 0 := by
      refine mLoop ?_ ?_
      · intro c hc2 ih
        have hin := amd_In (PRa A (nI w)) f1s (N := 2 ^ nM A) c (by omega)
        have e1 : nI (2 ^ nM A - c) - 1 = nI (2 ^ nM A - (c + 1)) := nI_dec1 (by omega)
        have hq : 2 ^ nM A - (c + 1) < 2 ^ nM A := by omega
        have sk : ¬ (PRa A (nI w) (2 ^ nM A - (c + 1)) ∧ (amd (PRa A (nI w)) f1s (2 ^ nM A) c = -1 ∨ f1s (2 ^ nM A - (c + 1)) ≤ f1s (amd (PRa A (nI w)) f1s (2 ^ nM A) c).toNatClampNeg)) → mWB l g d k_X12_raise Φ 0 0 218 [.ref 0, .int (nI w), .int (amd (PRa A (nI w)) f1s (2 ^ nM A) c), .int (nI (2 ^ nM A - (c + 1)) - 1), mJ, mJ, mJ] [] m o 0 0 := fun z => by
          rw [amd_f z] at ih
          exact ih
        have tk : PRa A (nI w) (2 ^ nM A - (c + 1)) → (amd (PRa A (nI w)) f1s (2 ^ nM A) c = -1 ∨ f1s (2 ^ nM A - (c + 1)) ≤ f1s (amd (PRa A (nI w)) f1s (2 ^ nM A) c).toNatClampNeg) → mWB l g d k_X12_raise Φ 0 0 218 [.ref 0, .int (nI w), .int (nI (2 ^ nM A - (c + 1))), .int (nI (2 ^ nM A - (c + 1)) - 1), mJ, mJ, mJ] [] m o 0 0 := fun z z2 => by
          rw [amd_t z z2] at ih
          exact ih
        rw [e1]
        clear ih
        generalize amd (PRa A (nI w)) f1s (2 ^ nM A) c = B at sk tk hin ⊢
        generalize 2 ^ nM A - (c + 1) = q at sk tk hq ⊢
        refine mGoOn (mOk (by decide)) rfl [218,254] 400 ?_
        show ((nI q) < 0 → Φ (.inl (some (.int B))) m o ∧ 0 ≤ 0 ∧ 0 ≤ 0) ∧ (¬ (nI q) < 0 → mReq (mInB (nI q) 64) (mReq (mIsB (mRF 518 ((nI q).toNatClampNeg)) 2) (mReq (mInB (nI w) (mLn (mRF 518 ((nI q).toNatClampNeg)))) (((m (mRF 518 ((nI q).toNatClampNeg)) ((nI w).toNatClampNeg)) = 0 → mWB l g d k_X12_raise Φ 0 0 254 [.ref 0, .int (nI w), .int B, .int (nI q), mJ, mJ, mJ] [.int B] m o 0 0) ∧ (¬ (m (mRF 518 ((nI q).toNatClampNeg)) ((nI w).toNatClampNeg)) = 0 → (B = (-1 : Int32) → mWB l g d k_X12_raise Φ 0 0 254 [.ref 0, .int (nI w), .int B, .int (nI q), mJ, mJ, mJ] [.int (nI q)] m o 0 0) ∧ (¬ B = (-1 : Int32) → mCal l g d k_X12_raise Φ 0 0 _ 239 k_X12_ones false [.int (nI q)] [] [.ref 0, .int (nI w), .int B, .int (nI q), mJ, mJ, mJ] m o 0 0 1))))))
        rw [nI_cl (show q < 2 ^ 31 by omega), nI_cl (show w < 2 ^ 31 by omega), rf_518, (row518 q (by omega)).1, (row518 q (by omega)).2, mIn_ok (show q < 64 by omega) (by decide), mIn_ok (show w < 256 by omega) (by decide), hTR q w hq (by omega), pI_cong (tbK_cov hT hq hw)]
        have k254 : ∀ v, (mWB l g d k_X12_raise Φ 0 0 218 [.ref 0, .int (nI w), .int v, .int (nI q - 1), mJ, mJ, mJ] [] m o 0 0) → mWB l g d k_X12_raise Φ 0 0 254 [.ref 0, .int (nI w), .int B, .int (nI q), mJ, mJ, mJ] [.int v] m o 0 0 := by
          intro v hv
          refine mGoOn (mOk (by decide)) rfl [218] 400 ?_
          show mWB l g d k_X12_raise Φ 0 0 218 [.ref 0, .int (nI w), .int v, .int ((nI q) + (-1 : Int32)), mJ, mJ, mJ] [] m o 0 0
          rw [dn_lit]
          exact hv
        refine ⟨fun z => absurd z (nI_pos (by omega)), fun _ => ⟨fun z => k254 B (sk (fun y => pI_0.mp z y.1)), fun z => ⟨fun y => k254 _ (tk (pI_1.mp z) (Or.inl y)), fun y => ?_⟩⟩⟩
        refine fCi htr (r_ones m _) (by omega) ?_
        refine fCi htr (r_ones m _) (by omega) ?_
        show ((nI (one24 B)) < (nI (one24 (nI q))) → mWB l g d k_X12_raise Φ 0 0 254 [.ref 0, .int (nI w), .int B, .int (nI q), mJ, mJ, mJ] [.int B] m o 0 0) ∧ (¬ (nI (one24 B)) < (nI (one24 (nI q))) → mWB l g d k_X12_raise Φ 0 0 254 [.ref 0, .int (nI w), .int B, .int (nI q), mJ, mJ, mJ] [.int (nI q)] m o 0 0)
        obtain ⟨k, hk, ek, _⟩ := hin.resolve_left y
        have ef : nI (one24 B) = f1s B.toNatClampNeg := by rw [ek, nI_cl (by omega)]; rfl
        rw [ef, show nI (one24 (nI q)) = f1s q from rfl]
        exact ⟨fun u => k254 B (sk (fun v => v.2.elim y (fun e => Int32.not_le.mpr u e))), fun u => k254 _ (tk (pI_1.mp z) (Or.inr (Int32.not_lt.mp u)))⟩
      · rw [Nat.sub_self]
        have h0 := nI_0m
        generalize (nI 0 - 1 : Int32) = z0 at h0 ⊢
        refine mGoOn (mOk (by decide)) rfl [218,254] 400 ?_
        show (z0 < 0 → Φ (.inl (some (.int (amd (PRa A (nI w)) f1s (2 ^ nM A) (2 ^ nM A))))) m o ∧ 0 ≤ 0 ∧ 0 ≤ 0) ∧ (¬ z0 < 0 → mReq (mInB z0 64) (mReq (mIsB (mRF 518 z0.toNatClampNeg) 2) (mReq (mInB (nI w) (mLn (mRF 518 z0.toNatClampNeg))) (((m (mRF 518 z0.toNatClampNeg) ((nI w).toNatClampNeg)) = 0 → mWB l g d k_X12_raise Φ 0 0 254 [.ref 0, .int (nI w), .int (amd (PRa A (nI w)) f1s (2 ^ nM A) (2 ^ nM A)), .int z0, mJ, mJ, mJ] [.int (amd (PRa A (nI w)) f1s (2 ^ nM A) (2 ^ nM A))] m o 0 0) ∧ (¬ (m (mRF 518 z0.toNatClampNeg) ((nI w).toNatClampNeg)) = 0 → ((amd (PRa A (nI w)) f1s (2 ^ nM A) (2 ^ nM A)) = (-1 : Int32) → mWB l g d k_X12_raise Φ 0 0 254 [.ref 0, .int (nI w), .int (amd (PRa A (nI w)) f1s (2 ^ nM A) (2 ^ nM A)), .int z0, mJ, mJ, mJ] [.int z0] m o 0 0) ∧ (¬ (amd (PRa A (nI w)) f1s (2 ^ nM A) (2 ^ nM A)) = (-1 : Int32) → mCal l g d k_X12_raise Φ 0 0 _ 239 k_X12_ones false [.int z0] [] [.ref 0, .int (nI w), .int (amd (PRa A (nI w)) f1s (2 ^ nM A) (2 ^ nM A)), .int z0, mJ, mJ, mJ] m o 0 0 1))))))
        exact ⟨fun _ => eR (hΦ _ _ (rO_k hm rfl)), fun z => absurd h0 z⟩
    exact key 0 (Nat.zero_le _)
  have k97 : ∀ m, Cn A m → TR A tb0 m → mWB l g d k_X12_raise Φ 0 0 97 [.ref 0, .int (nI w), .int (nI 0), mJ, mJ, mJ, mJ] [] m o 0 0 := by
    refine mLoopZ (P := fun k => ∀ m, Cn A m → TR A (tbK A w k) m → mWB l g d k_X12_raise Φ 0 0 97 [.ref 0, .int (nI w), .int (nI k), mJ, mJ, mJ, mJ] [] m o 0 0) (N := nM A) ?_ ?_
    · intro m hm hTR
      refine mGoOn (mOk (by decide)) rfl [97,109,218] 400 ?_
      show ((m 4 2) ≤ (nI (nM A)) → mWB l g d k_X12_raise Φ 0 0 218 [.ref 0, .int (nI w), .int (-1 : Int32), .int ((jshl (1 : Int32) (m 4 2)) - (1 : Int32)), mJ, mJ, mJ] [] m o 0 0) ∧ (¬ (m 4 2) ≤ (nI (nM A)) → mWB l g d k_X12_raise Φ 0 0 109 [.ref 0, .int (nI w), .int (nI (nM A)), .int (0 : Int32), mJ, mJ, mJ] [] m o 0 0)
      rw [clA hm.1 2 (by omega), hN2.1, sh_pow _ (by omega)]
      exact ⟨fun _ => k218 m hm hTR, fun z => absurd (Int32.le_refl _) z⟩
    · intro k hk ih m hm hTR
      refine mGoOn (mOk (by decide)) rfl [97,109,218] 400 ?_
      show ((m 4 2) ≤ (nI k) → mWB l g d k_X12_raise Φ 0 0 218 [.ref 0, .int (nI w), .int (-1 : Int32), .int ((jshl (1 : Int32) (m 4 2)) - (1 : Int32)), mJ, mJ, mJ] [] m o 0 0) ∧ (¬ (m 4 2) ≤ (nI k) → mWB l g d k_X12_raise Φ 0 0 109 [.ref 0, .int (nI w), .int (nI k), .int (0 : Int32), mJ, mJ, mJ] [] m o 0 0)
      rw [clA hm.1 2 (by omega), hN2.1]
      refine ⟨fun z => absurd z (by rw [nI_leI (by omega) (by omega)]; omega), fun _ => ?_⟩
      have hk6 : 2 ^ k < 2 ^ 31 := Nat.pow_lt_pow_right (by decide) (by omega)
      refine mLoopZ (P := fun s => ∀ m, Cn A m → TR A (tbJ A w k (tbK A w k) s) m → mWB l g d k_X12_raise Φ 0 0 109 [.ref 0, .int (nI w), .int (nI k), .int (nI s), mJ, mJ, mJ] [] m o 0 0) (N := nS A) ?_ ?_ m hm hTR
      · intro m hm hTR
        refine mGoOn (mOk (by decide)) rfl [97,109,132] 400 ?_
        show ((m 4 0) ≤ (nI (nS A)) → mWB l g d k_X12_raise Φ 0 0 97 [.ref 0, .int (nI w), .int ((nI k) + (1 : Int32)), .int (nI (nS A)), mJ, mJ, mJ] [] m o 0 0) ∧ (¬ (m 4 0) ≤ (nI (nS A)) → True ∧ mCal l g d k_X12_raise Φ 0 0 _ 122 k_X12_wakesBy false [.ref 0, .int (nI k), .int (nI (nS A))] [] [.ref 0, .int (nI w), .int (nI k), .int (nI (nS A)), mJ, mJ, mJ] m o 0 0 1)
        rw [clA hm.1 0 (by omega), hN0.1, nI_1]
        exact ⟨fun _ => mWB_wk (ih m hm hTR) ⟨Or.inr rfl, Or.inr rfl, Or.inr rfl, Or.inl rfl, Or.inl rfl, Or.inl rfl, Or.inl rfl, trivial⟩, fun z => absurd (Int32.le_refl _) z⟩
      · intro s hs ih2 m hm hTR
        refine mGoOn (mOk (by decide)) rfl [97,109,132] 400 ?_
        show ((m 4 0) ≤ (nI s) → mWB l g d k_X12_raise Φ 0 0 97 [.ref 0, .int (nI w), .int ((nI k) + (1 : Int32)), .int (nI s), mJ, mJ, mJ] [] m o 0 0) ∧ (¬ (m 4 0) ≤ (nI s) → True ∧ mCal l g d k_X12_raise Φ 0 0 _ 122 k_X12_wakesBy false [.ref 0, .int (nI k), .int (nI s)] [] [.ref 0, .int (nI w), .int (nI k), .int (nI s), mJ, mJ, mJ] m o 0 0 1)
        rw [clA hm.1 0 (by omega), hN0.1]
        have hN9 := hN0.2
        refine ⟨fun z => absurd z (by rw [nI_leI (by omega) (by omega)]; omega), fun _ => ⟨trivial, nCi htr (r_wakesBy2 hA hm (by omega) hk (by omega)) (by omega) ?_⟩⟩
        rintro x m2 ⟨rfl, hm2, he⟩
        show mWB l g d k_X12_raise Φ 0 0 132 [.ref 0, .int (nI w), .int (nI k), .int (nI s), .int ((wkB A k s) &&& (nI w)), .int (0 : Int32), mJ] [] m2 o 0 0
        have hu := uu_ok hA.1 w k s
        have ih2 : ∀ m, Cn A m → TR A (tbA k (uu A w k s) (tbJ A w k (tbK A w k) s) (2 ^ k)) m → mWB l g d k_X12_raise Φ 0 0 109 [.ref 0, .int (nI w), .int (nI k), .int (nI (s + 1)), mJ, mJ, mJ] [] m o 0 0 := ih2
        rw [hu.1]
        have hTR2 : TR A (tbJ A w k (tbK A w k) s) m2 := fun x y h1 h2 => by rw [he (519 + x) (fun z => by simp [lK] at z; omega)]; exact hTR x y h1 h2
        generalize tbJ A w k (tbK A w k) s = T at ih2 hTR2
        have hu2 := hu.2.1
        generalize uu A w k s = u at ih2 hu2 ⊢
        refine mLoopZ (P := fun a => ∀ m, Cn A m → TR A (tbA k u T a) m → mWB l g d k_X12_raise Φ 0 0 132 [.ref 0, .int (nI w), .int (nI k), .int (nI s), .int (nI u), .int (nI a), mJ] [] m o 0 0) (N := 2 ^ k) ?_ ?_ m2 hm2 hTR2
        · intro m hm hTR
          refine mGoOn (mOk (by decide)) rfl [97,109,132,143] 400 ?_
          show ((jshl (1 : Int32) (nI k)) ≤ (nI (2 ^ k)) → mWB l g d k_X12_raise Φ 0 0 109 [.ref 0, .int (nI w), .int (nI k), .int ((nI s) + (1 : Int32)), .int (nI u), .int (nI (2 ^ k)), mJ] [] m o 0 0) ∧ (¬ (jshl (1 : Int32) (nI k)) ≤ (nI (2 ^ k)) → mWB l g d k_X12_raise Φ 0 0 143 [.ref 0, .int (nI w), .int (nI k), .int (nI s), .int (nI u), .int (nI (2 ^ k)), .int (0 : Int32)] [] m o 0 0)
          rw [sh_pow _ (by omega), nI_1]
          exact ⟨fun _ => mWB_wk (ih2 m hm hTR) ⟨Or.inr rfl, Or.inr rfl, Or.inr rfl, Or.inr rfl, Or.inl rfl, Or.inl rfl, Or.inl rfl, trivial⟩, fun z => absurd (Int32.le_refl _) z⟩
        · intro a ha ih3 m hm hTR
          refine mGoOn (mOk (by decide)) rfl [97,109,132,143] 400 ?_
          show ((jshl (1 : Int32) (nI k)) ≤ (nI a) → mWB l g d k_X12_raise Φ 0 0 109 [.ref 0, .int (nI w), .int (nI k), .int ((nI s) + (1 : Int32)), .int (nI u), .int (nI a), mJ] [] m o 0 0) ∧ (¬ (jshl (1 : Int32) (nI k)) ≤ (nI a) → mWB l g d k_X12_raise Φ 0 0 143 [.ref 0, .int (nI w), .int (nI k), .int (nI s), .int (nI u), .int (nI a), .int (0 : Int32)] [] m o 0 0)
          rw [sh_pow _ (by omega)]
          refine ⟨fun z => absurd z (by rw [nI_leI (by omega) (by omega)]; omega), fun _ => r_raB htr o h6 hk ha hu2 ih3 hm hTR⟩
  show mWB l g d k_X12_raise Φ 0 0 41 [.ref 0, .int (nI w), .int (nI 0), mJ, mJ, mJ, mJ] [] M o 0 0
  refine mLoopZ (P := fun a => ∀ m, Cn A m → (∀ x y, x < a → y < 256 → m (519 + x) y = pI (tb0 x y)) → mWB l g d k_X12_raise Φ 0 0 41 [.ref 0, .int (nI w), .int (nI a), mJ, mJ, mJ, mJ] [] m o 0 0) (N := 2 ^ nM A) ?_ ?_ M hC (fun x y h => by omega)
  · intro m hm hTR
    refine mGoOn (mOk (by decide)) rfl [41,55,97] 400 ?_
    show ((jshl (1 : Int32) (m 4 2)) ≤ (nI (2 ^ nM A)) → mWB l g d k_X12_raise Φ 0 0 97 [.ref 0, .int (nI w), .int (0 : Int32), mJ, mJ, mJ, mJ] [] m o 0 0) ∧ (¬ (jshl (1 : Int32) (m 4 2)) ≤ (nI (2 ^ nM A)) → mWB l g d k_X12_raise Φ 0 0 55 [.ref 0, .int (nI w), .int (nI (2 ^ nM A)), .int (0 : Int32), mJ, mJ, mJ] [] m o 0 0)
    rw [clA hm.1 2 (by omega), hN2.1, sh_pow _ (by omega)]
    exact ⟨fun _ => k97 m hm hTR, fun z => absurd (Int32.le_refl _) z⟩
  · intro a ha ih m hm hTR
    refine mGoOn (mOk (by decide)) rfl [41,55,97] 400 ?_
    show ((jshl (1 : Int32) (m 4 2)) ≤ (nI a) → mWB l g d k_X12_raise Φ 0 0 97 [.ref 0, .int (nI w), .int (0 : Int32), mJ, mJ, mJ, mJ] [] m o 0 0) ∧ (¬ (jshl (1 : Int32) (m 4 2)) ≤ (nI a) → mWB l g d k_X12_raise Φ 0 0 55 [.ref 0, .int (nI w), .int (nI a), .int (0 : Int32), mJ, mJ, mJ] [] m o 0 0)
    rw [clA hm.1 2 (by omega), hN2.1, sh_pow _ (by omega)]
    refine ⟨fun z => absurd z (by rw [nI_leI (by omega) (by omega)]; omega), fun _ => ?_⟩
    refine mLoopZ (P := fun b => ∀ m, Cn A m → (∀ x y, x < a ∨ x = a ∧ y < b → y < 256 → m (519 + x) y = pI (tb0 x y)) → mWB l g d k_X12_raise Φ 0 0 55 [.ref 0, .int (nI w), .int (nI a), .int (nI b), mJ, mJ, mJ] [] m o 0 0) (N := 256) ?_ ?_ m hm (fun x y h h2 => hTR x y (by omega) h2)
    · intro m hm hTR
      refine mGoOn (mOk (by decide)) rfl [41,55,82,97] 400 ?_
      show ((256 : Int32) ≤ (nI 256) → mWB l g d k_X12_raise Φ 0 0 41 [.ref 0, .int (nI w), .int ((nI a) + (1 : Int32)), .int (nI 256), mJ, mJ, mJ] [] m o 0 0) ∧ (¬ (256 : Int32) ≤ (nI 256) → mReq (mInB (nI a) 64) ((¬ (nI a) = 0 → mWB l g d k_X12_raise Φ 0 0 82 [.ref 0, .int (nI w), .int (nI a), .int (nI 256), mJ, mJ, mJ] [.int (0 : Int32), .int (nI 256), .ref (mRF 518 ((nI a).toNatClampNeg))] m o 0 0) ∧ ((nI a) = 0 → (¬ (nI 256) = 0 → mWB l g d k_X12_raise Φ 0 0 82 [.ref 0, .int (nI w), .int (nI a), .int (nI 256), mJ, mJ, mJ] [.int (0 : Int32), .int (nI 256), .ref (mRF 518 ((nI a).toNatClampNeg))] m o 0 0) ∧ ((nI 256) = 0 → mWB l g d k_X12_raise Φ 0 0 82 [.ref 0, .int (nI w), .int (nI a), .int (nI 256), mJ, mJ, mJ] [.int (1 : Int32), .int (nI 256), .ref (mRF 518 ((nI a).toNatClampNeg))] m o 0 0))))
      rw [nI_1]
      exact ⟨fun _ => mWB_wk (ih m hm (fun x y h1 h2 => hTR x y (by omega) h2)) ⟨Or.inr rfl, Or.inr rfl, Or.inr rfl, Or.inl rfl, Or.inl rfl, Or.inl rfl, Or.inl rfl, trivial⟩, fun z => absurd (by decide) z⟩
    · intro b hb ih2 m hm hTR
      have k82 : ∀ v, v = pI (tb0 a b) → mWB l g d k_X12_raise Φ 0 0 82 [.ref 0, .int (nI w), .int (nI a), .int (nI b), mJ, mJ, mJ] [.int v, .int (nI b), .ref (519 + a)] m o 0 0 := by
        rintro v rfl
        refine mGoOn (mOk (by decide)) rfl [41,55,97] 400 ?_
        show mReq (mIsB (519 + a) 2) (mReq (mInB (nI b) (mLn (519 + a))) (((pI (tb0 a b)) = 0 ∨ (pI (tb0 a b)) = 1) ∧ (mWB l g d k_X12_raise Φ 0 0 55 [.ref 0, .int (nI w), .int (nI a), .int ((nI b) + (1 : Int32)), mJ, mJ, mJ] [] (mset m (519 + a) ((nI b).toNatClampNeg) (pI (tb0 a b))) o 0 0)))
        rw [(row518 a (by omega)).1, (row518 a (by omega)).2, mIn_ok hb (by decide), nI_cl (by omega), nI_1]
        refine ⟨pI_01 _, ih2 _ (Cn_518 hm (by omega) _ _) (fun x y h1 h2 => ?_)⟩
        by_cases e : x = a
        · subst e
          rw [mset_eq, upd_at]
          by_cases e2 : y = b
          · rw [if_pos e2, e2]
          · rw [if_neg e2]; exact hTR x y (by omega) h2
        · rw [mset_ne _ _ _ (by omega)]; exact hTR x y (by omega) h2
      refine mGoOn (mOk (by decide)) rfl [41,55,82,97] 400 ?_
      show ((256 : Int32) ≤ (nI b) → mWB l g d k_X12_raise Φ 0 0 41 [.ref 0, .int (nI w), .int ((nI a) + (1 : Int32)), .int (nI b), mJ, mJ, mJ] [] m o 0 0) ∧ (¬ (256 : Int32) ≤ (nI b) → mReq (mInB (nI a) 64) ((¬ (nI a) = 0 → mWB l g d k_X12_raise Φ 0 0 82 [.ref 0, .int (nI w), .int (nI a), .int (nI b), mJ, mJ, mJ] [.int (0 : Int32), .int (nI b), .ref (mRF 518 ((nI a).toNatClampNeg))] m o 0 0) ∧ ((nI a) = 0 → (¬ (nI b) = 0 → mWB l g d k_X12_raise Φ 0 0 82 [.ref 0, .int (nI w), .int (nI a), .int (nI b), mJ, mJ, mJ] [.int (0 : Int32), .int (nI b), .ref (mRF 518 ((nI a).toNatClampNeg))] m o 0 0) ∧ ((nI b) = 0 → mWB l g d k_X12_raise Φ 0 0 82 [.ref 0, .int (nI w), .int (nI a), .int (nI b), mJ, mJ, mJ] [.int (1 : Int32), .int (nI b), .ref (mRF 518 ((nI a).toNatClampNeg))] m o 0 0))))
      rw [mIn_ok (show a < 64 by omega) (by decide), nI_cl (by omega), rf_518]
      refine ⟨fun z => absurd z (by rw [show (256 : Int32) = nI 256 from rfl, nI_leI (by decide) (by omega)]; omega), fun _ => ⟨fun z => k82 _ ?_, fun z => ⟨fun y => k82 _ ?_, fun y => k82 _ ?_⟩⟩⟩
      · exact (pI_f (fun u => z (by rw [u.1]; rfl))).symm
      · exact (pI_f (fun u => y (by rw [u.2]; rfl))).symm
      · refine (pI_t ⟨?_, ?_⟩).symm
        · rw [show (0 : Int32) = nI 0 from rfl, nI_eq (by omega) (by decide)] at z; exact z
        · rw [show (0 : Int32) = nI 0 from rfl, nI_eq (by omega) (by decide)] at y; exact y
end R21
