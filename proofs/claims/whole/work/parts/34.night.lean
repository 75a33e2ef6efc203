set_option maxRecDepth 100000
/-! THE NIGHT: men who go and call, hours that pass -/
def cwA (a : Nat) : Prop := a = 4 ∨ a = 6 ∨ 23 ≤ a ∧ a ≤ 36 ∨ 45 ≤ a ∧ a ≤ 50 ∨ 61 ≤ a ∧ a ≤ 68 ∨ 70 ≤ a ∧ a ≤ 229
/-- the same city and law -/
def sim (A B : Mm) : Prop := (∀ a, cwA a → B a = A a) ∧ B 0 21 = A 0 21
theorem sim_refl (A : Mm) : sim A A := ⟨fun _ _ => rfl, rfl⟩
theorem sim_trans {A B C : Mm} (h : sim A B) (h2 : sim B C) : sim A C := ⟨fun a ha => (h2.1 a ha).trans (h.1 a ha), h2.2.trans h.2⟩
theorem sim_cl {A m : Mm} (h : sim A m) : sim A (cl m) := by
  refine ⟨fun a ha => ?_, ?_⟩
  · rw [← h.1 a ha]
    funext i
    exact (clA (m := m) rfl i (by unfold cwA at ha; omega)).symm
  · rw [← h.2]
    exact (clO (m := m) rfl (by omega)).symm
theorem sim_of {A m : Mm} (h : cl m = A) : sim A m := ⟨fun a ha => clF h (by unfold cwA at ha; omega), clO h (by omega)⟩
theorem sim_nS {A B : Mm} (h : sim A B) : nS B = nS A := by unfold nS; rw [h.1 4 (Or.inl rfl)]
theorem sim_nL {A B : Mm} (h : sim A B) : nL B = nL A := by unfold nL; rw [h.1 4 (Or.inl rfl)]
theorem sim_nM {A B : Mm} (h : sim A B) : nM B = nM A := by unfold nM; rw [h.1 4 (Or.inl rfl)]
theorem sim_nP {A B : Mm} (h : sim A B) : nP B = nP A := by unfold nP; rw [h.1 4 (Or.inl rfl)]
theorem sim_nW {A B : Mm} (h : sim A B) : nW B = nW A := by unfold nW; rw [h.2]
theorem sim_CtB {A B : Mm} (h : sim A B) (hA : CtB A) : CtB B := by
  unfold CtB
  rw [sim_nS h, sim_nL h, sim_nM h, sim_nP h, h.1 4 (Or.inl rfl)]
  exact hA
theorem sim_Ln {A B : Mm} (h : sim A B) (hA : CtB A) (x y : Int32) : Ln B x y = Ln A x y := by
  unfold Ln LnE
  rw [sim_nL h]
  have : ∀ e, e < nL A → B (23 + e) = A (23 + e) := fun e he => h.1 _ (by unfold cwA; have := hA.2.1.2; omega)
  exact propext ⟨fun ⟨e, he, q⟩ => ⟨e, he, by rw [this e he] at q; exact q⟩, fun ⟨e, he, q⟩ => ⟨e, he, by rw [this e he]; exact q⟩⟩
theorem sim_c0 {A B : Mm} (h : sim A B) {k : Nat} (hk : k < 160) : c0 B k = c0 A k ∧ c1 B k = c1 A k := by
  unfold c0 c1
  rw [h.1 (70 + k) (by unfold cwA; omega)]
  exact ⟨rfl, rfl⟩
theorem sim_ht {A B : Mm} (h : sim A B) : ∀ {k : Nat}, k ≤ 160 → ht B k = ht A k
  | 0, _ => rfl
  | k + 1, hk => by
    show (if _ then _ else _) = (if _ then _ else _)
    rw [(sim_c0 h (k := k) (by omega)).1, sim_ht h (k := k) (by omega)]
theorem sim_LwOk {A B : Mm} (h : sim A B) (hA : LwOk A) : LwOk B := by
  unfold LwOk
  rw [sim_nW h, h.2]
  refine ⟨hA.1, hA.2.1, fun k hk => ?_⟩
  have hN := hA.2.1
  rw [(sim_c0 h (k := k) (by omega)).1, (sim_c0 h (k := k) (by omega)).2, sim_ht h (by omega), h.1 (70 + k) (by unfold cwA; omega)]
  exact hA.2.2 k hk
theorem sim_evS {A B : Mm} (h : sim A B) (kn : Nat → Int32) : ∀ {k : Nat}, k ≤ 160 → evS B kn k = evS A kn k
  | 0, _ => rfl
  | k + 1, hk => by
    show (if _ then _ else if _ then _ else _) = (if _ then _ else if _ then _ else _)
    rw [(sim_c0 h (k := k) (by omega)).1, (sim_c0 h (k := k) (by omega)).2, sim_ht h (by omega), sim_evS h kn (k := k) (by omega)]
theorem sim_Sv {A B : Mm} (h : sim A B) (hA : Sv A) : Sv B := ⟨sim_CtB h hA.1, sim_LwOk h hA.2⟩
theorem sim_say {A B : Mm} (h : sim A B) (hA : Sv A) (R : Nat → Int32) {k : Nat} (hk : k < 6) (s : Nat) (hr : Int32) : sayR B R k s hr = sayR A R k s hr := by
  unfold sayR wl lawV oth
  have := hA.2.2.1
  rw [h.1 (45 + k) (by unfold cwA; omega), sim_nM h, sim_nW h, sim_evS h _ (by omega)]
/-- the row r, what was counted as woken, and scratch may change -/
def fr (r : Nat) (m m2 : Mm) : Prop := (∀ a, a ≠ 0 → a ≠ 411 → a ≠ 412 → a ≠ r → m2 a = m a) ∧ ∀ i, i ≠ 40 → m2 0 i = m 0 i
theorem fr_refl (r : Nat) (m : Mm) : fr r m m := ⟨fun _ _ _ _ _ => rfl, fun _ _ => rfl⟩
theorem fr_trans {r : Nat} {m m2 m3 : Mm} (h : fr r m m2) (h2 : fr r m2 m3) : fr r m m3 := ⟨fun a x y z w => (h2.1 a x y z w).trans (h.1 a x y z w), fun i hi => (h2.2 i hi).trans (h.2 i hi)⟩
theorem fr_K {r : Nat} {m m2 : Mm} (h : eqL lK m m2) : fr r m m2 := ⟨fun a _ y z _ => h a (by simp [y, z]), fun i _ => by rw [h 0 (by decide)]⟩
theorem fr_row {r : Nat} (hr : r ≠ 0) {m m2 : Mm} (h : fr r m m2) (i : Nat) (v : Int32) : fr r m (mset m2 r i v) := ⟨fun a x y z w => by rw [mset_ne m2 (a := r) (x := a) i v w]; exact h.1 a x y z w, fun j hj => by rw [mset_ne m2 (a := r) (x := 0) i v (Ne.symm hr)]; exact h.2 j hj⟩
theorem fr_wk {r : Nat} {m m2 : Mm} (h : fr r m m2) (v : Int32) : fr r m (mset m2 0 40 v) := ⟨fun a x y z w => by rw [mset_ne m2 (a := 0) (x := a) 40 v x]; exact h.1 a x y z w, fun j hj => by rw [mset_eq, pk_un hj]; exact h.2 j hj⟩
theorem fr_sim {r : Nat} (hr : r = 494 ∨ r = 495) {A m m2 : Mm} (h : fr r m m2) (hs : sim A m) : sim A m2 := ⟨fun a ha => by rw [h.1 a (by unfold cwA at ha; omega) (by unfold cwA at ha; omega) (by unfold cwA at ha; omega) (by unfold cwA at ha; omega)]; exact hs.1 a ha, by rw [h.2 21 (by decide)]; exact hs.2⟩
theorem sim_at {A m : Mm} (h : sim A m) {a : Nat} (i : Nat) (ha : a = 4 ∨ a = 6 ∨ 23 ≤ a ∧ a ≤ 36 ∨ 45 ≤ a ∧ a ≤ 50 ∨ 61 ≤ a ∧ a ≤ 68 ∨ 70 ≤ a ∧ a ≤ 229) : m a i = A a i := by rw [h.1 a ha]
noncomputable def stC (A : Mm) (s : Nat) (c : Int32) (p : Nat) (x : (Nat → Int32) × Int32) : (Nat → Int32) × Int32 := ifp (A (61 + p) 0 = nI s ∧ A (61 + p) 1 = c) (upd x.1 (27 + p) 1, x.2 + (1 - x.1 (27 + p))) x
noncomputable def coC (A : Mm) (R : Nat → Int32) (k : Nat) : Int32 := sayR A R k (R k).toNatClampNeg (R 35)
noncomputable def coR (A : Mm) (R : Nat → Int32) (k : Nat) : Nat → Int32 := upd (upd R (18 + (R k).toNatClampNeg) (coC A R k)) (6 + k) (R (6 + k) + 1)
noncomputable def coS (A : Mm) (R : Nat → Int32) (k : Nat) (w : Int32) (n : Nat) : (Nat → Int32) × Int32 := fo (stC A (R k).toNatClampNeg (coC A R k)) n (coR A R k, w)
abbrev N3 : Type := Int32 × (Nat → Int32) × Int32
noncomputable def nCall (A : Mm) (R : Nat → Int32) (k : Nat) (w : Int32) : N3 := if R (12 + k) = 1 then (0, R, w) else (1, coS A R k w (nP A))
noncomputable def nWalk (A : Mm) (R : Nat → Int32) (k s : Nat) (w : Int32) : N3 := ifp (R (12 + k) = 1 ∨ ¬ Ln A (R k) (nI s)) (0, R, w) (nCall A (upd R k (nI s)) k w)
def nHour (R : Nat → Int32) : Nat → Int32 := if 24 ≤ R 35 + 1 then (fun i => if i = 35 then 0 else if i = 36 then R 36 + 1 else if 18 ≤ i ∧ i < 27 then 24 else if 27 ≤ i ∧ i < 35 then 0 else R i) else upd R 35 (R 35 + 1)
def pN (r : Nat) (m : Mm) (q : N3) (x : Int32) (m2 : Mm) : Prop := x = q.1 ∧ fr r m m2 ∧ m2 r = q.2.1 ∧ m2 0 40 = q.2.2
section R18
variable {l : Launch} {g : mG} {d : Nat} {A : Mm}
theorem rowB_of {r : Nat} (h : r = 494 ∨ r = 495) : rowB r := by rcases h with rfl | rfl <;> first | exact row_494 | exact row_495
theorem r_callsOut (hA : Sv A) {m : Mm} (hs : sim A m) (hd : 6 ≤ d) {r : Nat} (hr : r = 494 ∨ r = 495) {k : Nat} (hk : k < nM A) (hR : ∀ k, k < nM A → In (m r k) (nS A)) : mHi l g d k_X12_callsOut [.ref 0, .ref r, .int (nI k)] m (pN r m (nCall A (m r) k (m 0 40))) := by
  have hN := hA.1.1
  have hN2 := hA.1.2.2.1
  have hN3 := hA.1.2.2.2
  have hrb := rowB_of hr
  refine nBi 3 rfl rfl rfl (by decide) rfl (fun htr o Φ hΦ => mGoOn (mOk (by decide)) rfl [48] 400 ?_)
  show mReq (mIsB r 1) (mReq (mInB ((12 : Int32) + (nI k)) (mLn r)) ((¬ (m r (((12 : Int32) + (nI k)).toNatClampNeg)) = (1 : Int32) → mReq (mIsB r 1) (mReq (mInB ((0 : Int32) + (nI k)) (mLn r)) (True ∧ mCal l g d k_X12_callsOut Φ 0 0 _ 22 k_X12_saysIn false [.ref 0, .ref r, .int (nI k), .int (m r (((0 : Int32) + (nI k)).toNatClampNeg))] [] [.ref 0, .ref r, .int (nI k), .int (m r (((0 : Int32) + (nI k)).toNatClampNeg)), mJ, mJ] m o 0 0 1))) ∧ ((m r (((12 : Int32) + (nI k)).toNatClampNeg)) = (1 : Int32) → ((0 : Int32) = 0 ∨ (0 : Int32) = 1) ∧ Φ (.inl (some (.int (0 : Int32)))) m o ∧ 0 ≤ 0 ∧ 0 ≤ 0)))
  simp (disch := omega) only [mReq_tt, nI_0a, nI_a0, nI_cl, mIn_ok, lit_add, lit_sub, add_lit, lit_le, le_lit, lit_lt, lt_lit, eq_lit, nI_add, nI_1, nI_leI, nI_ltI, nI_eq, mIn_lit, mIn_0, mIn_1, mIn_2, mIn_3, nI_l0, nI_p0, rf_22, rf_44, rf_60, rf_69, rf_391, rf_7, rf_37, rf_51, rf_230, rf_401, rf_413, rf_496, rf_513, rf_518, sB_2, sB_3, sB_4, sB_5, sB_6, sB_7, sL_2, sL_3, sL_4, sL_5, sL_6, sL_7, not_true_eq_false, not_false_eq_true, false_implies, true_implies, true_and, and_true, eq_self, true_or, or_true, Nat.le_refl, Nat.zero_add, Nat.add_zero, hrb.1, hrb.2]
  unfold nCall at hΦ
  refine and_sw (fun q => ?_) (fun q => ?_)
  · rw [if_pos q] at hΦ
    exact hΦ _ _ ⟨rfl, fr_refl _ _, rfl, rfl⟩
  rw [if_neg q] at hΦ
  have hsc := sim_cl hs
  have hst := In_cl (hR k hk) (by omega)
  rw [hst.1]
  refine nCi htr (r_saysIn (sim_Sv hsc hA) rfl (by omega) hrb (by rw [sim_nM hsc]; exact hk) (by omega)) (by omega) ?_
  intro x m2 hx
  have hx1 : x = coC A (m r) k := hx.1.trans (sim_say hsc hA _ (by omega) _ _)
  have hf2 := fr_K (r := r) hx.2
  have hr0 : r ≠ 0 := by omega
  have hm2r : m2 r = m r := hx.2 r (by simp; omega)
  have hm20 : m2 0 = m 0 := hx.2 0 (by decide)
  show mReq (mIsB r 1) (mReq (mInB ((18 : Int32) + (nI (m r k).toNatClampNeg)) (mLn r)) ((Value.int ((6 : Int32) + (nI k))).category = 1 ∧ (Value.ref r).category = 1 ∧ (mReq (mIsB r 1) (mReq (mInB ((6 : Int32) + (nI k)) (mLn r)) (mReq (mIsB r 1) (mReq (mInB ((6 : Int32) + (nI k)) (mLn r)) (mWB l g d k_X12_callsOut Φ 0 0 48 [.ref 0, .ref r, .int (nI k), .int (nI (m r k).toNatClampNeg), .int x, .int (0 : Int32)] [] (mset (mset m2 r (((18 : Int32) + (nI (m r k).toNatClampNeg)).toNatClampNeg) x) r (((6 : Int32) + (nI k)).toNatClampNeg) (((mset m2 r (((18 : Int32) + (nI (m r k).toNatClampNeg)).toNatClampNeg) x) r (((6 : Int32) + (nI k)).toNatClampNeg)) + (1 : Int32))) o 0 0)))))))
  have hsl := hst.2
  simp (disch := omega) only [mReq_tt, nI_0a, nI_a0, nI_cl, mIn_ok, lit_add, lit_sub, add_lit, lit_le, le_lit, lit_lt, lt_lit, eq_lit, nI_add, nI_1, nI_leI, nI_ltI, nI_eq, mIn_lit, mIn_0, mIn_1, mIn_2, mIn_3, nI_l0, nI_p0, rf_22, rf_44, rf_60, rf_69, rf_391, rf_7, rf_37, rf_51, rf_230, rf_401, rf_413, rf_496, rf_513, rf_518, sB_2, sB_3, sB_4, sB_5, sB_6, sB_7, sL_2, sL_3, sL_4, sL_5, sL_6, sL_7, not_true_eq_false, not_false_eq_true, false_implies, true_implies, true_and, and_true, eq_self, true_or, or_true, Nat.le_refl, Nat.zero_add, Nat.add_zero, hrb.1, hrb.2]
  refine ⟨rfl, rfl, ?_⟩
  have e1 : mset (mset m2 r (18 + (m r k).toNatClampNeg) x) r (6 + k) (mset m2 r (18 + (m r k).toNatClampNeg) x r (6 + k) + 1) r = coR A (m r) k := by
    rw [mset_eq, mset_eq, pk_un (by omega), hm2r, hx1]
    rfl
  have e2 : mset (mset m2 r (18 + (m r k).toNatClampNeg) x) r (6 + k) (mset m2 r (18 + (m r k).toNatClampNeg) x r (6 + k) + 1) 0 40 = m 0 40 := by
    rw [mset_ne _ (a := r) (x := 0) _ _ (Ne.symm hr0), mset_ne _ (a := r) (x := 0) _ _ (Ne.symm hr0), hm20]
  have e3 := fr_row hr0 (fr_row hr0 hf2 (18 + (m r k).toNatClampNeg) x) (6 + k) (mset m2 r (18 + (m r k).toNatClampNeg) x r (6 + k) + 1)
  generalize mset (mset m2 r (18 + (m r k).toNatClampNeg) x) r (6 + k) (mset m2 r (18 + (m r k).toNatClampNeg) x r (6 + k) + 1) = m3 at e1 e2 e3 ⊢
  rw [hx1]
  refine mLoopZ (P := fun p => ∀ m', fr r m m' → m' r = (coS A (m r) k (m 0 40) p).1 → m' 0 40 = (coS A (m r) k (m 0 40) p).2 → mWB l g d k_X12_callsOut Φ 0 0 48 [.ref 0, .ref r, .int (nI k), .int (nI (m r k).toNatClampNeg), .int (coC A (m r) k), .int (nI p)] [] m' o 0 0) (N := nP A) (fun m' he hr1 hw1 => mGoOn (mOk (by decide)) rfl [48] 400 ?_) (fun p hi ih m' he hr1 hw1 => mGoOn (mOk (by decide)) rfl [48] 400 ?_) m3 e3 e1 e2
  · show ((m' 4 3) ≤ (nI (nP A)) → ((1 : Int32) = 0 ∨ (1 : Int32) = 1) ∧ Φ (.inl (some (.int (1 : Int32)))) m' o ∧ 0 ≤ 0 ∧ 0 ≤ 0) ∧ (¬ (m' 4 3) ≤ (nI (nP A)) → mReq (mInB (nI (nP A)) 8) (mReq (mIsB (mRF 60 ((nI (nP A)).toNatClampNeg)) 1) (mReq (mInB (0 : Int32) (mLn (mRF 60 ((nI (nP A)).toNatClampNeg)))) ((¬ (m' (mRF 60 ((nI (nP A)).toNatClampNeg)) 0) = (nI (m r k).toNatClampNeg) → mWB l g d k_X12_callsOut Φ 0 0 48 [.ref 0, .ref r, .int (nI k), .int (nI (m r k).toNatClampNeg), .int (coC A (m r) k), .int ((nI (nP A)) + (1 : Int32))] [] m' o 0 0) ∧ ((m' (mRF 60 ((nI (nP A)).toNatClampNeg)) 0) = (nI (m r k).toNatClampNeg) → mReq (mInB (nI (nP A)) 8) (mReq (mIsB (mRF 60 ((nI (nP A)).toNatClampNeg)) 1) (mReq (mInB (1 : Int32) (mLn (mRF 60 ((nI (nP A)).toNatClampNeg)))) (((m' (mRF 60 ((nI (nP A)).toNatClampNeg)) 1) = (coC A (m r) k) → (Value.ref 0).category = 1 ∧ (mReq (mIsB r 1) (mReq (mInB ((27 : Int32) + (nI (nP A))) (mLn r)) (mReq (mIsB r 1) (mReq (mInB ((27 : Int32) + (nI (nP A))) (mLn r)) (mWB l g d k_X12_callsOut Φ 0 0 48 [.ref 0, .ref r, .int (nI k), .int (nI (m r k).toNatClampNeg), .int (coC A (m r) k), .int ((nI (nP A)) + (1 : Int32))] [] (mset (mset m' 0 40 ((m' 0 40) + ((1 : Int32) - (m' r (((27 : Int32) + (nI (nP A))).toNatClampNeg))))) r (((27 : Int32) + (nI (nP A))).toNatClampNeg) (1 : Int32)) o 0 0)))))) ∧ (¬ (m' (mRF 60 ((nI (nP A)).toNatClampNeg)) 1) = (coC A (m r) k) → mWB l g d k_X12_callsOut Φ 0 0 48 [.ref 0, .ref r, .int (nI k), .int (nI (m r k).toNatClampNeg), .int (coC A (m r) k), .int ((nI (nP A)) + (1 : Int32))] [] m' o 0 0)))))))))
    have hs' := fr_sim hr he hs
    simp (disch := omega) only [mReq_tt, nI_0a, nI_a0, nI_cl, mIn_ok, lit_add, lit_sub, add_lit, lit_le, le_lit, lit_lt, lt_lit, eq_lit, nI_add, nI_1, nI_leI, nI_ltI, nI_eq, mIn_lit, mIn_0, mIn_1, mIn_2, mIn_3, nI_l0, nI_p0, rf_22, rf_44, rf_60, rf_69, rf_391, rf_7, rf_37, rf_51, rf_230, rf_401, rf_413, rf_496, rf_513, rf_518, sB_2, sB_3, sB_4, sB_5, sB_6, sB_7, sL_2, sL_3, sL_4, sL_5, sL_6, sL_7, not_true_eq_false, not_false_eq_true, false_implies, true_implies, true_and, and_true, eq_self, true_or, or_true, Nat.le_refl, Nat.zero_add, Nat.add_zero, sim_at hs', hN3.1]
    exact hΦ _ _ ⟨rfl, he, hr1, hw1⟩
  show ((m' 4 3) ≤ (nI p) → ((1 : Int32) = 0 ∨ (1 : Int32) = 1) ∧ Φ (.inl (some (.int (1 : Int32)))) m' o ∧ 0 ≤ 0 ∧ 0 ≤ 0) ∧ (¬ (m' 4 3) ≤ (nI p) → mReq (mInB (nI p) 8) (mReq (mIsB (mRF 60 ((nI p).toNatClampNeg)) 1) (mReq (mInB (0 : Int32) (mLn (mRF 60 ((nI p).toNatClampNeg)))) ((¬ (m' (mRF 60 ((nI p).toNatClampNeg)) 0) = (nI (m r k).toNatClampNeg) → mWB l g d k_X12_callsOut Φ 0 0 48 [.ref 0, .ref r, .int (nI k), .int (nI (m r k).toNatClampNeg), .int (coC A (m r) k), .int ((nI p) + (1 : Int32))] [] m' o 0 0) ∧ ((m' (mRF 60 ((nI p).toNatClampNeg)) 0) = (nI (m r k).toNatClampNeg) → mReq (mInB (nI p) 8) (mReq (mIsB (mRF 60 ((nI p).toNatClampNeg)) 1) (mReq (mInB (1 : Int32) (mLn (mRF 60 ((nI p).toNatClampNeg)))) (((m' (mRF 60 ((nI p).toNatClampNeg)) 1) = (coC A (m r) k) → (Value.ref 0).category = 1 ∧ (mReq (mIsB r 1) (mReq (mInB ((27 : Int32) + (nI p)) (mLn r)) (mReq (mIsB r 1) (mReq (mInB ((27 : Int32) + (nI p)) (mLn r)) (mWB l g d k_X12_callsOut Φ 0 0 48 [.ref 0, .ref r, .int (nI k), .int (nI (m r k).toNatClampNeg), .int (coC A (m r) k), .int ((nI p) + (1 : Int32))] [] (mset (mset m' 0 40 ((m' 0 40) + ((1 : Int32) - (m' r (((27 : Int32) + (nI p)).toNatClampNeg))))) r (((27 : Int32) + (nI p)).toNatClampNeg) (1 : Int32)) o 0 0)))))) ∧ (¬ (m' (mRF 60 ((nI p).toNatClampNeg)) 1) = (coC A (m r) k) → mWB l g d k_X12_callsOut Φ 0 0 48 [.ref 0, .ref r, .int (nI k), .int (nI (m r k).toNatClampNeg), .int (coC A (m r) k), .int ((nI p) + (1 : Int32))] [] m' o 0 0)))))))))
  have hs' := fr_sim hr he hs
  have hf : ¬ nP A ≤ p := by omega
  simp (disch := omega) only [mReq_tt, nI_0a, nI_a0, nI_cl, mIn_ok, lit_add, lit_sub, add_lit, lit_le, le_lit, lit_lt, lt_lit, eq_lit, nI_add, nI_1, nI_leI, nI_ltI, nI_eq, mIn_lit, mIn_0, mIn_1, mIn_2, mIn_3, nI_l0, nI_p0, rf_22, rf_44, rf_60, rf_69, rf_391, rf_7, rf_37, rf_51, rf_230, rf_401, rf_413, rf_496, rf_513, rf_518, sB_2, sB_3, sB_4, sB_5, sB_6, sB_7, sL_2, sL_3, sL_4, sL_5, sL_6, sL_7, not_true_eq_false, not_false_eq_true, false_implies, true_implies, true_and, and_true, eq_self, true_or, or_true, Nat.le_refl, Nat.zero_add, Nat.add_zero, sim_at hs', hN3.1, hf]
  replace ih : ∀ m', fr r m m' → m' r = (stC A (m r k).toNatClampNeg (coC A (m r) k) p (fo (stC A (m r k).toNatClampNeg (coC A (m r) k)) p (coR A (m r) k, m 0 40))).1 → m' 0 40 = (stC A (m r k).toNatClampNeg (coC A (m r) k) p (fo (stC A (m r k).toNatClampNeg (coC A (m r) k)) p (coR A (m r) k, m 0 40))).2 → mWB l g d k_X12_callsOut Φ 0 0 48 [.ref 0, .ref r, .int (nI k), .int (nI (m r k).toNatClampNeg), .int (coC A (m r) k), .int (nI (p + 1))] [] m' o 0 0 := ih
  replace hr1 : m' r = (fo (stC A (m r k).toNatClampNeg (coC A (m r) k)) p (coR A (m r) k, m 0 40)).1 := hr1
  replace hw1 : m' 0 40 = (fo (stC A (m r k).toNatClampNeg (coC A (m r) k)) p (coR A (m r) k, m 0 40)).2 := hw1
  generalize fo (stC A (m r k).toNatClampNeg (coC A (m r) k)) p (coR A (m r) k, m 0 40) = t at hr1 hw1 ih
  have skp : ¬ (A (61 + p) 0 = nI (m r k).toNatClampNeg ∧ A (61 + p) 1 = coC A (m r) k) → mWB l g d k_X12_callsOut Φ 0 0 48 [.ref 0, .ref r, .int (nI k), .int (nI (m r k).toNatClampNeg), .int (coC A (m r) k), .int (nI (p + 1))] [] m' o 0 0 := fun z => ih m' he (by unfold stC; rw [ifp_f z]; exact hr1) (by unfold stC; rw [ifp_f z]; exact hw1)
  refine ⟨fun z => skp (fun y => z y.1), fun z => and_sw (fun y => skp (fun v => y v.2)) (fun y => ⟨rfl, ?_⟩)⟩
  simp (disch := omega) only [mReq_tt, nI_0a, nI_a0, nI_cl, mIn_ok, lit_add, lit_sub, add_lit, lit_le, le_lit, lit_lt, lt_lit, eq_lit, nI_add, nI_1, nI_leI, nI_ltI, nI_eq, mIn_lit, mIn_0, mIn_1, mIn_2, mIn_3, nI_l0, nI_p0, rf_22, rf_44, rf_60, rf_69, rf_391, rf_7, rf_37, rf_51, rf_230, rf_401, rf_413, rf_496, rf_513, rf_518, sB_2, sB_3, sB_4, sB_5, sB_6, sB_7, sL_2, sL_3, sL_4, sL_5, sL_6, sL_7, not_true_eq_false, not_false_eq_true, false_implies, true_implies, true_and, and_true, eq_self, true_or, or_true, Nat.le_refl, Nat.zero_add, Nat.add_zero, hrb.1, hrb.2]
  refine ih _ (fr_row hr0 (fr_wk he _) _ _) ?_ ?_
  · unfold stC
    rw [ifp_t ⟨z, y⟩, mset_eq, mset_ne _ (a := 0) (x := r) _ _ hr0, hr1]
  · unfold stC
    rw [ifp_t ⟨z, y⟩, mset_ne _ (a := r) (x := 0) _ _ (Ne.symm hr0), mset_eq, pk_us, hw1, hr1]
theorem r_walks (hA : Sv A) {m : Mm} (hs : sim A m) (hd : 7 ≤ d) {r : Nat} (hr : r = 494 ∨ r = 495) {k s : Nat} (hk : k < nM A) (hs2 : s < nS A) (hR : ∀ k, k < nM A → In (m r k) (nS A)) : mHi l g d k_X12_walks [.ref 0, .ref r, .int (nI k), .int (nI s)] m (pN r m (nWalk A (m r) k s (m 0 40))) := by
  have hN := hA.1.1
  have hN2 := hA.1.2.2.1
  have hrb := rowB_of hr
  have hr0 : r ≠ 0 := by omega
  refine nBi 0 rfl rfl rfl (by decide) rfl (fun htr o Φ hΦ => mGoOn (mOk (by decide)) rfl [] 400 ?_)
  show mReq (mIsB r 1) (mReq (mInB ((12 : Int32) + (nI k)) (mLn r)) (((m r (((12 : Int32) + (nI k)).toNatClampNeg)) = (1 : Int32) → ((0 : Int32) = 0 ∨ (0 : Int32) = 1) ∧ Φ (.inl (some (.int (0 : Int32)))) m o ∧ 0 ≤ 0 ∧ 0 ≤ 0) ∧ (¬ (m r (((12 : Int32) + (nI k)).toNatClampNeg)) = (1 : Int32) → mReq (mIsB r 1) (mReq (mInB ((0 : Int32) + (nI k)) (mLn r)) (True ∧ mCal l g d k_X12_walks Φ 0 0 _ 17 k_X12_isLane false [.ref 0, .int (m r (((0 : Int32) + (nI k)).toNatClampNeg)), .int (nI s)] [] [.ref 0, .ref r, .int (nI k), .int (nI s)] m o 0 0 1)))))
  simp (disch := omega) only [mReq_tt, nI_0a, nI_a0, nI_cl, mIn_ok, lit_add, lit_sub, add_lit, lit_le, le_lit, lit_lt, lt_lit, eq_lit, nI_add, nI_1, nI_leI, nI_ltI, nI_eq, mIn_lit, mIn_0, mIn_1, mIn_2, mIn_3, nI_l0, nI_p0, rf_22, rf_44, rf_60, rf_69, rf_391, rf_7, rf_37, rf_51, rf_230, rf_401, rf_413, rf_496, rf_513, rf_518, sB_2, sB_3, sB_4, sB_5, sB_6, sB_7, sL_2, sL_3, sL_4, sL_5, sL_6, sL_7, not_true_eq_false, not_false_eq_true, false_implies, true_implies, true_and, and_true, eq_self, true_or, or_true, Nat.le_refl, Nat.zero_add, Nat.add_zero, hrb.1, hrb.2]
  unfold nWalk at hΦ
  refine ⟨fun q => ?_, fun q => ?_⟩
  · rw [ifp_t (Or.inl q)] at hΦ
    exact hΦ _ _ ⟨rfl, fr_refl _ _, rfl, rfl⟩
  have hsc := sim_cl hs
  refine fCi htr (r_isLane (sim_CtB hsc hA.1) rfl _ _) (by omega) ?_
  rw [sim_Ln hsc hA.1]
  show (¬ (pI (Ln A (m r k) (nI s))) = 0 → mReq (mIsB r 1) (mReq (mInB ((0 : Int32) + (nI k)) (mLn r)) (True ∧ mCal l g d k_X12_walks Φ 0 0 _ 34 k_X12_callsOut false [.ref 0, .ref r, .int (nI k)] [] [.ref 0, .ref r, .int (nI k), .int (nI s)] (mset m r (((0 : Int32) + (nI k)).toNatClampNeg) (nI s)) o 0 0 1))) ∧ ((pI (Ln A (m r k) (nI s))) = 0 → ((0 : Int32) = 0 ∨ (0 : Int32) = 1) ∧ Φ (.inl (some (.int (0 : Int32)))) m o ∧ 0 ≤ 0 ∧ 0 ≤ 0)
  refine and_sw (fun z => ?_) (fun z => ?_)
  · rw [ifp_t (Or.inr (pI_0.mp z))] at hΦ
    exact ⟨Or.inl rfl, eR (hΦ _ _ ⟨rfl, fr_refl _ _, rfl, rfl⟩)⟩
  rw [ifp_f (fun y => y.elim q (fun v => v (pI_1.mp z)))] at hΦ
  simp (disch := omega) only [mReq_tt, nI_0a, nI_a0, nI_cl, mIn_ok, lit_add, lit_sub, add_lit, lit_le, le_lit, lit_lt, lt_lit, eq_lit, nI_add, nI_1, nI_leI, nI_ltI, nI_eq, mIn_lit, mIn_0, mIn_1, mIn_2, mIn_3, nI_l0, nI_p0, rf_22, rf_44, rf_60, rf_69, rf_391, rf_7, rf_37, rf_51, rf_230, rf_401, rf_413, rf_496, rf_513, rf_518, sB_2, sB_3, sB_4, sB_5, sB_6, sB_7, sL_2, sL_3, sL_4, sL_5, sL_6, sL_7, not_true_eq_false, not_false_eq_true, false_implies, true_implies, true_and, and_true, eq_self, true_or, or_true, Nat.le_refl, Nat.zero_add, Nat.add_zero, hrb.1, hrb.2]
  have e1 : mset m r k (nI s) r = upd (m r) k (nI s) := mset_eq _ _ _ _
  have e2 : mset m r k (nI s) 0 = m 0 := mset_ne _ _ _ (Ne.symm hr0)
  have hf1 := fr_row hr0 (fr_refl r m) k (nI s)
  refine nCi htr (r_callsOut hA (fr_sim hr hf1 hs) (by omega) hr hk (fun j hj => ?_)) (by omega) ?_
  · rw [e1]
    by_cases e : j = k
    · rw [e, pk_us]; exact ⟨s, hs2, rfl⟩
    · rw [pk_un e]; exact hR j hj
  intro x m2 hx
  have h01 : (nCall A (mset m r k (nI s) r) k (mset m r k (nI s) 0 40)).1 = 0 ∨ (nCall A (mset m r k (nI s) r) k (mset m r k (nI s) 0 40)).1 = 1 := by
    unfold nCall
    by_cases e : mset m r k (nI s) r (12 + k) = 1
    · rw [if_pos e]; exact Or.inl rfl
    · rw [if_neg e]; exact Or.inr rfl
  rw [← hx.1] at h01
  refine ⟨h01, eR (hΦ _ _ ?_)⟩
  rw [e1, e2] at hx
  exact ⟨hx.1, fr_trans hf1 hx.2.1, hx.2.2⟩
theorem upd_at (f : Nat → Int32) (i : Nat) (v : Int32) (j : Nat) : upd f i v j = if j = i then v else f j := by
  by_cases e : j = i
  · rw [e, pk_us, if_pos rfl]
  · rw [pk_un e, if_neg e]
theorem r_hourEnds {m : Mm} {r : Nat} (hr : r = 494 ∨ r = 495) : mHv l g d k_X12_hourEnds [.ref r] m (fun m2 => fr r m m2 ∧ m2 r = nHour (m r) ∧ m2 0 = m 0) := by
  have hrb := rowB_of hr
  have hr0 : r ≠ 0 := by omega
  refine nBv 1 rfl rfl rfl (by decide) rfl (fun htr o Φ hΦ => mGoOn (mOk (by decide)) rfl [33,55] 400 ?_)
  show (Value.int (35 : Int32)).category = 1 ∧ (Value.ref r).category = 1 ∧ (mReq (mIsB r 1) (mReq (mInB (35 : Int32) (mLn r)) (mReq (mIsB r 1) (mReq (mInB (35 : Int32) (mLn r)) (mReq (mIsB r 1) (mReq (mInB (35 : Int32) (mLn r)) (((24 : Int32) ≤ ((mset m r 35 ((m r 35) + (1 : Int32))) r 35) → mReq (mIsB r 1) (mReq (mInB (35 : Int32) (mLn r)) ((Value.int (36 : Int32)).category = 1 ∧ (Value.ref r).category = 1 ∧ (mReq (mIsB r 1) (mReq (mInB (36 : Int32) (mLn r)) (mReq (mIsB r 1) (mReq (mInB (36 : Int32) (mLn r)) (mWB l g d k_X12_hourEnds Φ 0 0 33 [.ref r, .int (0 : Int32)] [] (mset (mset (mset m r 35 ((m r 35) + (1 : Int32))) r 35 (0 : Int32)) r 36 (((mset (mset m r 35 ((m r 35) + (1 : Int32))) r 35 (0 : Int32)) r 36) + (1 : Int32))) o 0 0)))))))) ∧ (¬ (24 : Int32) ≤ ((mset m r 35 ((m r 35) + (1 : Int32))) r 35) → Φ (.inl none) (mset m r 35 ((m r 35) + (1 : Int32))) o ∧ 0 ≤ 0 ∧ 0 ≤ 0))))))))
  refine ⟨rfl, rfl, ?_⟩
  simp (disch := omega) only [mReq_tt, nI_0a, nI_a0, nI_cl, mIn_ok, lit_add, lit_sub, add_lit, lit_le, le_lit, lit_lt, lt_lit, eq_lit, nI_add, nI_1, nI_leI, nI_ltI, nI_eq, mIn_lit, mIn_0, mIn_1, mIn_2, mIn_3, nI_l0, nI_p0, rf_22, rf_44, rf_60, rf_69, rf_391, rf_7, rf_37, rf_51, rf_230, rf_401, rf_413, rf_496, rf_513, rf_518, sB_2, sB_3, sB_4, sB_5, sB_6, sB_7, sL_2, sL_3, sL_4, sL_5, sL_6, sL_7, not_true_eq_false, not_false_eq_true, false_implies, true_implies, true_and, and_true, eq_self, true_or, or_true, Nat.le_refl, Nat.zero_add, Nat.add_zero, hrb.1, hrb.2]
  rw [mset_mset]
  have e35 : mset m r 35 (m r 35 + 1) r 35 = m r 35 + 1 := by rw [mset_eq, pk_us]
  rw [e35]
  unfold nHour at hΦ
  refine and_sw (fun q => ?_) (fun q => ?_)
  · rw [if_neg q] at hΦ
    exact hΦ _ ⟨fr_row hr0 (fr_refl _ _) _ _, mset_eq _ _ _ _, mset_ne _ _ _ (Ne.symm hr0)⟩
  · rw [if_pos q] at hΦ
    refine ⟨rfl, rfl, ?_⟩
    have e36 : mset m r 35 0 r 36 = m r 36 := by rw [mset_eq, pk_un (by decide)]
    rw [e36]
    have last : ∀ m', fr r m m' → m' 0 = m 0 → (∀ i, m' r i = if i = 35 then 0 else if i = 36 then m r 36 + 1 else if 18 ≤ i ∧ i < 27 then 24 else m r i) → mWB l g d k_X12_hourEnds Φ 0 0 55 [.ref r, .int (0 : Int32)] [] m' o 0 0 := by
      intro m' h1 h2 h3
      refine mLoopZ (P := fun k => ∀ m', fr r m m' → m' 0 = m 0 → (∀ i, m' r i = if i = 35 then 0 else if i = 36 then m r 36 + 1 else if 18 ≤ i ∧ i < 27 then 24 else if 27 ≤ i ∧ i < 27 + k then 0 else m r i) → mWB l g d k_X12_hourEnds Φ 0 0 55 [.ref r, .int (nI k)] [] m' o 0 0) (N := 8) ?_ ?_ m' h1 h2 (fun i => by rw [h3 i, if_neg (show ¬ (27 ≤ i ∧ i < 27 + 0) by omega)])
      · intro m' he h0 hi
        refine mGoOn (mOk (by decide)) rfl [33,55] 400 ?_
        show ((8 : Int32) ≤ (nI 8) → Φ (.inl none) m' o ∧ 0 ≤ 0 ∧ 0 ≤ 0) ∧ (¬ (8 : Int32) ≤ (nI 8) → mReq (mIsB r 1) (mReq (mInB ((27 : Int32) + (nI 8)) (mLn r)) (mWB l g d k_X12_hourEnds Φ 0 0 55 [.ref r, .int ((nI 8) + (1 : Int32))] [] (mset m' r (((27 : Int32) + (nI 8)).toNatClampNeg) (0 : Int32)) o 0 0)))
        simp (disch := omega) only [mReq_tt, nI_0a, nI_a0, nI_cl, mIn_ok, lit_add, lit_sub, add_lit, lit_le, le_lit, lit_lt, lt_lit, eq_lit, nI_add, nI_1, nI_leI, nI_ltI, nI_eq, mIn_lit, mIn_0, mIn_1, mIn_2, mIn_3, nI_l0, nI_p0, rf_22, rf_44, rf_60, rf_69, rf_391, rf_7, rf_37, rf_51, rf_230, rf_401, rf_413, rf_496, rf_513, rf_518, sB_2, sB_3, sB_4, sB_5, sB_6, sB_7, sL_2, sL_3, sL_4, sL_5, sL_6, sL_7, not_true_eq_false, not_false_eq_true, false_implies, true_implies, true_and, and_true, eq_self, true_or, or_true, Nat.le_refl, Nat.zero_add, Nat.add_zero]
        exact hΦ _ ⟨he, funext hi, h0⟩
      · intro k hk ih m' he h0 hi
        refine mGoOn (mOk (by decide)) rfl [33,55] 400 ?_
        show ((8 : Int32) ≤ (nI k) → Φ (.inl none) m' o ∧ 0 ≤ 0 ∧ 0 ≤ 0) ∧ (¬ (8 : Int32) ≤ (nI k) → mReq (mIsB r 1) (mReq (mInB ((27 : Int32) + (nI k)) (mLn r)) (mWB l g d k_X12_hourEnds Φ 0 0 55 [.ref r, .int ((nI k) + (1 : Int32))] [] (mset m' r (((27 : Int32) + (nI k)).toNatClampNeg) (0 : Int32)) o 0 0)))
        have hfk : ¬ 8 ≤ k := by omega
        simp (disch := omega) only [mReq_tt, nI_0a, nI_a0, nI_cl, mIn_ok, lit_add, lit_sub, add_lit, lit_le, le_lit, lit_lt, lt_lit, eq_lit, nI_add, nI_1, nI_leI, nI_ltI, nI_eq, mIn_lit, mIn_0, mIn_1, mIn_2, mIn_3, nI_l0, nI_p0, rf_22, rf_44, rf_60, rf_69, rf_391, rf_7, rf_37, rf_51, rf_230, rf_401, rf_413, rf_496, rf_513, rf_518, sB_2, sB_3, sB_4, sB_5, sB_6, sB_7, sL_2, sL_3, sL_4, sL_5, sL_6, sL_7, not_true_eq_false, not_false_eq_true, false_implies, true_implies, true_and, and_true, eq_self, true_or, or_true, Nat.le_refl, Nat.zero_add, Nat.add_zero, hrb.1, hrb.2, hfk]
        refine ih _ (fr_row hr0 he _ _) (by rw [mset_ne _ _ _ (Ne.symm hr0)]; exact h0) (fun i => ?_)
        rw [mset_eq, upd_at, hi i]
        grind
    refine mLoopZ (P := fun k => ∀ m', fr r m m' → m' 0 = m 0 → (∀ i, m' r i = if i = 35 then 0 else if i = 36 then m r 36 + 1 else if 18 ≤ i ∧ i < 18 + k then 24 else m r i) → mWB l g d k_X12_hourEnds Φ 0 0 33 [.ref r, .int (nI k)] [] m' o 0 0) (N := 9) ?_ ?_ (mset (mset m r 35 0) r 36 (m r 36 + 1)) (fr_row hr0 (fr_row hr0 (fr_refl _ _) _ _) _ _) (by rw [mset_ne _ _ _ (Ne.symm hr0), mset_ne _ _ _ (Ne.symm hr0)]) (fun i => by
      rw [mset_eq, mset_eq, upd_at, upd_at]
      grind)
    · intro m' he h0 hi
      refine mGoOn (mOk (by decide)) rfl [33,55] 400 ?_
      show ((9 : Int32) ≤ (nI 9) → mWB l g d k_X12_hourEnds Φ 0 0 55 [.ref r, .int (0 : Int32)] [] m' o 0 0) ∧ (¬ (9 : Int32) ≤ (nI 9) → mReq (mIsB r 1) (mReq (mInB ((18 : Int32) + (nI 9)) (mLn r)) (mWB l g d k_X12_hourEnds Φ 0 0 33 [.ref r, .int ((nI 9) + (1 : Int32))] [] (mset m' r (((18 : Int32) + (nI 9)).toNatClampNeg) (24 : Int32)) o 0 0)))
      simp (disch := omega) only [mReq_tt, nI_0a, nI_a0, nI_cl, mIn_ok, lit_add, lit_sub, add_lit, lit_le, le_lit, lit_lt, lt_lit, eq_lit, nI_add, nI_1, nI_leI, nI_ltI, nI_eq, mIn_lit, mIn_0, mIn_1, mIn_2, mIn_3, nI_l0, nI_p0, rf_22, rf_44, rf_60, rf_69, rf_391, rf_7, rf_37, rf_51, rf_230, rf_401, rf_413, rf_496, rf_513, rf_518, sB_2, sB_3, sB_4, sB_5, sB_6, sB_7, sL_2, sL_3, sL_4, sL_5, sL_6, sL_7, not_true_eq_false, not_false_eq_true, false_implies, true_implies, true_and, and_true, eq_self, true_or, or_true, Nat.le_refl, Nat.zero_add, Nat.add_zero]
      exact last m' he h0 hi
    · intro k hk ih m' he h0 hi
      refine mGoOn (mOk (by decide)) rfl [33,55] 400 ?_
      show ((9 : Int32) ≤ (nI k) → mWB l g d k_X12_hourEnds Φ 0 0 55 [.ref r, .int (0 : Int32)] [] m' o 0 0) ∧ (¬ (9 : Int32) ≤ (nI k) → mReq (mIsB r 1) (mReq (mInB ((18 : Int32) + (nI k)) (mLn r)) (mWB l g d k_X12_hourEnds Φ 0 0 33 [.ref r, .int ((nI k) + (1 : Int32))] [] (mset m' r (((18 : Int32) + (nI k)).toNatClampNeg) (24 : Int32)) o 0 0)))
      have hfk : ¬ 9 ≤ k := by omega
      simp (disch := omega) only [mReq_tt, nI_0a, nI_a0, nI_cl, mIn_ok, lit_add, lit_sub, add_lit, lit_le, le_lit, lit_lt, lt_lit, eq_lit, nI_add, nI_1, nI_leI, nI_ltI, nI_eq, mIn_lit, mIn_0, mIn_1, mIn_2, mIn_3, nI_l0, nI_p0, rf_22, rf_44, rf_60, rf_69, rf_391, rf_7, rf_37, rf_51, rf_230, rf_401, rf_413, rf_496, rf_513, rf_518, sB_2, sB_3, sB_4, sB_5, sB_6, sB_7, sL_2, sL_3, sL_4, sL_5, sL_6, sL_7, not_true_eq_false, not_false_eq_true, false_implies, true_implies, true_and, and_true, eq_self, true_or, or_true, Nat.le_refl, Nat.zero_add, Nat.add_zero, hrb.1, hrb.2, hfk]
      refine ih _ (fr_row hr0 he _ _) (by rw [mset_ne _ _ _ (Ne.symm hr0)]; exact h0) (fun i => ?_)
      rw [mset_eq, upd_at, hi i]
      grind
end R18
