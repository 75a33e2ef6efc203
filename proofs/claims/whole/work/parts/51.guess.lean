set_option maxRecDepth 100000
/-! THE CLASS'S QUERIES: who, listen -/
theorem bk_is {A : Mm} (hB : BkOk A) (hR : BkR A A 617) (h9 : nS A ≤ 9) {s : Nat} (hs : s < 9) : (A 618 s = -1 ↔ ¬ isT A (nI s)) ∧ ∀ t, t < nB A → A (392 + t) 0 = nI s → A 618 s = A (392 + t) 1 := by
  have h := hR.2 s hs
  refine ⟨⟨fun q => ?_, fun q => h.2 (fun t ht e => q ⟨t, ht, e⟩)⟩, h.1⟩
  rintro ⟨t, ht, e⟩
  have e1 := h.1 t ht e
  obtain ⟨c, hc, ec⟩ := (hB.2.2.1 t ht).2
  have e2 : A 618 s = nI c := e1.trans ec
  rw [q] at e2
  exact nI_m1 (by omega) e2.symm
def fitN (A : Mm) (k : Nat) (h : Int32) (s : Nat) : Prop := A 618 s ≠ -1 ∧ sayN A k s h ≠ A 618 s
theorem fit_is {A : Mm} (hB : BkOk A) (hR : BkR A A 617) (h9 : nS A ≤ 9) (k : Nat) (h : Int32) : isC A k h ↔ ∀ s, s < nS A → ¬ fitN A k h s := by
  constructor
  · rintro q s hs ⟨h1, h2⟩
    have hb := bk_is hB hR h9 (s := s) (by omega)
    have : isT A (nI s) := by
      by_cases z : isT A (nI s)
      · exact z
      · exact absurd (hb.1.mpr z) h1
    obtain ⟨t, ht, e⟩ := this
    refine q t ht ?_
    unfold clN
    rw [e, nI_cl (by omega), ← hb.2 t ht e]
    exact h2
  · intro q t ht z
    have hs := In_cl (hB.2.2.1 t ht).1 (by omega)
    have hb := bk_is hB hR h9 (s := (A (392 + t) 0).toNatClampNeg) (by omega)
    refine q _ hs.2 ⟨fun y => hb.1.mp y ⟨t, ht, hs.1⟩, ?_⟩
    rw [hb.2 t ht hs.1]
    exact z
noncomputable def stP (A : Mm) (a h : Nat) (x : Nat × (Nat → Int32)) : Nat × (Nat → Int32) := ifp (isC A a (nI h)) (x.1 + 1, upd x.2 x.1 (nI (100 * a + h))) x
noncomputable def foP (A : Mm) (K : Nat) : Nat × (Nat → Int32) := fo (fun a x => fo (stP A a) 24 x) K (0, fun _ => 0)
theorem fo_inv2 {σ τ : Type} {st : Nat → σ → σ} {st' : Nat → τ → τ} {I : Nat → σ → τ → Prop} : ∀ {n : Nat} {x : σ} {y : τ}, I 0 x y → (∀ k, k < n → ∀ x y, I k x y → I (k + 1) (st k x) (st' k y)) → I n (fo st n x) (fo st' n y)
  | 0, _, _, h, _ => h
  | n + 1, x, y, h, hs => hs n (by omega) _ _ (fo_inv2 h (fun k hk => hs k (by omega)))
/-- how many pairs there may be, and what they are -/
def PrI (n : Nat) (x : Nat × (Nat → Int32)) : Prop := x.1 ≤ n ∧ ∀ i, i < x.1 → ∃ a h, a < 6 ∧ h < 24 ∧ x.2 i = nI (100 * a + h)
theorem prI_st (A : Mm) {a h n : Nat} (ha : a < 6) (hh : h < 24) {x : Nat × (Nat → Int32)} (hx : PrI n x) : PrI (n + 1) (stP A a h x) := by
  unfold stP
  by_cases q : isC A a (nI h)
  · rw [ifp_t q]
    refine ⟨by show x.1 + 1 ≤ n + 1; have := hx.1; omega, fun i hi => ?_⟩
    show ∃ a' h', a' < 6 ∧ h' < 24 ∧ upd x.2 x.1 (nI (100 * a + h)) i = _
    by_cases z : i = x.1
    · exact ⟨a, h, ha, hh, by rw [z, pk_us]⟩
    · rw [pk_un z]
      have hi : i < x.1 + 1 := hi
      exact hx.2 i (by omega)
  · rw [ifp_f q]
    exact ⟨by have := hx.1; omega, hx.2⟩
theorem prI_fo (A : Mm) {a n : Nat} (ha : a < 6) {x : Nat × (Nat → Int32)} (hx : PrI n x) : ∀ h, h ≤ 24 → PrI (n + h) (fo (stP A a) h x)
  | 0, _ => hx
  | h + 1, hh => prI_st A ha (by omega) (prI_fo A ha hx h (by omega))
theorem prI_all (A : Mm) : ∀ K, K ≤ 6 → PrI (24 * K) (foP A K)
  | 0, _ => ⟨Nat.le_refl _, fun i hi => absurd hi (Nat.not_lt_zero _)⟩
  | K + 1, hK => by
    have := prI_fo A (a := K) (by omega) (prI_all A K (by omega)) 24 (Nat.le_refl _)
    rwa [show 24 * K + 24 = 24 * (K + 1) by omega] at this
theorem pr_div {a h : Nat} (ha : a < 6) (hh : h < 24) : nI (100 * a + h) / 100 = nI a ∧ jrem (nI (100 * a + h)) 100 = nI h := by
  refine ⟨?_, ?_⟩
  · rw [show (100 : Int32) = nI 100 from rfl, pk_div (by omega) (by decide) (by decide)]
    congr 1
    omega
  · unfold jrem
    rw [show (100 : Int32) = nI 100 from rfl, pk_rem (by omega) (by decide) (by decide)]
    congr 1
    omega
/-- the reference's three numbers, out of the pairs -/
def WhI (n : Nat) (s : Int32 × Int32 × Int32) (x : Nat × (Nat → Int32)) : Prop := x.1 ≤ n ∧ s.1 = nI x.1 ∧ s.2.1 = (if x.1 = 0 then -1 else x.2 0) ∧ s.2.2 = uni (fun i => jshl 1 (x.2 i / 100)) x.1
theorem whI_st (A : Mm) {a h n : Nat} (ha : a < 6) (hh : h < 24) (hn : n < 1000) {s : Int32 × Int32 × Int32} {x : Nat × (Nat → Int32)} (hx : WhI n s x) : WhI (n + 1) (stW A a h s) (stP A a h x) := by
  obtain ⟨h1, h2, h3, h4⟩ := hx
  unfold stW stP
  by_cases q : isC A a (nI h)
  · rw [ifp_t q, ifp_t q]
    have e0 : (100 * nI a + nI h : Int32) = nI (100 * a + h) := by rw [show (100 : Int32) = nI 100 from rfl, pk_mul, nI_add]
    refine ⟨by show x.1 + 1 ≤ n + 1; omega, by show s.1 + 1 = nI (x.1 + 1); rw [h2, nI_1], ?_, ?_⟩
    · show (if s.1 = 0 then 100 * nI a + nI h else s.2.1) = (if x.1 + 1 = 0 then -1 else upd x.2 x.1 (nI (100 * a + h)) 0)
      rw [if_neg (show ¬ x.1 + 1 = 0 by omega)]
      by_cases z : x.1 = 0
      · rw [if_pos (by rw [h2, z]; rfl), e0, z, pk_us]
      · rw [if_neg (by rw [h2]; exact nI_ne0 (by omega) (by omega)), h3, if_neg z, pk_un (by omega)]
    · show s.2.2 ||| jshl 1 (nI a) = uni (fun i => jshl 1 (upd x.2 x.1 (nI (100 * a + h)) i / 100)) (x.1 + 1)
      rw [uni_s, h4, pk_us, (pr_div ha hh).1]
      congr 1
      exact uni_cong (fun k hk => by rw [pk_un (by omega)])
  · rw [ifp_f q, ifp_f q]
    exact ⟨by omega, h2, h3, h4⟩
theorem whI_fo (A : Mm) {a n : Nat} (ha : a < 6) (hn : n < 500) {s : Int32 × Int32 × Int32} {x : Nat × (Nat → Int32)} (hx : WhI n s x) : ∀ h, h ≤ 24 → WhI (n + h) (fo (stW A a) h s) (fo (stP A a) h x)
  | 0, _ => hx
  | h + 1, hh => whI_st (n := n + h) A ha (by omega) (by omega) (whI_fo A ha hn hx h (by omega))
theorem whI_all (A : Mm) : ∀ K, K ≤ 6 → WhI (24 * K) (foW A K) (foP A K)
  | 0, _ => ⟨Nat.le_refl _, rfl, rfl, rfl⟩
  | K + 1, hK => by
    have := whI_fo A (a := K) (by omega) (by omega) (whI_all A K (by omega)) 24 (Nat.le_refl _)
    rwa [show 24 * K + 24 = 24 * (K + 1) by omega] at this
/-- what is left at the worst, out of the pairs -/
noncomputable def lst (A : Mm) (s : Nat) (f : Nat → Int32) (i : Nat) (t : (Nat → Int32) × Int32) : (Nat → Int32) × Int32 :=
  let c := (sayN A (f i / 100).toNatClampNeg s (jrem (f i) 100)).toNatClampNeg
  (upd t.1 c (t.1 c + 1), if t.1 c + 1 < t.2 then t.2 else t.1 c + 1)
def LeI (A : Mm) (s n : Nat) (t : (Nat → Int32) × Int32) (x : Nat × (Nat → Int32)) : Prop := x.1 ≤ n ∧ t = fo (lst A s x.2) x.1 (fun _ => 0, 0)
theorem leI_st (A : Mm) (s : Nat) {a h n : Nat} (ha : a < 6) (hh : h < 24) {t : (Nat → Int32) × Int32} {x : Nat × (Nat → Int32)} (hx : LeI A s n t x) : LeI A s (n + 1) (stL A s a h t) (stP A a h x) := by
  obtain ⟨h1, h2⟩ := hx
  unfold stL stP
  by_cases q : isC A a (nI h)
  · rw [ifp_t q, ifp_t q]
    refine ⟨by show x.1 + 1 ≤ n + 1; omega, ?_⟩
    show _ = lst A s (upd x.2 x.1 (nI (100 * a + h))) x.1 (fo (lst A s (upd x.2 x.1 (nI (100 * a + h)))) x.1 (fun _ => 0, 0))
    rw [show fo (lst A s (upd x.2 x.1 (nI (100 * a + h)))) x.1 (fun _ => 0, 0) = t from by
      rw [h2]
      exact fo_cong (fun k hk z => by unfold lst; rw [pk_un (by omega)])]
    unfold lst
    rw [pk_us, (pr_div ha hh).1, (pr_div ha hh).2, nI_cl (by omega)]
  · rw [ifp_f q, ifp_f q]
    exact ⟨by omega, h2⟩
theorem leI_fo (A : Mm) (s : Nat) {a n : Nat} (ha : a < 6) {t : (Nat → Int32) × Int32} {x : Nat × (Nat → Int32)} (hx : LeI A s n t x) : ∀ h, h ≤ 24 → LeI A s (n + h) (fo (stL A s a) h t) (fo (stP A a) h x)
  | 0, _ => hx
  | h + 1, hh => leI_st A s ha (by omega) (leI_fo A s ha hx h (by omega))
theorem leI_all (A : Mm) (s : Nat) : ∀ K, K ≤ 6 → LeI A s (24 * K) (foL A s K) (foP A K)
  | 0, _ => ⟨Nat.le_refl _, rfl⟩
  | K + 1, hK => by
    have := leI_fo A s (a := K) (by omega) (leI_all A s K (by omega)) 24 (Nat.le_refl _)
    rwa [show 24 * K + 24 = 24 * (K + 1) by omega] at this
abbrev lG : List Nat := [602, 603, 698, 699, 700]
theorem sc_G : ∀ a, a ∈ lG → ∀ i, sc a i = true := by
  intro a ha i
  rcases List.mem_cons.mp ha with rfl | ha
  · rfl
  · rcases List.mem_cons.mp ha with rfl | ha
    · rfl
    · rcases List.mem_cons.mp ha with rfl | ha
      · rfl
      · rcases List.mem_cons.mp ha with rfl | ha
        · rfl
        · rcases List.mem_cons.mp ha with rfl | ha
          · rfl
          · cases ha
theorem eqG_cl {m m2 A : Mm} (h : eqL lG m m2) (hm : cl m = A) : cl m2 = A := eqL_cl sc_G h hm
theorem eqC_G {m m2 : Mm} (h : eqL lC m m2) : eqL lG m m2 := eqL_sub h (by decide)
section X9
variable {l : Launch} {g : mG} {d : Nat} {A : Mm}
theorem x_hourOf (hQ : Qr A) {m : Mm} (hm : cl m = A) (hd : 1 ≤ d) {s : Nat} (hs : s < 9) : mFi l g d k_X0_hourOf [.ref 617, .int (nI s)] m (A 618 s) m := by
  refine nFi 0 rfl rfl rfl (by decide) rfl (fun htr o Φ hΦ => mGoOn (mOk (by decide)) rfl [] 400 ?_)
  show mCal l g d k_X0_hourOf Φ 0 0 _ 5 k_X11_at true [.ref 618, .int (nI s)] [] [.ref 617, .int (nI s)] m o 0 0 1
  refine fCi htr (x_at m (a := 618) (n := 9) rfl rfl (by decide) hs) hd ?_
  rw [ar hm 618 s]
  exact eR hΦ
theorem x_cryH (hQ : Qr A) {m : Mm} (hm : cl m = A) (hd : 2 ≤ d) {k s : Nat} (hk : k < nM A) (hs : s < nS A) (h : Int32) : mHi l g d k_X8_cry [.ref 589, .ref 626, .int (nI k), .int (nI s), .int h] m (fun x m2 => x = sayN A k s h ∧ eqL lC m m2) :=
  x_cry ⟨hQ.1.1, hQ.2.1⟩ hQ.2.2.2.2.1 hQ.2.2.2.2.2.1 (csim_of hm) hd rfl (Or.inr (by decide)) (nrNow hQ hm) hk hs h
theorem x_fits (hQ : Qr A) {m : Mm} (hm : cl m = A) (hd : 3 ≤ d) {k : Nat} (hk : k < nM A) (h : Int32) : mHi l g d k_X2_fits [.ref 589, .ref 626, .ref 617, .int (nI k), .int h] m (fun x m2 => x = pI (isC A k h) ∧ eqL lC m m2) := by
  have hA := hQ.1.1
  have hC := hQ.2.2.2.2.1
  have h9 := hA.1.2
  have hfit := fit_is hQ.2.2.1 hQ.2.2.2.2.2.2.1 h9 k h
  refine nBi 2 rfl rfl rfl (by decide) rfl (fun htr o Φ hΦ => mGoOn (mOk (by decide)) rfl [3,46] 400 ?_)
  show mWB l g d k_X2_fits Φ 0 0 3 [.ref 589, .ref 626, .ref 617, .int (nI k), .int h, .int (0 : Int32), mJ] [] m o 0 0
  refine mLoopQ (Q := fitN A k h) (P := fun s => ∀ m', eqL lC m m' → mWB l g d k_X2_fits Φ 0 0 3 [.ref 589, .ref 626, .ref 617, .int (nI k), .int h, .int (nI s), mJ] [] m' o 0 0) (N := nS A) (fun hb m' he => mGoOn (mOk (by decide)) rfl [3,46] 400 ?_) (fun s hi hb ih m' he => mGoOn (mOk (by decide)) rfl [3,46] 400 ?_) m (eqL_refl _ _)
  · show ((m' 590 0) ≤ (nI (nS A)) → ((1 : Int32) = 0 ∨ (1 : Int32) = 1) ∧ Φ (.inl (some (.int (1 : Int32)))) m' o ∧ 0 ≤ 0 ∧ 0 ≤ 0) ∧ (¬ (m' 590 0) ≤ (nI (nS A)) → True ∧ mCal l g d k_X2_fits Φ 0 0 _ 18 k_X0_hourOf false [.ref 617, .int (nI (nS A))] [] [.ref 589, .ref 626, .ref 617, .int (nI k), .int h, .int (nI (nS A)), mJ] m' o 0 0 1)
    have hm' := eqC_cl he hm
    simp (disch := omega) only [mReq_tt, nI_0a, nI_a0, nI_cl, mIn_ok, lit_add, lit_sub, add_lit, lit_le, le_lit, lit_lt, lt_lit, eq_lit, nI_add, nI_1, nI_leI, nI_ltI, nI_eq, mIn_lit, mIn_0, mIn_1, mIn_2, mIn_3, nI_l0, nI_p0, rf_22, rf_44, rf_60, rf_69, rf_391, rf_7, rf_37, rf_51, rf_230, rf_401, rf_413, rf_496, rf_513, rf_518, sB_2, sB_3, sB_4, sB_5, sB_6, sB_7, sL_2, sL_3, sL_4, sL_5, sL_6, sL_7, not_true_eq_false, not_false_eq_true, false_implies, true_implies, true_and, and_true, eq_self, true_or, or_true, Nat.le_refl, Nat.zero_add, Nat.add_zero, ar hm' 590 0, hC.1.1]
    exact hΦ _ _ ⟨(pI_t (hfit.mpr hb)).symm, he⟩
  show ((m' 590 0) ≤ (nI s) → ((1 : Int32) = 0 ∨ (1 : Int32) = 1) ∧ Φ (.inl (some (.int (1 : Int32)))) m' o ∧ 0 ≤ 0 ∧ 0 ≤ 0) ∧ (¬ (m' 590 0) ≤ (nI s) → True ∧ mCal l g d k_X2_fits Φ 0 0 _ 18 k_X0_hourOf false [.ref 617, .int (nI s)] [] [.ref 589, .ref 626, .ref 617, .int (nI k), .int h, .int (nI s), mJ] m' o 0 0 1)
  have hm' := eqC_cl he hm
  have hf : ¬ nS A ≤ s := by omega
  simp (disch := omega) only [mReq_tt, nI_0a, nI_a0, nI_cl, mIn_ok, lit_add, lit_sub, add_lit, lit_le, le_lit, lit_lt, lt_lit, eq_lit, nI_add, nI_1, nI_leI, nI_ltI, nI_eq, mIn_lit, mIn_0, mIn_1, mIn_2, mIn_3, nI_l0, nI_p0, rf_22, rf_44, rf_60, rf_69, rf_391, rf_7, rf_37, rf_51, rf_230, rf_401, rf_413, rf_496, rf_513, rf_518, sB_2, sB_3, sB_4, sB_5, sB_6, sB_7, sL_2, sL_3, sL_4, sL_5, sL_6, sL_7, not_true_eq_false, not_false_eq_true, false_implies, true_implies, true_and, and_true, eq_self, true_or, or_true, Nat.le_refl, Nat.zero_add, Nat.add_zero, ar hm' 590 0, hC.1.1, hf]
  refine fCi htr (x_hourOf hQ hm' (by omega) (by omega)) (by omega) ?_
  show ((A 618 s) = (-1 : Int32) → mWB l g d k_X2_fits Φ 0 0 46 [.ref 589, .ref 626, .ref 617, .int (nI k), .int h, .int (nI s), .int (A 618 s)] [] m' o 0 0) ∧ (¬ (A 618 s) = (-1 : Int32) → True ∧ mCal l g d k_X2_fits Φ 0 0 _ 36 k_X8_cry false [.ref 589, .ref 626, .int (nI k), .int (nI s), .int h] [] [.ref 589, .ref 626, .ref 617, .int (nI k), .int h, .int (nI s), .int (A 618 s)] m' o 0 0 1)
  have k46 : ∀ m', eqL lC m m' → ¬ fitN A k h s → mWB l g d k_X2_fits Φ 0 0 46 [.ref 589, .ref 626, .ref 617, .int (nI k), .int h, .int (nI s), .int (A 618 s)] [] m' o 0 0 := by
    intro m' he q
    refine mGoOn (mOk (by decide)) rfl [3] 400 ?_
    show mWB l g d k_X2_fits Φ 0 0 3 [.ref 589, .ref 626, .ref 617, .int (nI k), .int h, .int ((nI s) + (1 : Int32)), .int (A 618 s)] [] m' o 0 0
    rw [nI_1]
    exact mWB_wk (ih q m' he) ⟨Or.inr rfl, Or.inr rfl, Or.inr rfl, Or.inr rfl, Or.inr rfl, Or.inr rfl, Or.inl rfl, trivial⟩
  refine ⟨fun q => k46 m' he (fun z => z.1 q), fun q => ⟨trivial, nCi htr (x_cryH hQ hm' (by omega) hk (by omega) h) (by omega) ?_⟩⟩
  intro x m2 hx
  show (x = (A 618 s) → mWB l g d k_X2_fits Φ 0 0 46 [.ref 589, .ref 626, .ref 617, .int (nI k), .int h, .int (nI s), .int (A 618 s)] [] m2 o 0 0) ∧ (¬ x = (A 618 s) → ((0 : Int32) = 0 ∨ (0 : Int32) = 1) ∧ Φ (.inl (some (.int (0 : Int32)))) m2 o ∧ 0 ≤ 0 ∧ 0 ≤ 0)
  refine ⟨fun z => k46 m2 (eqL_trans he hx.2) (fun y => y.2 (hx.1.symm.trans z)), fun z => ⟨Or.inl rfl, eR (hΦ _ _ ⟨(pI_f (fun y => hfit.mp y s hi ⟨q, fun v => z (hx.1.trans v)⟩)).symm, eqL_trans he hx.2⟩)⟩⟩
theorem x_match (hQ : Qr A) {m : Mm} (hm : cl m = A) (hd : 4 ≤ d) : mHv l g d k_X2_match [.ref 698, .ref 589, .ref 626, .ref 617] m (fun m2 => eqL lG m m2 ∧ m2 698 2 = nI (foP A (nM A)).1 ∧ ∀ i, i < (foP A (nM A)).1 → m2 699 i = (foP A (nM A)).2 i) := by
  have hA := hQ.1.1
  have hC := hQ.2.2.2.2.1
  have h6 := hA.2.2.1.2
  refine nBv 2 rfl rfl rfl (by decide) rfl (fun htr o Φ hΦ => mGoOn (mOk (by decide)) rfl [8,23,72] 400 ?_)
  show mWB l g d k_X2_match Φ 0 0 8 [.ref 698, .ref 589, .ref 626, .ref 617, .int (0 : Int32), mJ] [] (mset m 698 2 (0 : Int32)) o 0 0
  refine mLoopZ (P := fun a => ∀ m', eqL lG m m' → m' 698 2 = nI (foP A a).1 → (∀ i, i < (foP A a).1 → m' 699 i = (foP A a).2 i) → mWB l g d k_X2_match Φ 0 0 8 [.ref 698, .ref 589, .ref 626, .ref 617, .int (nI a), mJ] [] m' o 0 0) (N := nM A) ?_ ?_ _ (eqL_mset (eqL_refl _ _) (by decide) _ _) (by rw [mset_eq, pk_us]; rfl) (fun i hi => absurd hi (Nat.not_lt_zero _))
  · intro m' he h1 h2
    have hm' := eqG_cl he hm
    refine mGoOn (mOk (by decide)) rfl [8,23,72] 400 ?_
    show ((m' 590 2) ≤ (nI (nM A)) → Φ (.inl none) m' o ∧ 0 ≤ 0 ∧ 0 ≤ 0) ∧ (¬ (m' 590 2) ≤ (nI (nM A)) → mWB l g d k_X2_match Φ 0 0 23 [.ref 698, .ref 589, .ref 626, .ref 617, .int (nI (nM A)), .int (0 : Int32)] [] m' o 0 0)
    simp (disch := omega) only [mReq_tt, nI_0a, nI_a0, nI_cl, mIn_ok, lit_add, lit_sub, add_lit, lit_le, le_lit, lit_lt, lt_lit, eq_lit, nI_add, nI_1, nI_leI, nI_ltI, nI_eq, mIn_lit, mIn_0, mIn_1, mIn_2, mIn_3, nI_l0, nI_p0, rf_22, rf_44, rf_60, rf_69, rf_391, rf_7, rf_37, rf_51, rf_230, rf_401, rf_413, rf_496, rf_513, rf_518, sB_2, sB_3, sB_4, sB_5, sB_6, sB_7, sL_2, sL_3, sL_4, sL_5, sL_6, sL_7, not_true_eq_false, not_false_eq_true, false_implies, true_implies, true_and, and_true, eq_self, true_or, or_true, Nat.le_refl, Nat.zero_add, Nat.add_zero, ar hm' 590 2, hC.1.2.2.1]
    exact hΦ _ ⟨he, h1, h2⟩
  · intro a hk ih m' he h1 h2
    have hm' := eqG_cl he hm
    refine mGoOn (mOk (by decide)) rfl [8,23,72] 400 ?_
    show ((m' 590 2) ≤ (nI a) → Φ (.inl none) m' o ∧ 0 ≤ 0 ∧ 0 ≤ 0) ∧ (¬ (m' 590 2) ≤ (nI a) → mWB l g d k_X2_match Φ 0 0 23 [.ref 698, .ref 589, .ref 626, .ref 617, .int (nI a), .int (0 : Int32)] [] m' o 0 0)
    have hfa : ¬ nM A ≤ a := by omega
    simp (disch := omega) only [mReq_tt, nI_0a, nI_a0, nI_cl, mIn_ok, lit_add, lit_sub, add_lit, lit_le, le_lit, lit_lt, lt_lit, eq_lit, nI_add, nI_1, nI_leI, nI_ltI, nI_eq, mIn_lit, mIn_0, mIn_1, mIn_2, mIn_3, nI_l0, nI_p0, rf_22, rf_44, rf_60, rf_69, rf_391, rf_7, rf_37, rf_51, rf_230, rf_401, rf_413, rf_496, rf_513, rf_518, sB_2, sB_3, sB_4, sB_5, sB_6, sB_7, sL_2, sL_3, sL_4, sL_5, sL_6, sL_7, not_true_eq_false, not_false_eq_true, false_implies, true_implies, true_and, and_true, eq_self, true_or, or_true, Nat.le_refl, Nat.zero_add, Nat.add_zero, ar hm' 590 2, hC.1.2.2.1, hfa]
    replace ih : ∀ m', eqL lG m m' → m' 698 2 = nI (fo (stP A a) 24 (foP A a)).1 → (∀ i, i < (fo (stP A a) 24 (foP A a)).1 → m' 699 i = (fo (stP A a) 24 (foP A a)).2 i) → mWB l g d k_X2_match Φ 0 0 8 [.ref 698, .ref 589, .ref 626, .ref 617, .int (nI (a + 1)), mJ] [] m' o 0 0 := ih
    have hpr := prI_all A a (by omega)
    generalize foP A a = x0 at ih h1 h2 hpr
    refine mLoopZ (P := fun h => ∀ m', eqL lG m m' → m' 698 2 = nI (fo (stP A a) h x0).1 → (∀ i, i < (fo (stP A a) h x0).1 → m' 699 i = (fo (stP A a) h x0).2 i) → mWB l g d k_X2_match Φ 0 0 23 [.ref 698, .ref 589, .ref 626, .ref 617, .int (nI a), .int (nI h)] [] m' o 0 0) (N := 24) ?_ ?_ m' he h1 h2
    · intro m' he h1 h2
      refine mGoOn (mOk (by decide)) rfl [8,23] 400 ?_
      show ((24 : Int32) ≤ (nI 24) → mWB l g d k_X2_match Φ 0 0 8 [.ref 698, .ref 589, .ref 626, .ref 617, .int ((nI a) + (1 : Int32)), .int (nI 24)] [] m' o 0 0) ∧ (¬ (24 : Int32) ≤ (nI 24) → mCal l g d k_X2_match Φ 0 0 _ 37 k_X2_fits false [.ref 589, .ref 626, .ref 617, .int (nI a), .int (nI 24)] [] [.ref 698, .ref 589, .ref 626, .ref 617, .int (nI a), .int (nI 24)] m' o 0 0 1)
      simp (disch := omega) only [mReq_tt, nI_0a, nI_a0, nI_cl, mIn_ok, lit_add, lit_sub, add_lit, lit_le, le_lit, lit_lt, lt_lit, eq_lit, nI_add, nI_1, nI_leI, nI_ltI, nI_eq, mIn_lit, mIn_0, mIn_1, mIn_2, mIn_3, nI_l0, nI_p0, rf_22, rf_44, rf_60, rf_69, rf_391, rf_7, rf_37, rf_51, rf_230, rf_401, rf_413, rf_496, rf_513, rf_518, sB_2, sB_3, sB_4, sB_5, sB_6, sB_7, sL_2, sL_3, sL_4, sL_5, sL_6, sL_7, not_true_eq_false, not_false_eq_true, false_implies, true_implies, true_and, and_true, eq_self, true_or, or_true, Nat.le_refl, Nat.zero_add, Nat.add_zero]
      exact mWB_wk (ih m' he h1 h2) ⟨Or.inr rfl, Or.inr rfl, Or.inr rfl, Or.inr rfl, Or.inr rfl, Or.inl rfl, trivial⟩
    · intro h hh ih2 m' he h1 h2
      have hm' := eqG_cl he hm
      refine mGoOn (mOk (by decide)) rfl [8,23,72] 400 ?_
      show ((24 : Int32) ≤ (nI h) → mWB l g d k_X2_match Φ 0 0 8 [.ref 698, .ref 589, .ref 626, .ref 617, .int ((nI a) + (1 : Int32)), .int (nI h)] [] m' o 0 0) ∧ (¬ (24 : Int32) ≤ (nI h) → mCal l g d k_X2_match Φ 0 0 _ 37 k_X2_fits false [.ref 589, .ref 626, .ref 617, .int (nI a), .int (nI h)] [] [.ref 698, .ref 589, .ref 626, .ref 617, .int (nI a), .int (nI h)] m' o 0 0 1)
      have hfh : ¬ 24 ≤ h := by omega
      simp (disch := omega) only [mReq_tt, nI_0a, nI_a0, nI_cl, mIn_ok, lit_add, lit_sub, add_lit, lit_le, le_lit, lit_lt, lt_lit, eq_lit, nI_add, nI_1, nI_leI, nI_ltI, nI_eq, mIn_lit, mIn_0, mIn_1, mIn_2, mIn_3, nI_l0, nI_p0, rf_22, rf_44, rf_60, rf_69, rf_391, rf_7, rf_37, rf_51, rf_230, rf_401, rf_413, rf_496, rf_513, rf_518, sB_2, sB_3, sB_4, sB_5, sB_6, sB_7, sL_2, sL_3, sL_4, sL_5, sL_6, sL_7, not_true_eq_false, not_false_eq_true, false_implies, true_implies, true_and, and_true, eq_self, true_or, or_true, Nat.le_refl, Nat.zero_add, Nat.add_zero, hfh]
      refine nCi htr (x_fits hQ hm' (by omega) hk (nI h)) (by omega) ?_
      intro v m2 hv
      show (v = 0 → mWB l g d k_X2_match Φ 0 0 72 [.ref 698, .ref 589, .ref 626, .ref 617, .int (nI a), .int (nI h)] [] m2 o 0 0) ∧ (¬ v = 0 → mCal l g d k_X2_match Φ 0 0 _ 59 k_X11_put true [.ref 699, .int (m2 698 2), .int (((100 : Int32) * (nI a)) + (nI h))] [] [.ref 698, .ref 589, .ref 626, .ref 617, .int (nI a), .int (nI h)] m2 o 0 0 0)
      rw [hv.1]
      have e2 := eqL_trans he (eqC_G hv.2)
      have g1 : m2 698 2 = nI (fo (stP A a) h x0).1 := by rw [hv.2 698 (by decide)]; exact h1
      have g2 : ∀ i, i < (fo (stP A a) h x0).1 → m2 699 i = (fo (stP A a) h x0).2 i := fun i hi => by rw [hv.2 699 (by decide)]; exact h2 i hi
      have hpr2 := prI_fo A (a := a) (by omega) hpr h (by omega)
      have k72 : ∀ m3, eqL lG m m3 → m3 698 2 = nI (fo (stP A a) (h + 1) x0).1 → (∀ i, i < (fo (stP A a) (h + 1) x0).1 → m3 699 i = (fo (stP A a) (h + 1) x0).2 i) → mWB l g d k_X2_match Φ 0 0 72 [.ref 698, .ref 589, .ref 626, .ref 617, .int (nI a), .int (nI h)] [] m3 o 0 0 := by
        intro m3 q1 q2 q3
        refine mGoOn (mOk (by decide)) rfl [23] 400 ?_
        show mWB l g d k_X2_match Φ 0 0 23 [.ref 698, .ref 589, .ref 626, .ref 617, .int (nI a), .int ((nI h) + (1 : Int32))] [] m3 o 0 0
        rw [nI_1]
        exact ih2 m3 q1 q2 q3
      rw [fo_s] at k72
      generalize fo (stP A a) h x0 = x at g1 g2 hpr2 k72
      unfold stP at k72
      refine ⟨fun q => ?_, fun q => ?_⟩
      · rw [ifp_f (pI_0.mp q)] at k72
        exact k72 m2 e2 g1 g2
      · rw [ifp_t (pI_1.mp q)] at k72
        rw [g1, show (100 : Int32) * nI a + nI h = nI (100 * a + h) from by rw [show (100 : Int32) = nI 100 from rfl, pk_mul, nI_add]]
        have hle := hpr2.1
        refine fCv htr (x_put m2 (a := 699) (n := 144) (k := x.1) rfl rfl (by decide) (by omega) _) (by omega) ?_
        show (Value.ref 698).category = 1 ∧ (mWB l g d k_X2_match Φ 0 0 72 [.ref 698, .ref 589, .ref 626, .ref 617, .int (nI a), .int (nI h)] [] (mset (mset m2 699 x.1 (nI (100 * a + h))) 698 2 (((mset m2 699 x.1 (nI (100 * a + h))) 698 2) + (1 : Int32))) o 0 0)
        refine ⟨rfl, k72 _ (eqL_mset (eqL_mset e2 (by decide) _ _) (by decide) _ _) ?_ ?_⟩
        · rw [mset_eq, pk_us, mset_ne _ _ _ (by decide), g1, nI_1]
        · intro i hi
          show _ = upd x.2 x.1 (nI (100 * a + h)) i
          rw [mset_ne _ _ _ (by decide), mset_eq, upd_at, upd_at]
          by_cases z : i = x.1
          · rw [if_pos z, if_pos z]
          · rw [if_neg z, if_neg z]
            have hi : i < x.1 + 1 := hi
            exact g2 i (by omega)
end X9
