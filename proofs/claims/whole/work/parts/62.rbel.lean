set_option maxRecDepth 100000
/-! BELIEVE, in the reference -/
def rOL (A : Mm) (q : OcL) (r : Int64) (m2 : Mm) : Prop := m2 0 0 = q.1 ∧ (q.1 = 0 → r = q.2.2 ∧ cl m2 = A) ∧ (q.1 ≠ 0 → cl m2 = mset A 2 q.2.1 (A 2 q.2.1 + 1))
theorem rOL_k {A M : Mm} (h : Cn A M) {x y : Int64} (hx : y = x) : rOL A (0, 0, x) y M := ⟨h.2, fun _ => ⟨hx, h.1⟩, fun q => absurd rfl q⟩
theorem rOL_t {A M : Mm} (h : cl M = A) {t : Int32} {j : Nat} (ht : t ≠ 0) (hj : j < 2) {r : Int64} : rOL A (t, j, 0) r (mset (mset M 0 0 t) 2 j (M 2 j + 1)) := by
  have := rO_t h ht hj (r := 0)
  exact ⟨this.1, fun q => absurd q ht, this.2.2⟩
theorem Cn_584 {A m : Mm} (h : Cn A m) (i : Nat) (v : Int32) : Cn A (mset m 584 i v) := ⟨cl_mset h.1 v rfl, by rw [mset_ne _ _ _ (by decide)]; exact h.2⟩
section R22
variable {l : Launch} {g : mG} {d : Nat} {A : Mm}
theorem r_blg (o : Int64) {Φ : mR → Mm → Int64 → Prop} {n q p : Nat} (hn : n < 10) (hq : q < 17) (hp : p < 2) (hΦ : ∀ x m2, rOL A (0, 0, vBel n q p) x m2 → Φ (.inl (some (.long x))) m2 o) {m : Mm} (hm : Cn A m) : ∀ b, b < 2 ^ 62 → ∀ a, a < 2 ^ 62 → Nat.gcd a b = bg n q → mWB l g d k_X12_believe Φ 0 0 229 [.ref 0, .int (nI n), .int (nI q), .int (nI p), .long (lN (ab n q)), mJ, .long (lN (16 ^ n)), mJ, .long (lN a), mJ, .long (lN b), mJ, mJ, mJ] [] m o 0 0 := by
  intro b
  induction b using Nat.strongRecOn with
  | _ b IH =>
    intro hb a ha hg
    refine mGoOn (mOk (by decide)) rfl [229,254] 400 ?_
    show ((lg_cmp (lN b) (0 : Int64)) = 0 → mWB l g d k_X12_believe Φ 0 0 254 [.ref 0, .int (nI n), .int (nI q), .int (nI p), .long (lN (ab n q)), mJ, .long (lN (16 ^ n)), mJ, .long (lN a), mJ, .long (lN b), mJ, mJ, mJ] [] m o 0 0) ∧ (¬ (lg_cmp (lN b) (0 : Int64)) = 0 → ¬ (lN b) = 0 ∧ (mWB l g d k_X12_believe Φ 0 0 229 [.ref 0, .int (nI n), .int (nI q), .int (nI p), .long (lN (ab n q)), mJ, .long (lN (16 ^ n)), mJ, .long (lN b), mJ, .long (jlrem (lN a) (lN b)), mJ, .long (jlrem (lN a) (lN b)), mJ] [] m o 0 0))
    rw [lg_0, lN_0 hb]
    refine ⟨fun z => ?_, fun z => ⟨z, ?_⟩⟩
    · subst z
      rw [Nat.gcd_zero_right] at hg
      subst hg
      have hg0 : bg n q ≠ 0 := fun z => by
        have : 0 < Nat.gcd (16 ^ n) (ab n q) := Nat.gcd_pos_of_pos_left _ (Nat.pow_pos (by decide))
        unfold bg at z
        omega
      refine mGoOn (mOk (by decide)) rfl [] 400 ?_
      show (¬ (nI p) = 0 → ¬ (lN (bg n q)) = 0 ∧ (Φ (.inl (some (.long ((lN (16 ^ n)) / (lN (bg n q)))))) m o ∧ 0 ≤ 0 ∧ 0 ≤ 0)) ∧ ((nI p) = 0 → ¬ (lN (bg n q)) = 0 ∧ (Φ (.inl (some (.long ((lN (ab n q)) / (lN (bg n q)))))) m o ∧ 0 ≤ 0 ∧ 0 ≤ 0))
      unfold vBel at hΦ
      rw [lN_0 ha, lN_div (p16_lt n hn) ha, lN_div (ab_lt n hn q hq) ha]
      refine ⟨fun y => ⟨hg0, eR (hΦ _ _ (rOL_k hm ?_))⟩, fun y => ⟨hg0, eR (hΦ _ _ (rOL_k hm ?_))⟩⟩
      · rw [if_neg (fun e => y (by rw [e]; rfl))]
      · rw [show (0 : Int32) = nI 0 from rfl, nI_eq (by omega) (by decide)] at y
        rw [if_pos y]
    · rw [lN_rem ha hb]
      have hlt : a % b < b := Nat.mod_lt _ (by omega)
      refine mWB_wk (IH (a % b) hlt (by omega) b hb ?_) ⟨Or.inr rfl, Or.inr rfl, Or.inr rfl, Or.inr rfl, Or.inr rfl, Or.inr rfl, Or.inr rfl, Or.inr rfl, Or.inr rfl, Or.inr rfl, Or.inr rfl, Or.inr rfl, Or.inl rfl, Or.inl rfl, trivial⟩
      rw [← hg, Nat.gcd_comm b, ← Nat.gcd_rec, Nat.gcd_comm]
theorem r_bls (htr : l.stackTraces = false) (o : Int64) {Φ : mR → Mm → Int64 → Prop} {n q p : Nat} (hn : n < 10) (ho : n % 2 = 1) (hq : q < 17) (hp : p < 2) (hΦ : ∀ x m2, rOL A (0, 0, vBel n q p) x m2 → Φ (.inl (some (.long x))) m2 o) {m : Mm} (hm : Cn A m) (hr : ∀ j, j < 10 → m 584 j = bO n j) : mWB l g d k_X12_believe Φ 0 0 138 [.ref 0, .int (nI n), .int (nI q), .int (nI p), .int (nI (n + 1)), mJ, mJ, mJ, mJ, mJ, mJ, mJ, mJ, mJ] [] m o 0 0 := by
  refine mGoOn (mOk (by decide)) rfl [155] 400 ?_
  show ¬ (2 : Int32) = 0 ∧ (mWB l g d k_X12_believe Φ 0 0 155 [.ref 0, .int (nI n), .int (nI q), .int (nI p), .long (0 : Int64), mJ, .long (jlshl (1 : Int64) ((4 : Int32) * (nI n))), mJ, .int (((nI n) / (2 : Int32)) + (1 : Int32)), mJ, mJ, mJ, mJ, mJ] [] m o 0 0)
  refine ⟨by decide, ?_⟩
  rw [sh16 n hn, show nI n / 2 + 1 = nI (n / 2 + 1 + 0) from (show ∀ n, n < 10 → nI n / 2 + 1 = nI (n / 2 + 1 + 0) by decide +kernel) n hn]
  refine mLoopZ (P := fun i => mWB l g d k_X12_believe Φ 0 0 155 [.ref 0, .int (nI n), .int (nI q), .int (nI p), .long (sR n (nI q) i), mJ, .long (lN (16 ^ n)), mJ, .int (nI (n / 2 + 1 + i)), mJ, mJ, mJ, mJ, mJ] [] m o 0 0) (N := n - n / 2) ?_ ?_
  · refine mGoOn (mOk (by decide)) rfl [155,174,221] 400 ?_
    show ((nI n) < (nI (n / 2 + 1 + (n - n / 2))) → mWB l g d k_X12_believe Φ 0 0 221 [.ref 0, .int (nI n), .int (nI q), .int (nI p), .long (sR n (nI q) (n - n / 2)), mJ, .long (lN (16 ^ n)), mJ, .int (nI (n / 2 + 1 + (n - n / 2))), mJ, mJ, mJ, mJ, mJ] [] m o 0 0) ∧ (¬ (nI n) < (nI (n / 2 + 1 + (n - n / 2))) → mReq (mInB (nI (n / 2 + 1 + (n - n / 2))) 10) (mWB l g d k_X12_believe Φ 0 0 174 [.ref 0, .int (nI n), .int (nI q), .int (nI p), .long (sR n (nI q) (n - n / 2)), mJ, .long (lN (16 ^ n)), mJ, .int (nI (n / 2 + 1 + (n - n / 2))), .long ((m 584 ((nI (n / 2 + 1 + (n - n / 2))).toNatClampNeg)).toInt64), mJ, .int (0 : Int32), mJ, mJ] [] m o 0 0))
    refine ⟨fun _ => ?_, fun z => absurd (by rw [nI_ltI (by omega) (by omega)]; omega) z⟩
    rw [sR_ab n hn q hq]
    refine mGoOn (mOk (by decide)) rfl [229] 400 ?_
    show mWB l g d k_X12_believe Φ 0 0 229 [.ref 0, .int (nI n), .int (nI q), .int (nI p), .long (lN (ab n q)), mJ, .long (lN (16 ^ n)), mJ, .long (lN (16 ^ n)), mJ, .long (lN (ab n q)), mJ, mJ, mJ] [] m o 0 0
    exact r_blg o hn hq hp hΦ hm _ (ab_lt n hn q hq) _ (p16_lt n hn) rfl
  · intro i hi ih
    have hr1 : n / 2 + 1 + i < 10 := by omega
    have hr2 : n / 2 + 1 + i ≤ n := by omega
    refine mGoOn (mOk (by decide)) rfl [155,174,221] 400 ?_
    show ((nI n) < (nI (n / 2 + 1 + i)) → mWB l g d k_X12_believe Φ 0 0 221 [.ref 0, .int (nI n), .int (nI q), .int (nI p), .long (sR n (nI q) i), mJ, .long (lN (16 ^ n)), mJ, .int (nI (n / 2 + 1 + i)), mJ, mJ, mJ, mJ, mJ] [] m o 0 0) ∧ (¬ (nI n) < (nI (n / 2 + 1 + i)) → mReq (mInB (nI (n / 2 + 1 + i)) 10) (mWB l g d k_X12_believe Φ 0 0 174 [.ref 0, .int (nI n), .int (nI q), .int (nI p), .long (sR n (nI q) i), mJ, .long (lN (16 ^ n)), mJ, .int (nI (n / 2 + 1 + i)), .long ((m 584 ((nI (n / 2 + 1 + i)).toNatClampNeg)).toInt64), mJ, .int (0 : Int32), mJ, mJ] [] m o 0 0))
    rw [mIn_ok hr1 (by decide), nI_cl (by omega), hr _ hr1, bO_ch n hn _ hr1]
    refine ⟨fun z => absurd z (by rw [nI_ltI (by omega) (by omega)]; omega), fun _ => ?_⟩
    have ih2 : ∀ t, t = tR n (nI q) (n / 2 + 1 + i) (nI (ch n (n / 2 + 1 + i))) n → mWB l g d k_X12_believe Φ 0 0 155 [.ref 0, .int (nI n), .int (nI q), .int (nI p), .long (sR n (nI q) i + t), mJ, .long (lN (16 ^ n)), mJ, .int (nI (n / 2 + 1 + i + 1)), mJ, mJ, mJ, mJ, mJ] [] m o 0 0 := by
      rintro t rfl
      exact ih
    clear ih
    generalize n / 2 + 1 + i = r at hr1 hr2 ih2 ⊢
    generalize sR n (nI q) i = s at ih2 ⊢
    generalize nI (ch n r) = c at ih2 ⊢
    refine mLoopZ (P := fun k => mWB l g d k_X12_believe Φ 0 0 174 [.ref 0, .int (nI n), .int (nI q), .int (nI p), .long s, mJ, .long (lN (16 ^ n)), mJ, .int (nI r), .long (tR n (nI q) r c k), mJ, .int (nI k), mJ, mJ] [] m o 0 0) (N := n) ?_ ?_
    · refine mGoOn (mOk (by decide)) rfl [155,174,199] 400 ?_
      show ((nI n) ≤ (nI n) → mWB l g d k_X12_believe Φ 0 0 155 [.ref 0, .int (nI n), .int (nI q), .int (nI p), .long (s + (tR n (nI q) r c n)), mJ, .long (lN (16 ^ n)), mJ, .int ((nI r) + (1 : Int32)), .long (tR n (nI q) r c n), mJ, .int (nI n), mJ, mJ] [] m o 0 0) ∧ (¬ (nI n) ≤ (nI n) → ((nI r) ≤ (nI n) → mWB l g d k_X12_believe Φ 0 0 199 [.ref 0, .int (nI n), .int (nI q), .int (nI p), .long s, mJ, .long (lN (16 ^ n)), mJ, .int (nI r), .long (tR n (nI q) r c n), mJ, .int (nI n), mJ, mJ] [.long (((16 : Int32) - (nI q)).toInt64), .long (tR n (nI q) r c n)] m o 0 0) ∧ (¬ (nI r) ≤ (nI n) → mWB l g d k_X12_believe Φ 0 0 199 [.ref 0, .int (nI n), .int (nI q), .int (nI p), .long s, mJ, .long (lN (16 ^ n)), mJ, .int (nI r), .long (tR n (nI q) r c n), mJ, .int (nI n), mJ, mJ] [.long ((nI q).toInt64), .long (tR n (nI q) r c n)] m o 0 0))
      rw [nI_1]
      exact ⟨fun _ => mWB_wk (ih2 _ rfl) ⟨Or.inr rfl, Or.inr rfl, Or.inr rfl, Or.inr rfl, Or.inr rfl, Or.inr rfl, Or.inr rfl, Or.inr rfl, Or.inr rfl, Or.inl rfl, Or.inl rfl, Or.inl rfl, Or.inl rfl, Or.inl rfl, trivial⟩, fun z => absurd (Int32.le_refl _) z⟩
    · intro k hk ih3
      have ih3 : mWB l g d k_X12_believe Φ 0 0 174 [.ref 0, .int (nI n), .int (nI q), .int (nI p), .long s, mJ, .long (lN (16 ^ n)), mJ, .int (nI r), .long (tR n (nI q) r c k * (if r ≤ k then (16 - nI q).toInt64 else (nI q).toInt64)), mJ, .int (nI (k + 1)), mJ, mJ] [] m o 0 0 := ih3
      generalize tR n (nI q) r c k = t at ih3 ⊢
      refine mGoOn (mOk (by decide)) rfl [155,174,199] 400 ?_
      show ((nI n) ≤ (nI k) → mWB l g d k_X12_believe Φ 0 0 155 [.ref 0, .int (nI n), .int (nI q), .int (nI p), .long (s + t), mJ, .long (lN (16 ^ n)), mJ, .int ((nI r) + (1 : Int32)), .long t, mJ, .int (nI k), mJ, mJ] [] m o 0 0) ∧ (¬ (nI n) ≤ (nI k) → ((nI r) ≤ (nI k) → mWB l g d k_X12_believe Φ 0 0 199 [.ref 0, .int (nI n), .int (nI q), .int (nI p), .long s, mJ, .long (lN (16 ^ n)), mJ, .int (nI r), .long t, mJ, .int (nI k), mJ, mJ] [.long (((16 : Int32) - (nI q)).toInt64), .long t] m o 0 0) ∧ (¬ (nI r) ≤ (nI k) → mWB l g d k_X12_believe Φ 0 0 199 [.ref 0, .int (nI n), .int (nI q), .int (nI p), .long s, mJ, .long (lN (16 ^ n)), mJ, .int (nI r), .long t, mJ, .int (nI k), mJ, mJ] [.long ((nI q).toInt64), .long t] m o 0 0))
      have k199 : ∀ f, f = (if r ≤ k then (16 - nI q).toInt64 else (nI q).toInt64) → mWB l g d k_X12_believe Φ 0 0 199 [.ref 0, .int (nI n), .int (nI q), .int (nI p), .long s, mJ, .long (lN (16 ^ n)), mJ, .int (nI r), .long t, mJ, .int (nI k), mJ, mJ] [.long f, .long t] m o 0 0 := by
        rintro f rfl
        refine mGoOn (mOk (by decide)) rfl [155,174] 400 ?_
        show mWB l g d k_X12_believe Φ 0 0 174 [.ref 0, .int (nI n), .int (nI q), .int (nI p), .long s, mJ, .long (lN (16 ^ n)), mJ, .int (nI r), .long (t * (if r ≤ k then (16 - nI q).toInt64 else (nI q).toInt64)), mJ, .int ((nI k) + (1 : Int32)), mJ, mJ] [] m o 0 0
        rw [nI_1]
        exact ih3
      refine ⟨fun z => absurd z (by rw [nI_leI (by omega) (by omega)]; omega), fun _ => ⟨fun z => k199 _ ?_, fun z => k199 _ ?_⟩⟩
      · rw [nI_leI (by omega) (by omega)] at z; rw [if_pos z]
      · rw [nI_leI (by omega) (by omega)] at z; rw [if_neg z]
theorem r_blp (htr : l.stackTraces = false) (o : Int64) {Φ : mR → Mm → Int64 → Prop} {n q p : Nat} (hn : n < 10) (ho : n % 2 = 1) (hq : q < 17) (hp : p < 2) (hΦ : ∀ x m2, rOL A (0, 0, vBel n q p) x m2 → Φ (.inl (some (.long x))) m2 o) : ∀ m, Cn A m → (∀ j, j < 10 → m 584 j = bR0 j) → mWB l g d k_X12_believe Φ 0 0 92 [.ref 0, .int (nI n), .int (nI q), .int (nI p), .int (nI (0 + 1)), mJ, mJ, mJ, mJ, mJ, mJ, mJ, mJ, mJ] [] m o 0 0 := by
  refine mLoopZ (P := fun k => ∀ m, Cn A m → (∀ j, j < 10 → m 584 j = bO k j) → mWB l g d k_X12_believe Φ 0 0 92 [.ref 0, .int (nI n), .int (nI q), .int (nI p), .int (nI (k + 1)), mJ, mJ, mJ, mJ, mJ, mJ, mJ, mJ, mJ] [] m o 0 0) (N := n) ?_ ?_
  · intro m hm hr
    refine mGoOn (mOk (by decide)) rfl [92,102,138] 400 ?_
    show ((nI n) < (nI (n + 1)) → mWB l g d k_X12_believe Φ 0 0 138 [.ref 0, .int (nI n), .int (nI q), .int (nI p), .int (nI (n + 1)), mJ, mJ, mJ, mJ, mJ, mJ, mJ, mJ, mJ] [] m o 0 0) ∧ (¬ (nI n) < (nI (n + 1)) → mWB l g d k_X12_believe Φ 0 0 102 [.ref 0, .int (nI n), .int (nI q), .int (nI p), .int (nI (n + 1)), .int (nI (n + 1)), mJ, mJ, mJ, mJ, mJ, mJ, mJ, mJ] [] m o 0 0)
    exact ⟨fun _ => r_bls htr o hn ho hq hp hΦ hm hr, fun z => absurd (by rw [nI_ltI (by omega) (by omega)]; omega) z⟩
  · intro k hk ih m hm hr
    refine mGoOn (mOk (by decide)) rfl [92,102,138] 400 ?_
    show ((nI n) < (nI (k + 1)) → mWB l g d k_X12_believe Φ 0 0 138 [.ref 0, .int (nI n), .int (nI q), .int (nI p), .int (nI (k + 1)), mJ, mJ, mJ, mJ, mJ, mJ, mJ, mJ, mJ] [] m o 0 0) ∧ (¬ (nI n) < (nI (k + 1)) → mWB l g d k_X12_believe Φ 0 0 102 [.ref 0, .int (nI n), .int (nI q), .int (nI p), .int (nI (k + 1)), .int (nI (k + 1)), mJ, mJ, mJ, mJ, mJ, mJ, mJ, mJ] [] m o 0 0)
    refine ⟨fun z => absurd z (by rw [nI_ltI (by omega) (by omega)]; omega), fun _ => ?_⟩
    have key : ∀ c, c ≤ k + 1 → ∀ m, Cn A m → (∀ j, j < 10 → m 584 j = bI (bO k) (k + 1) c j) → mWB l g d k_X12_believe Φ 0 0 102 [.ref 0, .int (nI n), .int (nI q), .int (nI p), .int (nI (k + 1)), .int (nI (k + 1 - c)), mJ, mJ, mJ, mJ, mJ, mJ, mJ, mJ] [] m o 0 0 := by
      refine mLoop ?_ ?_
      · intro c hc ih2 m hm hr
        refine mGoOn (mOk (by decide)) rfl [92,102,138] 400 ?_
        show ((nI (k + 1 - c)) ≤ 0 → mWB l g d k_X12_believe Φ 0 0 92 [.ref 0, .int (nI n), .int (nI q), .int (nI p), .int ((nI (k + 1)) + (1 : Int32)), .int (nI (k + 1 - c)), mJ, mJ, mJ, mJ, mJ, mJ, mJ, mJ] [] m o 0 0) ∧ (¬ (nI (k + 1 - c)) ≤ 0 → (Value.int (nI (k + 1 - c))).category = 1 ∧ (Value.ref 584).category = 1 ∧ (mReq (mInB (nI (k + 1 - c)) 10) (mReq (mInB ((nI (k + 1 - c)) - (1 : Int32)) 10) (mReq (mInB (nI (k + 1 - c)) 10) (mWB l g d k_X12_believe Φ 0 0 102 [.ref 0, .int (nI n), .int (nI q), .int (nI p), .int (nI (k + 1)), .int ((nI (k + 1 - c)) + (-1 : Int32)), mJ, mJ, mJ, mJ, mJ, mJ, mJ, mJ] [] (mset m 584 ((nI (k + 1 - c)).toNatClampNeg) ((m 584 ((nI (k + 1 - c)).toNatClampNeg)) + (m 584 (((nI (k + 1 - c)) - (1 : Int32)).toNatClampNeg)))) o 0 0)))))
        rw [dn_lit, nI_dec1 (by omega), mIn_ok (show k + 1 - c < 10 by omega) (by decide), mIn_ok (show k + 1 - c - 1 < 10 by omega) (by decide), nI_cl (by omega), nI_cl (by omega)]
        refine ⟨fun z => absurd z (nI_nle (by omega) (by omega)), fun _ => ⟨rfl, rfl, ?_⟩⟩
        rw [show k + 1 - c - 1 = k + 1 - (c + 1) by omega]
        refine ih2 _ (Cn_584 hm _ _) (fun j hj => ?_)
        rw [mset_eq, hr _ (by omega), hr _ (by omega)]
        show _ = upd (bI (bO k) (k + 1) c) (k + 1 - c) (bI (bO k) (k + 1) c (k + 1 - c) + bI (bO k) (k + 1) c (k + 1 - c - 1)) j
        rw [upd_at, upd_at]
        by_cases e : j = k + 1 - c
        · rw [if_pos e, if_pos e, show k + 1 - c - 1 = k + 1 - (c + 1) by omega]
        · rw [if_neg e, if_neg e]; exact hr j hj
      · intro m hm hr
        rw [Nat.sub_self]
        refine mGoOn (mOk (by decide)) rfl [92,102,138] 400 ?_
        show ((nI 0) ≤ 0 → mWB l g d k_X12_believe Φ 0 0 92 [.ref 0, .int (nI n), .int (nI q), .int (nI p), .int ((nI (k + 1)) + (1 : Int32)), .int (nI 0), mJ, mJ, mJ, mJ, mJ, mJ, mJ, mJ] [] m o 0 0) ∧ (¬ (nI 0) ≤ 0 → (Value.int (nI 0)).category = 1 ∧ (Value.ref 584).category = 1 ∧ (mReq (mInB (nI 0) 10) (mReq (mInB ((nI 0) - (1 : Int32)) 10) (mReq (mInB (nI 0) 10) (mWB l g d k_X12_believe Φ 0 0 102 [.ref 0, .int (nI n), .int (nI q), .int (nI p), .int (nI (k + 1)), .int ((nI 0) + (-1 : Int32)), mJ, mJ, mJ, mJ, mJ, mJ, mJ, mJ] [] (mset m 584 ((nI 0).toNatClampNeg) ((m 584 ((nI 0).toNatClampNeg)) + (m 584 (((nI 0) - (1 : Int32)).toNatClampNeg)))) o 0 0)))))
        rw [nI_1]
        exact ⟨fun _ => mWB_wk (ih m hm hr) ⟨Or.inr rfl, Or.inr rfl, Or.inr rfl, Or.inr rfl, Or.inr rfl, Or.inl rfl, Or.inl rfl, Or.inl rfl, Or.inl rfl, Or.inl rfl, Or.inl rfl, Or.inl rfl, Or.inl rfl, Or.inl rfl, trivial⟩, fun z => absurd (by decide) z⟩
    exact key 0 (Nat.zero_le _) m hm hr
theorem r_believe {m : Mm} (hm : cl m = A) (hd : 2 ≤ d) (n q p : Int32) : mHl l g d k_X12_believe [.ref 0, .int n, .int q, .int p] m (rOL A (qBel n q p)) := by
  refine nBl 10 rfl rfl rfl (by decide) rfl (fun htr o Φ hΦ => mGoOn (mOk (by decide)) rfl [41,45] 400 ?_)
  show mCal l g d k_X12_believe Φ 0 0 _ 10 k_X12_in false [.int n, .int (1 : Int32), .int (9 : Int32)] [.ref 0] [.ref 0, .int n, .int q, .int p, mJ, mJ, mJ, mJ, mJ, mJ, mJ, mJ, mJ, mJ] (mset m 0 0 (0 : Int32)) o 0 0 1
  have hC := Cn_0 hm
  generalize mset m 0 0 (0 : Int32) = M at hC ⊢
  clear hm
  unfold qBel at hΦ
  have k41 : ¬ isBl n q p → mWB l g d k_X12_believe Φ 0 0 41 [.ref 0, .int n, .int q, .int p, mJ, mJ, mJ, mJ, mJ, mJ, mJ, mJ, mJ, mJ] [.ref 0] M o 0 0 := by
    intro hb
    rw [ifp_f hb] at hΦ
    refine mGoOn (mOk (by decide)) rfl [59] 400 ?_
    show True ∧ mCal l g d k_X12_believe Φ 0 0 _ 48 k_X12_bad false [.ref 0, .int (1 : Int32), .int (1 : Int32), .int (1 : Int32)] [] [.ref 0, .int n, .int q, .int p, mJ, mJ, mJ, mJ, mJ, mJ, mJ, mJ, mJ, mJ] M o 0 0 1
    refine ⟨trivial, fCi htr (r_bad1 hC.2 (t := 1) (j := 1) (by decide) (by decide)) (by omega) ?_⟩
    show ((1 : Int32) = 0 → mWB l g d k_X12_believe Φ 0 0 59 [.ref 0, .int n, .int q, .int p, .int (0 : Int32), mJ, mJ, mJ, mJ, mJ, mJ, mJ, mJ, mJ] [] (mset (mset M 0 0 (1 : Int32)) 2 1 (M 2 1 + 1)) o 0 0) ∧ (¬ (1 : Int32) = 0 → Φ (.inl (some (.long (0 : Int64)))) (mset (mset M 0 0 (1 : Int32)) 2 1 (M 2 1 + 1)) o ∧ 0 ≤ 0 ∧ 0 ≤ 0)
    exact br1b (eR (hΦ _ _ (rOL_t hC.1 (by decide) (by decide))))
  have k45 : isBl n q p → mWB l g d k_X12_believe Φ 0 0 45 [.ref 0, .int n, .int q, .int p, mJ, mJ, mJ, mJ, mJ, mJ, mJ, mJ, mJ, mJ] [.ref 0] M o 0 0 := by
    intro hb
    rw [ifp_t hb] at hΦ
    obtain ⟨n, hn, ho, rfl⟩ := bl_n hb
    obtain ⟨q, hq, rfl⟩ := hb.2.2.1
    obtain ⟨p, hp, rfl⟩ := hb.2.2.2
    rw [nI_cl (by omega), nI_cl (by omega), nI_cl (by omega)] at hΦ
    refine mGoOn (mOk (by decide)) rfl [59] 400 ?_
    show True ∧ mCal l g d k_X12_believe Φ 0 0 _ 48 k_X12_bad false [.ref 0, .int (0 : Int32), .int (1 : Int32), .int (1 : Int32)] [] [.ref 0, .int (nI n), .int (nI q), .int (nI p), mJ, mJ, mJ, mJ, mJ, mJ, mJ, mJ, mJ, mJ] M o 0 0 1
    refine ⟨trivial, fCi htr (r_bad0 hC.2 _ _) (by omega) ?_⟩
    show ((0 : Int32) = 0 → mWB l g d k_X12_believe Φ 0 0 59 [.ref 0, .int (nI n), .int (nI q), .int (nI p), .int (0 : Int32), mJ, mJ, mJ, mJ, mJ, mJ, mJ, mJ, mJ] [] M o 0 0) ∧ (¬ (0 : Int32) = 0 → Φ (.inl (some (.long (0 : Int64)))) M o ∧ 0 ≤ 0 ∧ 0 ≤ 0)
    refine br0b ?_
    refine mLoopZ (P := fun i => ∀ m, Cn A m → (∀ j, j < i → m 584 j = bR0 j) → mWB l g d k_X12_believe Φ 0 0 59 [.ref 0, .int (nI n), .int (nI q), .int (nI p), .int (nI i), mJ, mJ, mJ, mJ, mJ, mJ, mJ, mJ, mJ] [] m o 0 0) (N := 10) ?_ ?_ M hC (fun j hj => absurd hj (by omega))
    · intro m hm hr
      refine mGoOn (mOk (by decide)) rfl [59,92,82] 400 ?_
      show ((10 : Int32) ≤ (nI 10) → mWB l g d k_X12_believe Φ 0 0 92 [.ref 0, .int (nI n), .int (nI q), .int (nI p), .int (1 : Int32), mJ, mJ, mJ, mJ, mJ, mJ, mJ, mJ, mJ] [] m o 0 0) ∧ (¬ (10 : Int32) ≤ (nI 10) → (¬ (nI 10) = 0 → mWB l g d k_X12_believe Φ 0 0 82 [.ref 0, .int (nI n), .int (nI q), .int (nI p), .int (nI 10), mJ, mJ, mJ, mJ, mJ, mJ, mJ, mJ, mJ] [.int (0 : Int32), .int (nI 10), .ref 584] m o 0 0) ∧ ((nI 10) = 0 → mWB l g d k_X12_believe Φ 0 0 82 [.ref 0, .int (nI n), .int (nI q), .int (nI p), .int (nI 10), mJ, mJ, mJ, mJ, mJ, mJ, mJ, mJ, mJ] [.int (1 : Int32), .int (nI 10), .ref 584] m o 0 0))
      exact ⟨fun _ => r_blp htr o hn ho hq hp hΦ m hm hr, fun z => absurd (by decide) z⟩
    · intro i hi ih m hm hr
      refine mGoOn (mOk (by decide)) rfl [59,92,82] 400 ?_
      show ((10 : Int32) ≤ (nI i) → mWB l g d k_X12_believe Φ 0 0 92 [.ref 0, .int (nI n), .int (nI q), .int (nI p), .int (1 : Int32), mJ, mJ, mJ, mJ, mJ, mJ, mJ, mJ, mJ] [] m o 0 0) ∧ (¬ (10 : Int32) ≤ (nI i) → (¬ (nI i) = 0 → mWB l g d k_X12_believe Φ 0 0 82 [.ref 0, .int (nI n), .int (nI q), .int (nI p), .int (nI i), mJ, mJ, mJ, mJ, mJ, mJ, mJ, mJ, mJ] [.int (0 : Int32), .int (nI i), .ref 584] m o 0 0) ∧ ((nI i) = 0 → mWB l g d k_X12_believe Φ 0 0 82 [.ref 0, .int (nI n), .int (nI q), .int (nI p), .int (nI i), mJ, mJ, mJ, mJ, mJ, mJ, mJ, mJ, mJ] [.int (1 : Int32), .int (nI i), .ref 584] m o 0 0))
      have k82 : ∀ v, v = bR0 i → mWB l g d k_X12_believe Φ 0 0 82 [.ref 0, .int (nI n), .int (nI q), .int (nI p), .int (nI i), mJ, mJ, mJ, mJ, mJ, mJ, mJ, mJ, mJ] [.int v, .int (nI i), .ref 584] m o 0 0 := by
        rintro v rfl
        refine mGoOn (mOk (by decide)) rfl [59] 400 ?_
        show mReq (mInB (nI i) 10) (mWB l g d k_X12_believe Φ 0 0 59 [.ref 0, .int (nI n), .int (nI q), .int (nI p), .int ((nI i) + (1 : Int32)), mJ, mJ, mJ, mJ, mJ, mJ, mJ, mJ, mJ] [] (mset m 584 ((nI i).toNatClampNeg) (bR0 i)) o 0 0)
        rw [mIn_ok hi (by decide), nI_cl (by omega), nI_1]
        refine ih _ (Cn_584 hm _ _) (fun j hj => ?_)
        rw [mset_eq, upd_at]
        by_cases e : j = i
        · rw [if_pos e, e]
        · rw [if_neg e]; exact hr j (by omega)
      refine ⟨fun z => absurd z (by rw [show (10 : Int32) = nI 10 from rfl, nI_leI (by decide) (by omega)]; omega), fun _ => ⟨fun z => k82 _ ?_, fun z => k82 _ ?_⟩⟩
      · unfold bR0; rw [if_neg (fun e => z (by rw [e]; rfl))]
      · rw [show (0 : Int32) = nI 0 from rfl, nI_eq (by omega) (by decide)] at z
        unfold bR0; rw [if_pos z]
  refine fCi htr (q_in _ _ _ _) (by omega) ?_
  show ((pI (1 ≤ n ∧ n ≤ 9)) = 0 → mWB l g d k_X12_believe Φ 0 0 41 [.ref 0, .int n, .int q, .int p, mJ, mJ, mJ, mJ, mJ, mJ, mJ, mJ, mJ, mJ] [.ref 0] M o 0 0) ∧ (¬ (pI (1 ≤ n ∧ n ≤ 9)) = 0 → ¬ (2 : Int32) = 0 ∧ (((jrem n (2 : Int32)) = 0 → mWB l g d k_X12_believe Φ 0 0 41 [.ref 0, .int n, .int q, .int p, mJ, mJ, mJ, mJ, mJ, mJ, mJ, mJ, mJ, mJ] [.ref 0] M o 0 0) ∧ (¬ (jrem n (2 : Int32)) = 0 → mCal l g d k_X12_believe Φ 0 0 _ 26 k_X12_in false [.int q, .int (0 : Int32), .int (16 : Int32)] [.ref 0] [.ref 0, .int n, .int q, .int p, mJ, mJ, mJ, mJ, mJ, mJ, mJ, mJ, mJ, mJ] M o 0 0 1)))
  refine ⟨fun z => k41 (fun y => pI_0.mp z y.1), fun z => ⟨by decide, fun z2 => k41 (fun y => y.2.1 z2), fun z2 => ?_⟩⟩
  refine fCi htr (r_inB (n := 17) (by decide) (by decide)) (by omega) ?_
  show ((pI (In q 17)) = 0 → mWB l g d k_X12_believe Φ 0 0 41 [.ref 0, .int n, .int q, .int p, mJ, mJ, mJ, mJ, mJ, mJ, mJ, mJ, mJ, mJ] [.ref 0] M o 0 0) ∧ (¬ (pI (In q 17)) = 0 → mCal l g d k_X12_believe Φ 0 0 _ 35 k_X12_in false [.int p, .int (0 : Int32), .int (1 : Int32)] [.ref 0] [.ref 0, .int n, .int q, .int p, mJ, mJ, mJ, mJ, mJ, mJ, mJ, mJ, mJ, mJ] M o 0 0 1)
  refine ⟨fun z3 => k41 (fun y => pI_0.mp z3 y.2.2.1), fun z3 => fCi htr (r_inB (n := 2) (by decide) (by decide)) (by omega) ?_⟩
  show (¬ (pI (In p 2)) = 0 → mWB l g d k_X12_believe Φ 0 0 45 [.ref 0, .int n, .int q, .int p, mJ, mJ, mJ, mJ, mJ, mJ, mJ, mJ, mJ, mJ] [.ref 0] M o 0 0) ∧ ((pI (In p 2)) = 0 → mWB l g d k_X12_believe Φ 0 0 41 [.ref 0, .int n, .int q, .int p, mJ, mJ, mJ, mJ, mJ, mJ, mJ, mJ, mJ, mJ] [.ref 0] M o 0 0)
  exact ⟨fun z4 => k45 ⟨pI_1.mp z, z2, pI_1.mp z3, pI_1.mp z4⟩, fun z4 => k41 (fun y => pI_0.mp z4 y.2.2.2)⟩
end R22
