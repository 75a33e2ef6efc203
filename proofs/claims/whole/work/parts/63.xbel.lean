set_option maxRecDepth 100000
/-! BELIEVE, in the class -/
def chC (n r : Nat) (k : Nat) : Int64 := fo (fun j w => w * ((nI n - nI r) + nI (j + 1)).toInt64 / (nI (j + 1)).toInt64) k 1
def pwC (b : Int32) (k : Nat) : Int64 := fo (fun _ w => w * b.toInt64) k 1
def sC (n q : Nat) (K : Nat) : Int64 := fo (fun i s => s + chC n (n / 2 + 1 + i) (n / 2 + 1 + i) * pwC (nI q) (n / 2 + 1 + i) * pwC (16 - nI q) (n - (n / 2 + 1 + i))) K 0
theorem sC_ab : ∀ n, n < 10 → ∀ q, q < 17 → sC n q (n - n / 2) = lN (ab n q) := by decide +kernel
theorem pw16 : ∀ n, n < 10 → pwC 16 n = lN (16 ^ n) := by decide +kernel
theorem rem_01 {n : Int32} (h : 1 ≤ n ∧ n ≤ 9) : jrem n 2 = 1 ↔ ¬ jrem n 2 = 0 := by
  obtain ⟨k, h1, h2, rfl⟩ := in_1 h (N := 9) rfl (by decide)
  exact (show ∀ k, k < 10 → (jrem (nI k) 2 = 1 ↔ ¬ jrem (nI k) 2 = 0) by unfold jrem; decide +kernel) k (by omega)
def xOkL (A : Mm) (q : OcL) : mR → Mm → Prop := fun r m2 => match r with
  | .inl (some (.long v)) => q.1 = 0 ∧ v = q.2.2 ∧ cl m2 = A
  | .inr x => q.1 ≠ 0 ∧ x = 1 - q.2.1 ∧ cl m2 = mset A 586 (15 + q.2.1) (A 586 (15 + q.2.1) + 1)
  | _ => False
def xOL (A : Mm) (q : OcL) (o : Int64) : mR → Mm → Int64 → Prop := mLX (fun v m2 o2 => xOkL A q (.inl (some (.long v))) m2 ∧ o2 = o) (fun x m2 o2 => xOkL A q (.inr x) m2 ∧ o2 = o)
def xSL (l : Launch) (g : mG) (d k : Nat) (As : List Value) (m : Mm) (A : Mm) (q : OcL) : Prop := l.stackTraces = false → ∀ o, mSat l g d k As m o (xOL A q o) 4 24
theorem nBxL {l : Launch} {g : mG} {d k : Nat} {As : List Value} {m : Mm} {A : Mm} {q : OcL} (r : Nat) (hc : m1c As = true) (hn : mNl k = As.length + r) (hH : mHd k = []) (hpn : plainName (mY k).cls = true) (hoc : mCn (mOc k) = (mY k).cls)
    (h : l.stackTraces = false → ∀ (o : Int64) (Φ : mR → Mm → Int64 → Prop), (∀ r m2, xOkL A q r m2 → Φ r m2 o) → mWB l g d k Φ 4 24 0 (As ++ List.replicate r mJ) [] m o 0 0) : xSL l g d k As m A q := fun htr o => mBody htr r hc hn hH hpn hoc (h htr o _ (fun r m2 q => by
      rcases r with (_ | v) | x
      · exact q.elim
      · cases v <;> first | exact q.elim | exact ⟨q, rfl⟩
      · exact ⟨q, rfl⟩))
theorem xkL_v {A M : Mm} (h : cl M = A) {x v : Int64} (hv : v = x) : xOkL A (0, 0, x) (.inl (some (.long v))) M := ⟨rfl, hv, h⟩
theorem xkL_a {A M : Mm} (h : cl M = A) {t : Int32} (ht : t ≠ 0) : xOkL A (t, 1, 0) (.inr 0) (mset M 586 16 (M 586 16 + 1)) := ⟨ht, rfl, by rw [clA h 16 (by omega)]; exact cl_set h _ rfl⟩
section X17
variable {l : Launch} {g : mG} {d : Nat} {A : Mm}
theorem x_choices (m : Mm) {n r : Nat} (hn : n < 100) (hr : r < 100) : mHl l g d k_X11_choices [.int (nI n), .int (nI r)] m (fun x m2 => x = chC n r r ∧ m2 = m) := by
  refine nBl 3 rfl rfl rfl (by decide) rfl (fun htr o Φ hΦ => mGoOn (mOk (by decide)) rfl [5] 400 ?_)
  show mWB l g d k_X11_choices Φ 0 0 5 [.int (nI n), .int (nI r), .long (1 : Int64), mJ, .int (1 : Int32)] [] m o 0 0
  refine mLoopZ (P := fun k => mWB l g d k_X11_choices Φ 0 0 5 [.int (nI n), .int (nI r), .long (chC n r k), mJ, .int (nI (k + 1))] [] m o 0 0) (N := r) ?_ ?_
  · refine mGoOn (mOk (by decide)) rfl [5] 400 ?_
    show ((nI r) < (nI (r + 1)) → Φ (.inl (some (.long (chC n r r)))) m o ∧ 0 ≤ 0 ∧ 0 ≤ 0) ∧ (¬ (nI r) < (nI (r + 1)) → ¬ ((nI (r + 1)).toInt64) = 0 ∧ (mWB l g d k_X11_choices Φ 0 0 5 [.int (nI n), .int (nI r), .long (((chC n r r) * ((((nI n) - (nI r)) + (nI (r + 1))).toInt64)) / ((nI (r + 1)).toInt64)), mJ, .int ((nI (r + 1)) + (1 : Int32))] [] m o 0 0))
    exact ⟨fun _ => eR (hΦ _ _ ⟨rfl, rfl⟩), fun z => absurd (by rw [nI_ltI (by omega) (by omega)]; omega) z⟩
  · intro k hk ih
    have ih : mWB l g d k_X11_choices Φ 0 0 5 [.int (nI n), .int (nI r), .long (chC n r k * ((nI n - nI r) + nI (k + 1)).toInt64 / (nI (k + 1)).toInt64), mJ, .int (nI (k + 1 + 1))] [] m o 0 0 := ih
    refine mGoOn (mOk (by decide)) rfl [5] 400 ?_
    show ((nI r) < (nI (k + 1)) → Φ (.inl (some (.long (chC n r k)))) m o ∧ 0 ≤ 0 ∧ 0 ≤ 0) ∧ (¬ (nI r) < (nI (k + 1)) → ¬ ((nI (k + 1)).toInt64) = 0 ∧ (mWB l g d k_X11_choices Φ 0 0 5 [.int (nI n), .int (nI r), .long (((chC n r k) * ((((nI n) - (nI r)) + (nI (k + 1))).toInt64)) / ((nI (k + 1)).toInt64)), mJ, .int ((nI (k + 1)) + (1 : Int32))] [] m o 0 0))
    refine ⟨fun z => absurd z (by rw [nI_ltI (by omega) (by omega)]; omega), fun _ => ⟨?_, ?_⟩⟩
    · exact (show ∀ k, k < 100 → ¬ (nI (k + 1)).toInt64 = 0 by decide +kernel) k (by omega)
    · rw [nI_1]; exact ih
theorem x_power (m : Mm) (b : Int32) {r : Nat} (hr : r < 100) : mHl l g d k_X11_power [.int b, .int (nI r)] m (fun x m2 => x = pwC b r ∧ m2 = m) := by
  refine nBl 3 rfl rfl rfl (by decide) rfl (fun htr o Φ hΦ => mGoOn (mOk (by decide)) rfl [5] 400 ?_)
  show mWB l g d k_X11_power Φ 0 0 5 [.int b, .int (nI r), .long (1 : Int64), mJ, .int (0 : Int32)] [] m o 0 0
  refine mLoopZ (P := fun k => mWB l g d k_X11_power Φ 0 0 5 [.int b, .int (nI r), .long (pwC b k), mJ, .int (nI k)] [] m o 0 0) (N := r) ?_ ?_
  · refine mGoOn (mOk (by decide)) rfl [5] 400 ?_
    show ((nI r) ≤ (nI r) → Φ (.inl (some (.long (pwC b r)))) m o ∧ 0 ≤ 0 ∧ 0 ≤ 0) ∧ (¬ (nI r) ≤ (nI r) → mWB l g d k_X11_power Φ 0 0 5 [.int b, .int (nI r), .long ((pwC b r) * b.toInt64), mJ, .int ((nI r) + (1 : Int32))] [] m o 0 0)
    exact ⟨fun _ => eR (hΦ _ _ ⟨rfl, rfl⟩), fun z => absurd (Int32.le_refl _) z⟩
  · intro k hk ih
    have ih : mWB l g d k_X11_power Φ 0 0 5 [.int b, .int (nI r), .long (pwC b k * b.toInt64), mJ, .int (nI (k + 1))] [] m o 0 0 := ih
    refine mGoOn (mOk (by decide)) rfl [5] 400 ?_
    show ((nI r) ≤ (nI k) → Φ (.inl (some (.long (pwC b k)))) m o ∧ 0 ≤ 0 ∧ 0 ≤ 0) ∧ (¬ (nI r) ≤ (nI k) → mWB l g d k_X11_power Φ 0 0 5 [.int b, .int (nI r), .long ((pwC b k) * b.toInt64), mJ, .int ((nI k) + (1 : Int32))] [] m o 0 0)
    rw [nI_1]
    exact ⟨fun z => absurd z (by rw [nI_leI (by omega) (by omega)]; omega), fun _ => ih⟩
theorem x_blh (o : Int64) {Φ : mR → Mm → Int64 → Prop} {n q p : Nat} (hn : n < 10) (hp : p < 2) {X Y : Nat} (hΦ : ∀ r m2, xOkL A (0, 0, if p = 0 then lN X else lN Y) r m2 → Φ r m2 o) {m : Mm} (hm : cl m = A) : ∀ c h s be, h + c = 4 * n → s < 2 ^ 62 → be < 2 ^ 62 → hvN c (s, be) = (X, Y) → mWB l g d k_X11_believe Φ 4 24 107 [.ref 586, .int (nI n), .int (nI q), .int (nI p), .long (lN s), mJ, .long (lN be), mJ, .int (nI h)] [] m o 1 6 := by
  intro c
  have e4n : ∀ n, n < 10 → (4 : Int32) * nI n = nI (4 * n) := by decide +kernel
  have k159 : ∀ h, mWB l g d k_X11_believe Φ 4 24 159 [.ref 586, .int (nI n), .int (nI q), .int (nI p), .long (lN X), mJ, .long (lN Y), mJ, .int (nI h)] [] m o 1 6 := by
    intro h
    refine mGoOn (mOk (by decide)) rfl [] 400 ?_
    show (¬ (nI p) = 0 → Φ (.inl (some (.long (lN Y)))) m o ∧ 1 ≤ 4 ∧ 6 ≤ 24) ∧ ((nI p) = 0 → Φ (.inl (some (.long (lN X)))) m o ∧ 1 ≤ 4 ∧ 6 ≤ 24)
    refine ⟨fun y => e4 (hΦ _ _ (xkL_v hm ?_)), fun y => e4 (hΦ _ _ (xkL_v hm ?_))⟩
    · rw [if_neg (fun e => y (by rw [e]; rfl))]
    · rw [show (0 : Int32) = nI 0 from rfl, nI_eq (by omega) (by decide)] at y
      rw [if_pos y]
  induction c with
  | zero =>
    intro h s be hc hs hb hv
    obtain ⟨rfl, rfl⟩ : s = X ∧ be = Y := ⟨congrArg Prod.fst hv, congrArg Prod.snd hv⟩
    refine mGoOn (mOk (by decide)) rfl [107,159] 400 ?_
    show (((4 : Int32) * (nI n)) ≤ (nI h) → mWB l g d k_X11_believe Φ 4 24 159 [.ref 586, .int (nI n), .int (nI q), .int (nI p), .long (lN s), mJ, .long (lN be), mJ, .int (nI h)] [] m o 1 6) ∧ (¬ ((4 : Int32) * (nI n)) ≤ (nI h) → ¬ (2 : Int64) = 0 ∧ ((¬ (lg_cmp (jlrem (lN s) (2 : Int64)) (0 : Int64)) = 0 → mWB l g d k_X11_believe Φ 4 24 159 [.ref 586, .int (nI n), .int (nI q), .int (nI p), .long (lN s), mJ, .long (lN be), mJ, .int (nI h)] [] m o 1 6) ∧ ((lg_cmp (jlrem (lN s) (2 : Int64)) (0 : Int64)) = 0 → ¬ (2 : Int64) = 0 ∧ ((¬ (lg_cmp (jlrem (lN be) (2 : Int64)) (0 : Int64)) = 0 → mWB l g d k_X11_believe Φ 4 24 159 [.ref 586, .int (nI n), .int (nI q), .int (nI p), .long (lN s), mJ, .long (lN be), mJ, .int (nI h)] [] m o 1 6) ∧ ((lg_cmp (jlrem (lN be) (2 : Int64)) (0 : Int64)) = 0 → ¬ (2 : Int64) = 0 ∧ (¬ (2 : Int64) = 0 ∧ (mWB l g d k_X11_believe Φ 4 24 107 [.ref 586, .int (nI n), .int (nI q), .int (nI p), .long ((lN s) / (2 : Int64)), mJ, .long ((lN be) / (2 : Int64)), mJ, .int ((nI h) + (1 : Int32))] [] m o 1 6)))))))
    rw [e4n n hn]
    exact ⟨fun _ => k159 h, fun z => absurd (by rw [nI_leI (by omega) (by omega)]; omega) z⟩
  | succ c IH =>
    intro h s be hc hs hb hv
    refine mGoOn (mOk (by decide)) rfl [107,159] 400 ?_
    show (((4 : Int32) * (nI n)) ≤ (nI h) → mWB l g d k_X11_believe Φ 4 24 159 [.ref 586, .int (nI n), .int (nI q), .int (nI p), .long (lN s), mJ, .long (lN be), mJ, .int (nI h)] [] m o 1 6) ∧ (¬ ((4 : Int32) * (nI n)) ≤ (nI h) → ¬ (2 : Int64) = 0 ∧ ((¬ (lg_cmp (jlrem (lN s) (2 : Int64)) (0 : Int64)) = 0 → mWB l g d k_X11_believe Φ 4 24 159 [.ref 586, .int (nI n), .int (nI q), .int (nI p), .long (lN s), mJ, .long (lN be), mJ, .int (nI h)] [] m o 1 6) ∧ ((lg_cmp (jlrem (lN s) (2 : Int64)) (0 : Int64)) = 0 → ¬ (2 : Int64) = 0 ∧ ((¬ (lg_cmp (jlrem (lN be) (2 : Int64)) (0 : Int64)) = 0 → mWB l g d k_X11_believe Φ 4 24 159 [.ref 586, .int (nI n), .int (nI q), .int (nI p), .long (lN s), mJ, .long (lN be), mJ, .int (nI h)] [] m o 1 6) ∧ ((lg_cmp (jlrem (lN be) (2 : Int64)) (0 : Int64)) = 0 → ¬ (2 : Int64) = 0 ∧ (¬ (2 : Int64) = 0 ∧ (mWB l g d k_X11_believe Φ 4 24 107 [.ref 586, .int (nI n), .int (nI q), .int (nI p), .long ((lN s) / (2 : Int64)), mJ, .long ((lN be) / (2 : Int64)), mJ, .int ((nI h) + (1 : Int32))] [] m o 1 6)))))))
    have h2 : (2 : Int64) = lN 2 := rfl
    rw [e4n n hn, lg_0, lg_0, h2, lN_rem hs (by decide), lN_rem hb (by decide), lN_0 (a := s % 2) (by omega), lN_0 (a := be % 2) (by omega), lN_div hs (by decide), lN_div hb (by decide), nI_1]
    have n2 : ¬ lN 2 = 0 := by rw [lN_0 (by decide)]; decide
    have stop : ¬ (s % 2 = 0 ∧ be % 2 = 0) → mWB l g d k_X11_believe Φ 4 24 159 [.ref 586, .int (nI n), .int (nI q), .int (nI p), .long (lN s), mJ, .long (lN be), mJ, .int (nI h)] [] m o 1 6 := by
      intro z
      have e : hvN (c + 1) (s, be) = (s, be) := if_neg z
      rw [e] at hv
      obtain ⟨rfl, rfl⟩ : s = X ∧ be = Y := ⟨congrArg Prod.fst hv, congrArg Prod.snd hv⟩
      exact k159 h
    refine ⟨fun z => absurd z (by rw [nI_leI (by omega) (by omega)]; omega), fun _ => ⟨n2, fun z => stop (fun y => z y.1), fun z => ⟨n2, fun z2 => stop (fun y => z2 y.2), fun z2 => ⟨n2, n2, ?_⟩⟩⟩⟩
    refine IH (h + 1) (s / 2) (be / 2) (by omega) (by omega) (by omega) ?_
    have e : hvN (c + 1) (s, be) = hvN c (s / 2, be / 2) := if_pos ⟨z, z2⟩
    rw [← e]; exact hv
theorem x_believe {m : Mm} (hm : cl m = A) (hd : 8 ≤ d) (n q p : Int32) : xSL l g d k_X11_believe [.ref 586, .int n, .int q, .int p] m A (qBel n q p) := by
  refine nBxL 5 rfl rfl rfl (by decide) rfl (fun htr o Φ hΦ => mGoOn (mOk (by decide)) rfl [40,41] 400 ?_)
  show mCal l g d k_X11_believe Φ 4 24 _ 5 k_X11_within false [.int n, .int (1 : Int32), .int (9 : Int32)] [.ref 586] [.ref 586, .int n, .int q, .int p, mJ, mJ, mJ, mJ, mJ] m o 0 0 1
  unfold qBel at hΦ
  have k41 : ∀ v, v = pI (isBl n q p) → mWB l g d k_X11_believe Φ 4 24 41 [.ref 586, .int n, .int q, .int p, mJ, mJ, mJ, mJ, mJ] [.int v, .ref 586] m o 0 0 := by
    rintro v rfl
    refine mGoOn (mOk (by decide)) rfl [54,96,107,159] 400 ?_
    show True ∧ mCal l g d k_X11_believe Φ 4 24 _ 41 k_X11_needArgument false [.ref 586, .int (pI (isBl n q p))] [] [.ref 586, .int n, .int q, .int p, mJ, mJ, mJ, mJ, mJ] m o 0 0 0
    refine ⟨trivial, cNeedA htr rfl (by omega) (by decide) (by decide) (fun h1 => ?_) (fun h1 => by
      rw [ifp_f (pI_0.mp h1)] at hΦ
      exact hΦ _ _ (xkL_a hm (by decide)))⟩
    replace h1 := pI_1.mp h1
    rw [ifp_t h1] at hΦ
    obtain ⟨n, hn, ho, rfl⟩ := bl_n h1
    obtain ⟨q, hq, rfl⟩ := h1.2.2.1
    obtain ⟨p, hp, rfl⟩ := h1.2.2.2
    rw [nI_cl (by omega), nI_cl (by omega), nI_cl (by omega)] at hΦ
    show ¬ (2 : Int32) = 0 ∧ (mWB l g d k_X11_believe Φ 4 24 54 [.ref 586, .int (nI n), .int (nI q), .int (nI p), .long (0 : Int64), mJ, .int (((nI n) / (2 : Int32)) + (1 : Int32)), mJ, mJ] [] m o 1 6)
    refine ⟨by decide, ?_⟩
    rw [show nI n / 2 + 1 = nI (n / 2 + 1 + 0) from (show ∀ n, n < 10 → nI n / 2 + 1 = nI (n / 2 + 1 + 0) by decide +kernel) n hn]
    refine mLoopZ (P := fun i => mWB l g d k_X11_believe Φ 4 24 54 [.ref 586, .int (nI n), .int (nI q), .int (nI p), .long (sC n q i), mJ, .int (nI (n / 2 + 1 + i)), mJ, mJ] [] m o 1 6) (N := n - n / 2) ?_ ?_
    · refine mGoOn (mOk (by decide)) rfl [54,96] 400 ?_
      show ((nI n) < (nI (n / 2 + 1 + (n - n / 2))) → mWB l g d k_X11_believe Φ 4 24 96 [.ref 586, .int (nI n), .int (nI q), .int (nI p), .long (sC n q (n - n / 2)), mJ, .int (nI (n / 2 + 1 + (n - n / 2))), mJ, mJ] [] m o 1 6) ∧ (¬ (nI n) < (nI (n / 2 + 1 + (n - n / 2))) → mCal l g d k_X11_believe Φ 4 24 _ 65 k_X11_choices false [.int (nI n), .int (nI (n / 2 + 1 + (n - n / 2)))] [.long (sC n q (n - n / 2))] [.ref 586, .int (nI n), .int (nI q), .int (nI p), .long (sC n q (n - n / 2)), mJ, .int (nI (n / 2 + 1 + (n - n / 2))), mJ, mJ] m o 1 6 2)
      refine ⟨fun _ => ?_, fun z => absurd (by rw [nI_ltI (by omega) (by omega)]; omega) z⟩
      rw [sC_ab n hn q hq]
      refine mGoOn (mOk (by decide)) rfl [107] 400 ?_
      show mCal l g d k_X11_believe Φ 4 24 _ 99 k_X11_power false [.int (16 : Int32), .int (nI n)] [] [.ref 586, .int (nI n), .int (nI q), .int (nI p), .long (lN (ab n q)), mJ, .int (nI (n / 2 + 1 + (n - n / 2))), mJ, mJ] m o 1 6 2
      refine nCl' htr (x_power m 16 (r := n) (by omega)) (by omega) (by decide) (by decide) ?_
      rintro x m2 ⟨rfl, rfl⟩
      rw [pw16 n hn]
      show mWB l g d k_X11_believe Φ 4 24 107 [.ref 586, .int (nI n), .int (nI q), .int (nI p), .long (lN (ab n q)), mJ, .long (lN (16 ^ n)), mJ, .int (0 : Int32)] [] m2 o 1 6
      unfold vBel at hΦ
      exact x_blh o hn hp hΦ hm (4 * n) 0 _ _ (by omega) (ab_lt n hn q hq) (p16_lt n hn) (hv_ok n hn q hq)
    · intro i hi ih
      have ih : mWB l g d k_X11_believe Φ 4 24 54 [.ref 586, .int (nI n), .int (nI q), .int (nI p), .long (sC n q i + chC n (n / 2 + 1 + i) (n / 2 + 1 + i) * pwC (nI q) (n / 2 + 1 + i) * pwC (16 - nI q) (n - (n / 2 + 1 + i))), mJ, .int (nI (n / 2 + 1 + i + 1)), mJ, mJ] [] m o 1 6 := ih
      have hr2 : n / 2 + 1 + i ≤ n := by omega
      generalize n / 2 + 1 + i = r at ih hr2 ⊢
      generalize sC n q i = s at ih ⊢
      refine mGoOn (mOk (by decide)) rfl [54,96] 400 ?_
      show ((nI n) < (nI r) → mWB l g d k_X11_believe Φ 4 24 96 [.ref 586, .int (nI n), .int (nI q), .int (nI p), .long s, mJ, .int (nI r), mJ, mJ] [] m o 1 6) ∧ (¬ (nI n) < (nI r) → mCal l g d k_X11_believe Φ 4 24 _ 65 k_X11_choices false [.int (nI n), .int (nI r)] [.long s] [.ref 586, .int (nI n), .int (nI q), .int (nI p), .long s, mJ, .int (nI r), mJ, mJ] m o 1 6 2)
      refine ⟨fun z => absurd z (by rw [nI_ltI (by omega) (by omega)]; omega), fun _ => nCl' htr (x_choices m (n := n) (r := r) (by omega) (by omega)) (by omega) (by decide) (by decide) ?_⟩
      rintro x m2 ⟨rfl, rfl⟩
      show mCal l g d k_X11_believe Φ 4 24 _ 71 k_X11_power false [.int (nI q), .int (nI r)] [.long (chC n r r), .long s] [.ref 586, .int (nI n), .int (nI q), .int (nI p), .long s, mJ, .int (nI r), mJ, mJ] m2 o 1 6 2
      refine nCl' htr (x_power m2 (nI q) (r := r) (by omega)) (by omega) (by decide) (by decide) ?_
      rintro x m3 ⟨rfl, rfl⟩
      show mCal l g d k_X11_believe Φ 4 24 _ 83 k_X11_power false [.int ((16 : Int32) - (nI q)), .int ((nI n) - (nI r))] [.long ((chC n r r) * (pwC (nI q) r)), .long s] [.ref 586, .int (nI n), .int (nI q), .int (nI p), .long s, mJ, .int (nI r), mJ, mJ] m3 o 1 6 2
      rw [show nI n - nI r = nI (n - r) from (show ∀ n, n < 10 → ∀ r, r < 10 → r ≤ n → nI n - nI r = nI (n - r) by decide +kernel) n hn r (by omega) hr2]
      refine nCl' htr (x_power m3 (16 - nI q) (r := n - r) (by omega)) (by omega) (by decide) (by decide) ?_
      rintro x m4 ⟨rfl, rfl⟩
      show mWB l g d k_X11_believe Φ 4 24 54 [.ref 586, .int (nI n), .int (nI q), .int (nI p), .long (s + ((chC n r r * pwC (nI q) r) * (pwC (16 - nI q) (n - r)))), mJ, .int ((nI r) + (1 : Int32)), mJ, mJ] [] m4 o 1 6
      rw [nI_1]
      exact ih
  have k40 : ¬ isBl n q p → mWB l g d k_X11_believe Φ 4 24 40 [.ref 586, .int n, .int q, .int p, mJ, mJ, mJ, mJ, mJ] [.ref 586] m o 0 0 := by
    intro hb
    refine mGoOn (mOk (by decide)) rfl [41] 400 ?_
    show mWB l g d k_X11_believe Φ 4 24 41 [.ref 586, .int n, .int q, .int p, mJ, mJ, mJ, mJ, mJ] [.int (0 : Int32), .ref 586] m o 0 0
    exact k41 0 (pI_f hb).symm
  refine gCi htr (x_within m n 1 9) (by omega) ?_
  show ((pI (1 ≤ n ∧ n ≤ 9)) = 0 → mWB l g d k_X11_believe Φ 4 24 40 [.ref 586, .int n, .int q, .int p, mJ, mJ, mJ, mJ, mJ] [.ref 586] m o 0 0) ∧ (¬ (pI (1 ≤ n ∧ n ≤ 9)) = 0 → ¬ (2 : Int32) = 0 ∧ ((¬ (jrem n (2 : Int32)) = (1 : Int32) → mWB l g d k_X11_believe Φ 4 24 40 [.ref 586, .int n, .int q, .int p, mJ, mJ, mJ, mJ, mJ] [.ref 586] m o 0 0) ∧ ((jrem n (2 : Int32)) = (1 : Int32) → mCal l g d k_X11_believe Φ 4 24 _ 22 k_X11_within false [.int q, .int (0 : Int32), .int (16 : Int32)] [.ref 586] [.ref 586, .int n, .int q, .int p, mJ, mJ, mJ, mJ, mJ] m o 0 0 1)))
  refine ⟨fun z => k40 (fun y => pI_0.mp z y.1), fun z => ?_⟩
  have z := pI_1.mp z
  rw [rem_01 z]
  refine ⟨by decide, fun z2 => k40 (fun y => z2 y.2.1), fun z2 => gCi htr (x_within m q 0 16) (by omega) ?_⟩
  rw [show (0 ≤ q ∧ q ≤ 16) = In q 17 from propext (in_In (n := 17) (by decide))]
  show ((pI (In q 17)) = 0 → mWB l g d k_X11_believe Φ 4 24 40 [.ref 586, .int n, .int q, .int p, mJ, mJ, mJ, mJ, mJ] [.ref 586] m o 0 0) ∧ (¬ (pI (In q 17)) = 0 → mCal l g d k_X11_believe Φ 4 24 _ 30 k_X11_isChoice false [.int p, .int (2 : Int32)] [.ref 586] [.ref 586, .int n, .int q, .int p, mJ, mJ, mJ, mJ, mJ] m o 0 0 1)
  refine ⟨fun z3 => k40 (fun y => pI_0.mp z3 y.2.2.1), fun z3 => gCi htr (x_isChoice m (by omega) p (n := 2) (by decide)) (by omega) ?_⟩
  show ((pI (In p 2)) = 0 → mWB l g d k_X11_believe Φ 4 24 40 [.ref 586, .int n, .int q, .int p, mJ, mJ, mJ, mJ, mJ] [.ref 586] m o 0 0) ∧ (¬ (pI (In p 2)) = 0 → mWB l g d k_X11_believe Φ 4 24 41 [.ref 586, .int n, .int q, .int p, mJ, mJ, mJ, mJ, mJ] [.int (1 : Int32), .ref 586] m o 0 0)
  exact ⟨fun z4 => k40 (fun y => pI_0.mp z4 y.2.2.2), fun z4 => k41 1 (pI_t ⟨z, z2, pI_1.mp z3, pI_1.mp z4⟩).symm⟩
end X17
