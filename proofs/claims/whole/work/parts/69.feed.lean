set_option maxRecDepth 100000
/-! FEED -/
def byt (v : Int32) (r : Nat) : Int32 := jshr v (nI (24 - 8 * r)) &&& 255
def fdv (a b c e f : Int32) (k : Nat) : Int32 := if k < 4 then a else if k < 8 then b else if k < 12 then c else if k < 16 then e else f
def fdb (a b c e f : Int32) (k : Nat) : Int32 := byt (fdv a b c e f k) (k % 4)
theorem nI_and (a b : Nat) : nI a &&& nI b = nI (a &&& b) := hB_ext (fun i hi => by rw [hB_and, hB_nI hi, hB_nI hi, hB_nI hi, Nat.testBit_and, Bool.and_eq_true])
theorem byt_In (v : Int32) (r : Nat) : In (byt v r) 256 := by
  unfold byt
  obtain ⟨n, hn, e⟩ := wb_of32 (jshr v (nI (24 - 8 * r)))
  rw [e, show (255 : Int32) = nI 255 from rfl, nI_and]
  exact ⟨_, Nat.and_lt_two_pow (n := 8) _ (by decide), rfl⟩
theorem ushr_255 (x : Int32) {c : Nat} (hc : c ≤ 24) : jushr x (nI c) &&& 255 = jshr x (nI c) &&& 255 := by
  refine b_ext (fun i hi => ?_)
  rw [b_and, b_and]
  have e1 : bt (jushr x (nI c)) i = bt x (c + i) := b_ushr c (by omega) x i
  have e2 : bt (jshr x (nI c)) i = if c + i < 32 then bt x (c + i) else bt x 31 := b_sshr c (by omega) x hi
  rw [e1, e2]
  by_cases h : c + i < 32
  · rw [if_pos h]
  · have : bt 255 i = false := (show ∀ i, i < 32 → 8 ≤ i → bt 255 i = false by decide +kernel) i hi (by omega)
    rw [this, Bool.and_false, Bool.and_false]
def Fe (A : Mm) (s : Nat) (q : Nat → Int32) (k : Nat) (B : Mm) : Prop := (∀ a, a ≠ 0 → a ≠ 1 → B a = A a) ∧ (∀ i, i ≠ 1 → B 0 i = A 0 i) ∧ B 0 1 = nI (s + k) ∧ (∀ j, j < s → B 1 j = A 1 j) ∧ ∀ j, j < k → B 1 (s + j) = q j
def Fx (m : Mm) (s : Nat) (q : Nat → Int32) (k : Nat) (m2 : Mm) : Prop := (∀ a, a ≠ 587 → a ≠ 588 → m2 a = m a) ∧ (∀ i, i ≠ 1 → m2 587 i = m 587 i) ∧ m2 587 1 = nI (s + k) ∧ (∀ j, j < s → m2 588 j = m 588 j) ∧ ∀ j, j < k → m2 588 (s + j) = q j
theorem Fx_next {m m2 m3 : Mm} {s k n : Nat} {q q2 q3 : Nat → Int32} (h : Fx m s q k m2) (h2 : Fx m2 (s + k) q2 n m3) (e1 : ∀ j, j < k → q3 j = q j) (e2 : ∀ j, j < n → q3 (k + j) = q2 j) : Fx m s q3 (k + n) m3 := by
  refine ⟨fun a x y => (h2.1 a x y).trans (h.1 a x y), fun i hi => (h2.2.1 i hi).trans (h.2.1 i hi), by rw [h2.2.2.1, Nat.add_assoc], fun j hj => (h2.2.2.2.1 j (by omega)).trans (h.2.2.2.1 j hj), fun j hj => ?_⟩
  by_cases z : j < k
  · rw [h2.2.2.2.1 (s + j) (by omega), h.2.2.2.2 j z, e1 j z]
  · have := h2.2.2.2.2 (j - k) (by omega)
    rw [show s + k + (j - k) = s + j by omega] at this
    rw [this, ← e2 (j - k) (by omega), show k + (j - k) = j by omega]
theorem fdb_0 (a b c e f : Int32) {j : Nat} (hj : j < 4) : fdb a b c e f j = byt a j := by
  unfold fdb fdv
  rw [if_pos hj, Nat.mod_eq_of_lt hj]
theorem fdb_1 (a b c e f : Int32) {j : Nat} (hj : j < 4) : fdb a b c e f (4 + j) = byt b j := by
  unfold fdb fdv
  rw [if_neg (by omega), if_pos (by omega), show (4 + j) % 4 = j by omega]
theorem fdb_2 (a b c e f : Int32) {j : Nat} (hj : j < 4) : fdb a b c e f (8 + j) = byt c j := by
  unfold fdb fdv
  rw [if_neg (by omega), if_neg (by omega), if_pos (by omega), show (8 + j) % 4 = j by omega]
theorem fdb_3 (a b c e f : Int32) {j : Nat} (hj : j < 4) : fdb a b c e f (12 + j) = byt e j := by
  unfold fdb fdv
  rw [if_neg (by omega), if_neg (by omega), if_neg (by omega), if_pos (by omega), show (12 + j) % 4 = j by omega]
theorem fdb_4 (a b c e f : Int32) {j : Nat} (hj : j < 4) : fdb a b c e f (16 + j) = byt f j := by
  unfold fdb fdv
  rw [if_neg (by omega), if_neg (by omega), if_neg (by omega), if_neg (by omega), show (16 + j) % 4 = j by omega]
theorem fdb_In (a b c e f : Int32) (j : Nat) : In (fdb a b c e f j) 256 := byt_In _ _
section FD
variable {l : Launch} {g : mG} {d : Nat} {A : Mm}
theorem r_feed {m : Mm} (hm : cl m = A) {s : Nat} (hs : A 0 1 = nI s) (h6 : s ≤ 600) (a b c e f : Int32) : mHi l g d k_X12_feed [.ref 0, .int a, .int b, .int c, .int e, .int f] m (fun x m2 => (580 < s → x = -1 ∧ Cn A m2) ∧ (s ≤ 580 → x = nI (s + 20) ∧ m2 0 0 = 0 ∧ Fe A s (fdb a b c e f) 20 (cl m2))) := by
  refine nBi 2 rfl rfl rfl (by decide) rfl (fun htr o Φ hΦ => mGoOn (mOk (by decide)) rfl [23,76] 400 ?_)
  show ((((mset m 0 0 (0 : Int32)) 0 1) + (20 : Int32)) ≤ (600 : Int32) → mWB l g d k_X12_feed Φ 0 0 23 [.ref 0, .int a, .int b, .int c, .int e, .int f, .int (0 : Int32), mJ] [] (mset m 0 0 (0 : Int32)) o 0 0) ∧ (¬ (((mset m 0 0 (0 : Int32)) 0 1) + (20 : Int32)) ≤ (600 : Int32) → Φ (.inl (some (.int (-1 : Int32)))) (mset m 0 0 (0 : Int32)) o ∧ 0 ≤ 0 ∧ 0 ≤ 0)
  have hC := Cn_0 hm
  generalize mset m 0 0 (0 : Int32) = M at hC ⊢
  have e1 : M 0 1 = nI s := by rw [clO hC.1 (by omega)]; exact hs
  rw [e1, show (20 : Int32) = nI 20 from rfl, show (600 : Int32) = nI 600 from rfl, nI_add, nI_leI (by omega) (by decide)]
  refine ⟨fun z => ?_, fun z => eR (hΦ _ _ ⟨fun _ => ⟨rfl, hC⟩, fun q => absurd q (by omega)⟩)⟩
  have hcl : ∀ (m2 : Mm) a i, cl m2 a i = bif sc a i then 0 else m2 a i := fun _ _ _ => rfl
  have hA : ∀ a i, A a i = bif sc a i then 0 else M a i := fun a i => by rw [← hC.1]; rfl
  refine mLoopZ (P := fun k => ∀ m2, Fe M s (fdb a b c e f) k m2 → mWB l g d k_X12_feed Φ 0 0 23 [.ref 0, .int a, .int b, .int c, .int e, .int f, .int (nI k), mJ] [] m2 o 0 0) (N := 20) ?_ ?_ M ⟨fun _ _ _ => rfl, fun _ _ => rfl, e1, fun _ _ => rfl, fun j hj => absurd hj (by omega)⟩
  · intro m2 h2
    have h20 : (20 : Int32) ≤ nI 20 := by decide
    generalize nI 20 = t at h20 ⊢
    refine mGoOn (mOk (by decide)) rfl [23,76] 400 ?_
    show ((20 : Int32) ≤ t → Φ (.inl (some (.int (m2 0 1)))) m2 o ∧ 0 ≤ 0 ∧ 0 ≤ 0) ∧ (¬ (20 : Int32) ≤ t → ((4 : Int32) ≤ t → ((8 : Int32) ≤ t → ((12 : Int32) ≤ t → ((16 : Int32) ≤ t → mWB l g d k_X12_feed Φ 0 0 76 [.ref 0, .int a, .int b, .int c, .int e, .int f, .int t, mJ] [.int f] m2 o 0 0) ∧ (¬ (16 : Int32) ≤ t → mWB l g d k_X12_feed Φ 0 0 76 [.ref 0, .int a, .int b, .int c, .int e, .int f, .int t, mJ] [.int e] m2 o 0 0)) ∧ (¬ (12 : Int32) ≤ t → mWB l g d k_X12_feed Φ 0 0 76 [.ref 0, .int a, .int b, .int c, .int e, .int f, .int t, mJ] [.int c] m2 o 0 0)) ∧ (¬ (8 : Int32) ≤ t → mWB l g d k_X12_feed Φ 0 0 76 [.ref 0, .int a, .int b, .int c, .int e, .int f, .int t, mJ] [.int b] m2 o 0 0)) ∧ (¬ (4 : Int32) ≤ t → mWB l g d k_X12_feed Φ 0 0 76 [.ref 0, .int a, .int b, .int c, .int e, .int f, .int t, mJ] [.int a] m2 o 0 0))
    refine ⟨fun _ => eR (hΦ _ _ ⟨fun q => absurd q (by omega), fun _ => ⟨h2.2.2.1, ?_, fun a h3 h4 => ?_, fun i hi => ?_, ?_, fun j hj => ?_, fun j hj => ?_⟩⟩), fun q => absurd h20 q⟩
    · rw [h2.2.1 0 (by decide)]; exact hC.2
    · funext i; rw [hcl, hA, h2.1 a h3 h4]
    · rw [hcl, hA, h2.2.1 i hi]
    · rw [hcl, show sc 0 1 = false from rfl, cond_false]; exact h2.2.2.1
    · rw [hcl, hA, h2.2.2.2.1 j hj]
    · rw [hcl, show sc 1 (s + j) = false from rfl, cond_false]; exact h2.2.2.2.2 j hj
  · intro k hk ih m2 h2
    refine mGoOn (mOk (by decide)) rfl [23,76] 400 ?_
    show ((20 : Int32) ≤ (nI k) → Φ (.inl (some (.int (m2 0 1)))) m2 o ∧ 0 ≤ 0 ∧ 0 ≤ 0) ∧ (¬ (20 : Int32) ≤ (nI k) → ((4 : Int32) ≤ (nI k) → ((8 : Int32) ≤ (nI k) → ((12 : Int32) ≤ (nI k) → ((16 : Int32) ≤ (nI k) → mWB l g d k_X12_feed Φ 0 0 76 [.ref 0, .int a, .int b, .int c, .int e, .int f, .int (nI k), mJ] [.int f] m2 o 0 0) ∧ (¬ (16 : Int32) ≤ (nI k) → mWB l g d k_X12_feed Φ 0 0 76 [.ref 0, .int a, .int b, .int c, .int e, .int f, .int (nI k), mJ] [.int e] m2 o 0 0)) ∧ (¬ (12 : Int32) ≤ (nI k) → mWB l g d k_X12_feed Φ 0 0 76 [.ref 0, .int a, .int b, .int c, .int e, .int f, .int (nI k), mJ] [.int c] m2 o 0 0)) ∧ (¬ (8 : Int32) ≤ (nI k) → mWB l g d k_X12_feed Φ 0 0 76 [.ref 0, .int a, .int b, .int c, .int e, .int f, .int (nI k), mJ] [.int b] m2 o 0 0)) ∧ (¬ (4 : Int32) ≤ (nI k) → mWB l g d k_X12_feed Φ 0 0 76 [.ref 0, .int a, .int b, .int c, .int e, .int f, .int (nI k), mJ] [.int a] m2 o 0 0))
    have k76 : ∀ v, v = fdv a b c e f k → mWB l g d k_X12_feed Φ 0 0 76 [.ref 0, .int a, .int b, .int c, .int e, .int f, .int (nI k), mJ] [.int v] m2 o 0 0 := by
      rintro v rfl
      refine mGoOn (mOk (by decide)) rfl [23] 400 ?_
      show ¬ (4 : Int32) = 0 ∧ (mReq (mInB (m2 0 1) 600) ((Value.ref 0).category = 1 ∧ (mWB l g d k_X12_feed Φ 0 0 23 [.ref 0, .int a, .int b, .int c, .int e, .int f, .int ((nI k) + (1 : Int32)), .int (fdv a b c e f k)] [] (mset (mset m2 1 ((m2 0 1).toNatClampNeg) ((jshr (fdv a b c e f k) ((24 : Int32) - ((8 : Int32) * (jrem (nI k) (4 : Int32))))) &&& (255 : Int32))) 0 1 (((mset m2 1 ((m2 0 1).toNatClampNeg) ((jshr (fdv a b c e f k) ((24 : Int32) - ((8 : Int32) * (jrem (nI k) (4 : Int32))))) &&& (255 : Int32))) 0 1) + (1 : Int32))) o 0 0)))
      rw [h2.2.2.1, mIn_ok (show s + k < 600 by omega) (by decide), nI_cl (by omega), mset_ne m2 (a := 1) (x := 0) _ _ (by decide), h2.2.2.1, nI_1, nI_1]
      have ev : jshr (fdv a b c e f k) ((24 : Int32) - (8 : Int32) * jrem (nI k) 4) &&& 255 = fdb a b c e f k := by
        unfold fdb byt
        rw [(show ∀ k, k < 20 → (24 : Int32) - (8 : Int32) * jrem (nI k) 4 = nI (24 - 8 * (k % 4)) by unfold jrem; decide +kernel) k hk]
      rw [ev]
      refine ⟨by decide, rfl, mWB_wk (ih _ ⟨fun x h3 h4 => ?_, fun i hi => ?_, ?_, fun j hj => ?_, fun j hj => ?_⟩) ⟨Or.inr rfl, Or.inr rfl, Or.inr rfl, Or.inr rfl, Or.inr rfl, Or.inr rfl, Or.inr rfl, Or.inl rfl, trivial⟩⟩
      · rw [mset_ne _ _ _ h3, mset_ne _ _ _ h4]; exact h2.1 x h3 h4
      · rw [mset_eq, pk_un hi, mset_ne _ _ _ (by decide)]; exact h2.2.1 i hi
      · rw [mset_eq, pk_us]; rfl
      · rw [mset_ne _ _ _ (by decide), mset_eq, pk_un (by omega)]; exact h2.2.2.2.1 j hj
      · rw [mset_ne _ _ _ (by decide), mset_eq, upd_at]
        by_cases ej : j = k
        · rw [if_pos (by omega), ej]
        · rw [if_neg (by omega)]; exact h2.2.2.2.2 j (by omega)
    have lk : ∀ n, n < 100 → ((Int32.ofNat n ≤ nI k) ↔ n ≤ k) := fun n hn => nI_leI (by omega) (by omega)
    unfold fdv at k76
    refine ⟨fun q => absurd q (fun q => absurd ((lk 20 (by decide)).mp q) (by omega)), fun _ => ⟨fun q4 => ⟨fun q8 => ⟨fun q12 => ⟨fun q16 => k76 _ ?_, fun q16 => k76 _ ?_⟩, fun q12 => k76 _ ?_⟩, fun q8 => k76 _ ?_⟩, fun q4 => k76 _ ?_⟩⟩
    · have := (lk 16 (by decide)).mp q16
      rw [if_neg (by omega), if_neg (by omega), if_neg (by omega), if_neg (by omega)]
    · have := (lk 12 (by decide)).mp q12
      have h16 : ¬ 16 ≤ k := fun z => q16 ((lk 16 (by decide)).mpr z)
      rw [if_neg (by omega), if_neg (by omega), if_neg (by omega), if_pos (by omega)]
    · have := (lk 8 (by decide)).mp q8
      have h16 : ¬ 12 ≤ k := fun z => q12 ((lk 12 (by decide)).mpr z)
      rw [if_neg (by omega), if_neg (by omega), if_pos (by omega)]
    · have := (lk 4 (by decide)).mp q4
      have h16 : ¬ 8 ≤ k := fun z => q8 ((lk 8 (by decide)).mpr z)
      rw [if_neg (by omega), if_pos (by omega)]
    · have h16 : ¬ 4 ≤ k := fun z => q4 ((lk 4 (by decide)).mpr z)
      rw [if_pos (by omega)]
theorem x_append {m : Mm} {s : Nat} (hs : m 587 1 = nI s) (h6 : s + 4 ≤ 600) (hd : 1 ≤ d) (v : Int32) : mHv l g d k_X7_append [.ref 587, .int v] m (Fx m s (byt v) 4) := by
  refine nBv 1 rfl rfl rfl (by decide) rfl (fun htr o Φ hΦ => mGoOn (mOk (by decide)) rfl [3] 400 ?_)
  show mWB l g d k_X7_append Φ 0 0 3 [.ref 587, .int v, .int (24 : Int32)] [] m o 0 0
  refine mLoopZ (P := fun k => ∀ m2, Fx m s (byt v) k m2 → mWB l g d k_X7_append Φ 0 0 3 [.ref 587, .int v, .int (nI 24 + nI k * (-8))] [] m2 o 0 0) (N := 4) ?_ ?_ m ⟨fun _ _ _ => rfl, fun _ _ => rfl, hs, fun _ _ => rfl, fun j hj => absurd hj (by omega)⟩
  · intro m2 h2
    have h20 : (nI 24 + nI 4 * (-8) : Int32) < 0 := by decide
    generalize (nI 24 + nI 4 * (-8) : Int32) = t at h20 ⊢
    refine mGoOn (mOk (by decide)) rfl [3] 400 ?_
    show (t < 0 → Φ (.inl none) m2 o ∧ 0 ≤ 0 ∧ 0 ≤ 0) ∧ (¬ t < 0 → mCal l g d k_X7_append Φ 0 0 _ 22 k_X11_put true [.ref 588, .int (m2 587 1), .int ((jushr v t) &&& (255 : Int32))] [] [.ref 587, .int v, .int t] m2 o 0 0 0)
    exact ⟨fun _ => eR (hΦ _ h2), fun q => absurd h20 q⟩
  · intro k hk ih m2 h2
    have et : nI 24 + nI k * (-8) = nI (24 - 8 * k) := (show ∀ k, k < 4 → nI 24 + nI k * (-8) = nI (24 - 8 * k) by decide +kernel) k hk
    have et2 : nI (24 - 8 * k) + (-8) = nI 24 + nI (k + 1) * (-8) := (show ∀ k, k < 4 → nI (24 - 8 * k) + (-8) = nI 24 + nI (k + 1) * (-8) by decide +kernel) k hk
    rw [et]
    rw [← et2] at ih
    refine mGoOn (mOk (by decide)) rfl [3] 400 ?_
    show ((nI (24 - 8 * k)) < 0 → Φ (.inl none) m2 o ∧ 0 ≤ 0 ∧ 0 ≤ 0) ∧ (¬ (nI (24 - 8 * k)) < 0 → mCal l g d k_X7_append Φ 0 0 _ 22 k_X11_put true [.ref 588, .int (m2 587 1), .int ((jushr v (nI (24 - 8 * k))) &&& (255 : Int32))] [] [.ref 587, .int v, .int (nI (24 - 8 * k))] m2 o 0 0 0)
    rw [h2.2.2.1, ushr_255 v (by omega)]
    refine ⟨fun q => absurd q (nI_pos (by omega)), fun _ => fCv htr (x_put m2 (a := 588) (n := 600) rfl rfl (by decide) (k := s + k) (by omega) _) hd ?_⟩
    show (Value.ref 587).category = 1 ∧ (mWB l g d k_X7_append Φ 0 0 3 [.ref 587, .int v, .int ((nI (24 - 8 * k)) + (-8 : Int32))] [] (mset (mset m2 588 (s + k) (byt v k)) 587 1 (((mset m2 588 (s + k) (byt v k)) 587 1) + (1 : Int32))) o 0 0)
    rw [mset_ne m2 (a := 588) (x := 587) _ _ (by decide), h2.2.2.1, nI_1]
    refine ⟨rfl, ih _ ⟨fun x h3 h4 => ?_, fun i hi => ?_, ?_, fun j hj => ?_, fun j hj => ?_⟩⟩
    · rw [mset_ne _ _ _ h3, mset_ne _ _ _ h4]; exact h2.1 x h3 h4
    · rw [mset_eq, pk_un hi, mset_ne _ _ _ (by decide)]; exact h2.2.1 i hi
    · rw [mset_eq, pk_us]; rfl
    · rw [mset_ne _ _ _ (by decide), mset_eq, pk_un (by omega)]; exact h2.2.2.2.1 j hj
    · rw [mset_ne _ _ _ (by decide), mset_eq, upd_at]
      by_cases ej : j = k
      · rw [if_pos (by omega), ej]
      · rw [if_neg (by omega)]; exact h2.2.2.2.2 j (by omega)
theorem x_feed {m : Mm} {s : Nat} (hs : m 587 1 = nI s) (h6 : s ≤ 600) (hd : 2 ≤ d) (a b c e f : Int32) : mHi l g d k_X11_feed [.ref 586, .int a, .int b, .int c, .int e, .int f] m (fun x m2 => (580 < s → x = -1 ∧ m2 = m) ∧ (s ≤ 580 → x = nI (s + 20) ∧ Fx m s (fdb a b c e f) 20 m2)) := by
  refine nBi 0 rfl rfl rfl (by decide) rfl (fun htr o Φ hΦ => mGoOn (mOk (by decide)) rfl [] 400 ?_)
  show True ∧ mCal l g d k_X11_feed Φ 0 0 _ 6 k_X7_hasRoom false [.ref 587, .int (20 : Int32)] [] [.ref 586, .int a, .int b, .int c, .int e, .int f] m o 0 0 1
  have hroom : mFi l g (d - 1) k_X7_hasRoom [.ref 587, .int 20] m (pI (s ≤ 580)) m := by
    refine nFi 0 rfl rfl rfl (by decide) rfl (fun htr o Φ hΦ => mGoOn (mOk (by decide)) rfl [] 400 ?_)
    show ((600 : Int32) < ((m 587 1) + (20 : Int32)) → ((0 : Int32) = 0 ∨ (0 : Int32) = 1) ∧ Φ (.inl (some (.int (0 : Int32)))) m o ∧ 0 ≤ 0 ∧ 0 ≤ 0) ∧ (¬ (600 : Int32) < ((m 587 1) + (20 : Int32)) → ((1 : Int32) = 0 ∨ (1 : Int32) = 1) ∧ Φ (.inl (some (.int (1 : Int32)))) m o ∧ 0 ≤ 0 ∧ 0 ≤ 0)
    rw [hs, show (20 : Int32) = nI 20 from rfl, show (600 : Int32) = nI 600 from rfl, nI_add, nI_ltI (by decide) (by omega)]
    refine ⟨fun z => ?_, fun z => ?_⟩
    · rw [pI_f (by omega)] at hΦ; exact ⟨Or.inl rfl, eR hΦ⟩
    · rw [pI_t (by omega)] at hΦ; exact ⟨Or.inr rfl, eR hΦ⟩
  refine ⟨trivial, fCi htr hroom (by omega) ?_⟩
  show (¬ (pI (s ≤ 580)) = 0 → True ∧ mCal l g d k_X11_feed Φ 0 0 _ 19 k_X7_append false [.ref 587, .int a] [] [.ref 586, .int a, .int b, .int c, .int e, .int f] m o 0 0 0) ∧ ((pI (s ≤ 580)) = 0 → Φ (.inl (some (.int (-1 : Int32)))) m o ∧ 0 ≤ 0 ∧ 0 ≤ 0)
  refine ⟨fun z => ?_, fun z => eR (hΦ _ _ ⟨fun _ => ⟨rfl, rfl⟩, fun q => absurd q (pI_0.mp z)⟩)⟩
  have hz := pI_1.mp z
  refine ⟨trivial, nCv htr (x_append hs (by omega) (by omega) a) (by omega) ?_⟩
  intro m1 h1
  show True ∧ mCal l g d k_X11_feed Φ 0 0 _ 27 k_X7_append false [.ref 587, .int b] [] [.ref 586, .int a, .int b, .int c, .int e, .int f] m1 o 0 0 0
  refine ⟨trivial, nCv htr (x_append h1.2.2.1 (by omega) (by omega) b) (by omega) ?_⟩
  intro m2 h2
  have h2 := Fx_next (q3 := fdb a b c e f) h1 h2 (fun j hj => fdb_0 a b c e f hj) (fun j hj => fdb_1 a b c e f hj)
  show True ∧ mCal l g d k_X11_feed Φ 0 0 _ 35 k_X7_append false [.ref 587, .int c] [] [.ref 586, .int a, .int b, .int c, .int e, .int f] m2 o 0 0 0
  refine ⟨trivial, nCv htr (x_append h2.2.2.1 (by omega) (by omega) c) (by omega) ?_⟩
  intro m3 h3
  have h3 := Fx_next (q3 := fdb a b c e f) h2 h3 (fun _ _ => rfl) (fun j hj => fdb_2 a b c e f hj)
  show True ∧ mCal l g d k_X11_feed Φ 0 0 _ 44 k_X7_append false [.ref 587, .int e] [] [.ref 586, .int a, .int b, .int c, .int e, .int f] m3 o 0 0 0
  refine ⟨trivial, nCv htr (x_append h3.2.2.1 (by omega) (by omega) e) (by omega) ?_⟩
  intro m4 h4
  have h4 := Fx_next (q3 := fdb a b c e f) h3 h4 (fun _ _ => rfl) (fun j hj => fdb_3 a b c e f hj)
  show True ∧ mCal l g d k_X11_feed Φ 0 0 _ 53 k_X7_append false [.ref 587, .int f] [] [.ref 586, .int a, .int b, .int c, .int e, .int f] m4 o 0 0 0
  refine ⟨trivial, nCv htr (x_append h4.2.2.1 (by omega) (by omega) f) (by omega) ?_⟩
  intro m5 h5
  have h5 := Fx_next (q3 := fdb a b c e f) h4 h5 (fun _ _ => rfl) (fun j hj => fdb_4 a b c e f hj)
  show Φ (.inl (some (.int (m5 587 1)))) m5 o ∧ 0 ≤ 0 ∧ 0 ≤ 0
  exact eR (hΦ _ _ ⟨fun q => absurd q (by omega), fun _ => ⟨h5.2.2.1, h5⟩⟩)
end FD
theorem Rl_feed {A B C : Mm} (hR : Rl A) {s : Nat} (hs : nTp A = s) (h5 : s ≤ 580) {q : Nat → Int32} (hq : ∀ j, In (q j) 256) (hU : Fe A s q 20 B) (hX : Fx B s q 20 C) : Rl C := by
  obtain ⟨u1, u2, u3, u4, u5⟩ := hU
  obtain ⟨x1, x2, x3, x4, x5⟩ := hX
  obtain ⟨⟨q1, q2, q3, q4, q5, q6, q7, q8, q9⟩, r2, r3, r4, r5, r6⟩ := hR
  have eC : ∀ a, a ≠ 0 → a ≠ 1 → a ≠ 587 → a ≠ 588 → C a = A a := fun a h1 h2 h3 h4 => (x1 a h3 h4).trans (u1 a h1 h2)
  have e0 : ∀ i, C 0 i = B 0 i := fun i => by rw [x1 0 (by decide) (by decide)]
  have f0 : ∀ i, i ≠ 1 → C 0 i = A 0 i := fun i hi => (e0 i).trans (u2 i hi)
  have hS : sim A C := ⟨fun a ha => eC a (by unfold cwA at ha; omega) (by unfold cwA at ha; omega) (by unfold cwA at ha; omega) (by unfold cwA at ha; omega), f0 21 (by decide)⟩
  have hC4 := nMSP (eC 4 (by decide) (by decide) (by decide) (by decide))
  have hM6 := q1.1.2.2.1.2
  have hP8 := q1.1.2.2.2.2
  have hbk : ∀ a, 392 ≤ a → a ≤ 400 → C a = A a := fun a h1 h2 => eC a (by omega) (by omega) (by omega) (by omega)
  have h494 := eC 494 (by decide) (by decide) (by decide) (by decide)
  refine ⟨⟨cg_Cty hS q1, sim_LwOk hS q2, cg_BkOk (f0 35 (by decide)) hbk hC4.2.2 q3, by rw [h494]; exact cg_Nt hC4.1 hC4.2.2 hM6 (eq37_refl _) q4, cg_CtR hS q1.1 (fun a h1 h2 => eC a (by omega) (by omega) (by omega) (by omega)) q5, cg_LwR hS q2 (fun a h1 h2 => eC a (by omega) (by omega) (by omega) (by omega)) q6, cg_BkR (f0 35 (by decide)) hbk q3 (fun a h1 h2 => eC a (by omega) (by omega) (by omega) (by omega)) q7, by rw [h494]; exact cg_NtR hC4.1 hC4.2.1 hC4.2.2 hM6 hP8 (eq37_refl _) (fun a h1 h2 => eC a (by omega) (by omega) (by omega) (by omega)) q8, by rw [eC 586 (by decide) (by decide) (by decide) (by decide), f0 37 (by decide)]; exact q9⟩, ?_, ?_, ?_, ?_, ?_⟩
  · have e : nWk C = nWk A := by unfold nWk; rw [f0 36 (by decide)]
    rw [e, f0 36 (by decide), h494]
    refine ⟨r2.1, cg_HsR hC4.1 hC4.2.1 hC4.2.2 hM6 hP8 (eq37_refl _) (fun i hi => ?_) (fun a h1 h2 => eC a (by omega) (by omega) (by omega) (by omega)) r2.2⟩
    rw [eC (497 + i) (by omega) (by omega) (by have := r2.2.1; omega) (by have := r2.2.1; omega)]
    exact eq37_refl _
  · have e : nI3 C = nI3 A := by unfold nI3; rw [f0 38 (by decide)]
    rw [e, f0 38 (by decide), eC 586 (by decide) (by decide) (by decide) (by decide)]
    refine ⟨r3.1, r3.2.1, r3.2.2.1, fun i hi => ?_⟩
    have h3 := r3.1
    have q := r3.2.2.2 i hi
    rw [eC (514 + i) (by omega) (by omega) (by omega) (by omega)]
    exact ⟨q.1, cg_HsR hC4.1 hC4.2.1 hC4.2.2 hM6 hP8 (eq37_refl _) (fun _ _ => eq37_refl _) (fun a h1 h2 => eC a (by omega) (by omega) (by omega) (by omega)) q.2⟩
  · rw [eC 586 (by decide) (by decide) (by decide) (by decide), eC 2 (by decide) (by decide) (by decide) (by decide)]
    exact r4
  · have e : nTp C = s + 20 := by unfold nTp; rw [e0, u3, nI_cl (by omega)]
    rw [hs] at r5
    rw [e, e0, u3]
    refine ⟨by omega, rfl, x3, fun i hi => ?_⟩
    have e1 : ∀ j, C 1 j = B 1 j := fun j => by rw [x1 1 (by decide) (by decide)]
    rw [e1]
    by_cases z : i < s
    · rw [x4 i z, u4 i z, u1 588 (by decide) (by decide)]
      exact r5.2.2.2 i z
    · have a1 := x5 (i - s) (by omega)
      have a2 := u5 (i - s) (by omega)
      rw [show s + (i - s) = i by omega] at a1 a2
      rw [a1, a2]
      exact ⟨rfl, hq _⟩
  · rw [x2 3 (by decide), u1 587 (by decide) (by decide), f0 3 (by decide)]
    exact r6
