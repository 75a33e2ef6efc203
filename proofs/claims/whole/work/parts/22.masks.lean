/-! MASKS, COUNTS AND SUMS OVER RANGES -/
theorem mLoopZ {P : Nat → Prop} {N : Nat} (he : P N) (hs : ∀ i, i < N → P (i + 1) → P i) : P 0 := mLoop hs he 0 (Nat.zero_le _)
theorem mLoopQ {P Q : Nat → Prop} {N : Nat} (he : (∀ j, j < N → ¬ Q j) → P N) (hs : ∀ i, i < N → (∀ j, j < i → ¬ Q j) → (¬ Q i → P (i + 1)) → P i) : P 0 := by
  have h := mLoop (P := fun i => (∀ j, j < i → ¬ Q j) → P i) (N := N) (fun i hi ih hb => hs i hi hb (fun q => ih (fun j hj => by
    rcases Nat.lt_or_eq_of_le (Nat.le_of_lt_succ hj) with h | h
    · exact hb j h
    · rw [h]; exact q))) he 0 (Nat.zero_le _)
  exact h (fun j hj => by omega)
noncomputable def ifp {α : Type} (p : Prop) (x y : α) : α := @ite _ p (Classical.propDecidable p) x y
theorem ifp_t {α : Type} {p : Prop} {x y : α} (h : p) : ifp p x y = x := if_pos h
theorem ifp_f {α : Type} {p : Prop} {x y : α} (h : ¬ p) : ifp p x y = y := if_neg h
noncomputable def msk (P : Nat → Prop) : Nat → Int32
  | 0 => 0
  | n + 1 => ifp (P n) (msk P n ||| jshl 1 (nI n)) (msk P n)
theorem msk_t {P : Nat → Prop} {n : Nat} (h : P n) : msk P (n + 1) = msk P n ||| jshl 1 (nI n) := ifp_t h
theorem msk_f {P : Nat → Prop} {n : Nat} (h : ¬ P n) : msk P (n + 1) = msk P n := ifp_f h
theorem or_zero (x : Int32) : x ||| 0 = x := by
  apply b_ext; intro i hi; rw [b_or, b_0, Bool.or_false]
theorem zero_or (x : Int32) : 0 ||| x = x := by
  apply b_ext; intro i hi; rw [b_or, b_0, Bool.false_or]
theorem msk_cong {P Q : Nat → Prop} : ∀ {n : Nat}, (∀ k, k < n → (P k ↔ Q k)) → msk P n = msk Q n
  | 0, _ => rfl
  | n + 1, h => by
    have ih := msk_cong (P := P) (Q := Q) (n := n) (fun k hk => h k (by omega))
    by_cases q : P n
    · rw [msk_t q, msk_t ((h n (by omega)).mp q), ih]
    · rw [msk_f q, msk_f (fun z => q ((h n (by omega)).mpr z)), ih]
theorem bt_one : ∀ i, i < 32 → bt 1 i = decide (i = 0) := by decide +kernel
theorem bt_sh {n i : Nat} (hn : n < 32) (hi : i < 32) : bt (jshl 1 (nI n)) i = decide (i = n) := by
  unfold jshl
  rw [b_shl n hn 1 hi]
  by_cases h : n ≤ i
  · rw [bt_one (i - n) (by omega)]
    by_cases h2 : i = n
    · simp [h2]
    · simp [h, h2]; omega
  · simp [h]; omega
theorem bt_msk {P : Nat → Prop} : ∀ {n : Nat}, n ≤ 32 → ∀ i, i < 32 → (bt (msk P n) i = true ↔ i < n ∧ P i)
  | 0, _, i, _ => by
    show bt 0 i = true ↔ _
    rw [b_0]; simp
  | n + 1, hn, i, hi => by
    have ih := bt_msk (P := P) (n := n) (by omega) i hi
    by_cases q : P n
    · rw [msk_t q, b_or, bt_sh (by omega) hi, Bool.or_eq_true, ih, decide_eq_true_eq]
      constructor
      · rintro (h | h)
        · exact ⟨by omega, h.2⟩
        · rw [h]; exact ⟨by omega, q⟩
      · rintro ⟨h1, h2⟩
        by_cases h3 : i = n
        · exact Or.inr h3
        · exact Or.inl ⟨by omega, h2⟩
    · rw [msk_f q, ih]
      constructor
      · rintro h; exact ⟨by omega, h.2⟩
      · rintro ⟨h1, h2⟩
        refine ⟨?_, h2⟩
        have : i ≠ n := fun z => q (z ▸ h2)
        omega
/-- the k-th bit -/
def hB (x : Int32) (k : Nat) : Prop := bt x k = true
theorem hB_ext {x y : Int32} (h : ∀ i, i < 32 → (hB x i ↔ hB y i)) : x = y := b_ext (fun i hi => by
  have := h i hi
  unfold hB at this
  cases h1 : bt x i <;> cases h2 : bt y i <;> simp_all)
theorem hB_has {x : Int32} {k : Nat} (hk : k < 32) : (jshr x (nI k) &&& 1 = 1) ↔ hB x k := by
  unfold hB jshr
  constructor
  · intro h
    have := congrArg (fun z => bt z 0) h
    simp only [b_and] at this
    rw [b_sshr k hk x (by decide), if_pos (by omega), bt_one 0 (by decide)] at this
    simpa using this
  · intro h
    apply b_ext
    intro i hi
    rw [b_and, bt_one i hi]
    by_cases h0 : i = 0
    · subst h0
      rw [b_sshr k hk x hi, if_pos (by omega)]
      simpa using h
    · simp [h0]
theorem hB_and (x y : Int32) (i : Nat) : hB (x &&& y) i ↔ hB x i ∧ hB y i := by unfold hB; rw [b_and, Bool.and_eq_true]
theorem hB_or (x y : Int32) (i : Nat) : hB (x ||| y) i ↔ hB x i ∨ hB y i := by unfold hB; rw [b_or, Bool.or_eq_true]
theorem hB_not (x : Int32) {i : Nat} (hi : i < 32) : hB (x ^^^ (-1)) i ↔ ¬ hB x i := by
  unfold hB; rw [b_xor, b_m1 i hi]; cases bt x i <;> simp
theorem hB_sh {n i : Nat} (hn : n < 32) (hi : i < 32) : hB (jshl 1 (nI n)) i ↔ i = n := by
  unfold hB; rw [bt_sh hn hi, decide_eq_true_eq]
theorem hB_msk {P : Nat → Prop} {n i : Nat} (hn : n ≤ 32) (hi : i < 32) : hB (msk P n) i ↔ i < n ∧ P i := bt_msk hn i hi
theorem hB_0 (i : Nat) : ¬ hB 0 i := by unfold hB; rw [b_0]; decide
/-- how many -/
noncomputable def cnt (P : Nat → Prop) : Nat → Nat
  | 0 => 0
  | n + 1 => ifp (P n) (cnt P n + 1) (cnt P n)
theorem cnt_t {P : Nat → Prop} {n : Nat} (h : P n) : cnt P (n + 1) = cnt P n + 1 := ifp_t h
theorem cnt_f {P : Nat → Prop} {n : Nat} (h : ¬ P n) : cnt P (n + 1) = cnt P n := ifp_f h
theorem cnt_le (P : Nat → Prop) : ∀ n, cnt P n ≤ n
  | 0 => Nat.le_refl _
  | n + 1 => by
    have := cnt_le P n
    by_cases q : P n
    · rw [cnt_t q]; omega
    · rw [cnt_f q]; omega
theorem cnt_cong {P Q : Nat → Prop} : ∀ {n : Nat}, (∀ k, k < n → (P k ↔ Q k)) → cnt P n = cnt Q n
  | 0, _ => rfl
  | n + 1, h => by
    have ih := cnt_cong (P := P) (Q := Q) (n := n) (fun k hk => h k (by omega))
    by_cases q : P n
    · rw [cnt_t q, cnt_t ((h n (by omega)).mp q), ih]
    · rw [cnt_f q, cnt_f (fun z => q ((h n (by omega)).mpr z)), ih]
/-- a sum of ints -/
def sm (f : Nat → Int32) : Nat → Int32
  | 0 => 0
  | n + 1 => sm f n + f n
theorem sm_s (f : Nat → Int32) (n : Nat) : sm f (n + 1) = sm f n + f n := rfl
theorem sm_cong {f g : Nat → Int32} : ∀ {n : Nat}, (∀ k, k < n → f k = g k) → sm f n = sm g n
  | 0, _ => rfl
  | n + 1, h => by rw [sm_s, sm_s, sm_cong (fun k hk => h k (by omega)), h n (by omega)]
theorem sm_0 {f : Nat → Int32} {a : Nat} : ∀ (n : Nat), (∀ k, a ≤ k → k < a + n → f k = 0) → sm f (a + n) = sm f a
  | 0, _ => rfl
  | n + 1, h => by rw [← Nat.add_assoc, sm_s, sm_0 n (fun k h1 h2 => h k h1 (by omega)), h (a + n) (by omega) (by omega)]; exact Int32.add_zero _
/-- the union of sets of bits -/
def uni (f : Nat → Int32) : Nat → Int32
  | 0 => 0
  | n + 1 => uni f n ||| f n
theorem uni_s (f : Nat → Int32) (n : Nat) : uni f (n + 1) = uni f n ||| f n := rfl
theorem uni_cong {f g : Nat → Int32} : ∀ {n : Nat}, (∀ k, k < n → f k = g k) → uni f n = uni g n
  | 0, _ => rfl
  | n + 1, h => by rw [uni_s, uni_s, uni_cong (fun k hk => h k (by omega)), h n (by omega)]
theorem hB_uni {f : Nat → Int32} {i : Nat} : ∀ {n : Nat}, hB (uni f n) i ↔ ∃ k, k < n ∧ hB (f k) i
  | 0 => ⟨fun h => absurd h (hB_0 i), fun ⟨k, hk, _⟩ => by omega⟩
  | n + 1 => by
    rw [uni_s, hB_or, hB_uni (n := n)]
    constructor
    · rintro (⟨k, hk, h⟩ | h)
      · exact ⟨k, by omega, h⟩
      · exact ⟨n, by omega, h⟩
    · rintro ⟨k, hk, h⟩
      by_cases q : k = n
      · subst q; exact Or.inr h
      · exact Or.inl ⟨k, by omega, h⟩
