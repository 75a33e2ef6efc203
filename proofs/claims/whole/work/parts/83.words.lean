set_option maxRecDepth 100000
/-! WORDS AS NUMBERS -/
/-- the number of the letters l 0 .. l (k-1), each 1 to 26 -/
def enc (l : Nat → Nat) : Nat → Nat
  | 0 => 0
  | k + 1 => 27 * enc l k + l k
theorem enc_lt {l : Nat → Nat} : ∀ k, (∀ j, j < k → l j < 27) → enc l k < 27 ^ k
  | 0, _ => Nat.lt_succ_self 0
  | k + 1, h => by
    have h1 := enc_lt k (fun j hj => h j (by omega))
    have h2 := h k (by omega)
    show 27 * enc l k + l k < 27 ^ (k + 1)
    rw [Nat.pow_succ]
    omega
theorem enc_pos {l : Nat → Nat} {k : Nat} (h : 0 < l k) : 0 < enc l (k + 1) := by
  show 0 < 27 * enc l k + l k
  omega
theorem enc_inj {l l' : Nat → Nat} : ∀ k k', (∀ j, j < k → 0 < l j ∧ l j < 27) → (∀ j, j < k' → 0 < l' j ∧ l' j < 27) → enc l k = enc l' k' → k = k' ∧ ∀ j, j < k → l j = l' j
  | 0, 0, _, _, _ => ⟨rfl, fun j hj => absurd hj (by omega)⟩
  | 0, k' + 1, _, h', e => by
    have := enc_pos (l := l') (k := k') (h' k' (by omega)).1
    rw [← e] at this
    exact absurd this (by show ¬ 0 < 0; omega)
  | k + 1, 0, h, _, e => by
    have := enc_pos (l := l) (k := k) (h k (by omega)).1
    rw [e] at this
    exact absurd this (by show ¬ 0 < 0; omega)
  | k + 1, k' + 1, h, h', e => by
    have e2 : 27 * enc l k + l k = 27 * enc l' k' + l' k' := e
    have a := h k (by omega)
    have b := h' k' (by omega)
    have e3 : l k = l' k' ∧ enc l k = enc l' k' := by omega
    obtain ⟨e4, e5⟩ := enc_inj k k' (fun j hj => h j (by omega)) (fun j hj => h' j (by omega)) e3.2
    subst e4
    refine ⟨rfl, fun j hj => ?_⟩
    by_cases q : j = k
    · rw [q]; exact e3.1
    · exact e5 j (by omega)
/-- a small letter as a number -/
theorem sm_of {c : Int32} (h : isSm c) : ∃ e, 0 < e ∧ e < 27 ∧ c = nI (96 + e) := by
  have h1 := (fa_le _ _).mp h.1
  have h2 := (fa_le _ _).mp h.2
  have e1 : (97 : Int32).toInt = 97 := rfl
  have e2 : (122 : Int32).toInt = 122 := rfl
  refine ⟨(c.toInt - 96).toNat, by omega, by omega, ?_⟩
  rw [fa_eq, nI_toInt (by omega)]
  omega
/-- the j-th letter from b on -/
def ltr (T : Nat → Int32) (n b j : Nat) : Nat := (bAt T n (b + j)).toNatClampNeg - 96
theorem ltr_sm {T : Nat → Int32} {n b j : Nat} (h : isSm (bAt T n (b + j))) : 0 < ltr T n b j ∧ ltr T n b j < 27 ∧ bAt T n (b + j) = nI (96 + ltr T n b j) := by
  obtain ⟨e, h1, h2, h3⟩ := sm_of h
  have e2 : ltr T n b j = e := by unfold ltr; rw [h3, nI_cl (by omega)]; omega
  rw [e2]
  exact ⟨h1, h2, h3⟩
theorem enc_6 {l : Nat → Nat} {k : Nat} (hk : k ≤ 6) (h : ∀ j, j < k → l j < 27) : enc l k < 387420489 := by
  have h1 := enc_lt k h
  have h2 : 27 ^ k ≤ 27 ^ 6 := Nat.pow_le_pow_right (by decide) hk
  have h3 : (27 : Nat) ^ 6 = 387420489 := by decide
  omega
theorem wdl_enc {T : Nat → Int32} {n b : Nat} : ∀ f k v, (k ≤ 6 → v = nI (enc (ltr T n b) k)) → (∀ j, j < k → isSm (bAt T n (b + j))) → (wdl T n b f k v).1 = swd T n f (b + k) - b ∧ ((wdl T n b f k v).1 ≤ 6 → (wdl T n b f k v).2 = nI (enc (ltr T n b) (wdl T n b f k v).1)) ∧ ∀ j, j < (wdl T n b f k v).1 → isSm (bAt T n (b + j))
  | 0, k, v, hv, hs => ⟨by show k = b + k - b; omega, hv, hs⟩
  | f + 1, k, v, hv, hs => by
    by_cases q : isSm (bAt T n (b + k))
    · rw [wdl_yes q, swd_yes q, Nat.add_assoc]
      refine wdl_enc f (k + 1) _ (fun hk => ?_) (fun j hj => ?_)
      · obtain ⟨a1, a2, a3⟩ := ltr_sm q
        have hb := enc_6 (l := ltr T n b) (k := k) (by omega) (fun j hj => (ltr_sm (hs j hj)).2.1)
        rw [if_pos (by omega), hv (by omega), a3, show (27 : Int32) = nI 27 from rfl, show (97 : Int32) = nI 97 from rfl, nI_mul, nI_add, nI_sub (by omega), nI_1]
        show nI _ = nI (27 * enc (ltr T n b) k + ltr T n b k)
        congr 1
        omega
      · by_cases e : j = k
        · rw [e]; exact q
        · exact hs j (by omega)
    · rw [wdl_no q, swd_no q]
      exact ⟨by show k = b + k - b; omega, hv, hs⟩
/-- a word of at most six letters is here -/
theorem wHere_iff {T : Nat → Int32} {n b : Nat} {w : Nat → Nat} {k : Nat} (hk : k ≤ 6) (hw : ∀ j, j < k → 0 < w j ∧ w j < 27) : wHere T n b = nI (enc w k) ↔ swd T n (n - b) b - b = k ∧ ∀ j, j < k → bAt T n (b + j) = nI (96 + w j) := by
  obtain ⟨h1, h2, h3⟩ := wdl_enc (T := T) (n := n) (b := b) (n - b) 0 0 (fun _ => rfl) (fun j hj => absurd hj (by omega))
  rw [Nat.add_zero] at h1
  have hb := enc_6 hk (fun j hj => (hw j hj).2)
  unfold wHere
  generalize wdl T n b (n - b) 0 0 = r at h1 h2 h3
  rw [← h1]
  by_cases q : r.1 ≤ 6
  · rw [if_pos q, h2 q]
    have hb2 := enc_6 (l := ltr T n b) q (fun j hj => (ltr_sm (h3 j hj)).2.1)
    rw [nI_eq (by omega) (by omega)]
    constructor
    · intro e
      obtain ⟨e1, e2⟩ := enc_inj r.1 k (fun j hj => ⟨(ltr_sm (h3 j hj)).1, (ltr_sm (h3 j hj)).2.1⟩) hw e
      refine ⟨e1, fun j hj => ?_⟩
      rw [(ltr_sm (h3 j (by omega))).2.2, e2 j (by omega)]
    · rintro ⟨e1, e2⟩
      rw [e1]
      have key : ∀ i, i ≤ k → enc (ltr T n b) i = enc w i := by
        intro i
        induction i with
        | zero => exact fun _ => rfl
        | succ i ih =>
          intro hi
          show 27 * enc (ltr T n b) i + ltr T n b i = 27 * enc w i + w i
          have : ltr T n b i = w i := by unfold ltr; rw [e2 i (by omega), nI_cl (by have := (hw i (by omega)).2; omega)]; omega
          rw [ih (by omega), this]
      exact key k (Nat.le_refl _)
  · rw [if_neg q]
    refine ⟨fun e => absurd e.symm (nI_m1 (by omega)), fun e => absurd e.1 (by omega)⟩
