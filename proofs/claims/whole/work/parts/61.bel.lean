set_option maxRecDepth 100000
/-! BELIEVE -/
theorem lN_toI {n : Nat} (h : n < 2 ^ 63) : (lN n).toInt = n := Int64.toInt_ofNat_of_lt h
theorem lN_div {a b : Nat} (ha : a < 2 ^ 62) (hb : b < 2 ^ 62) : lN a / lN b = lN (a / b) := by
  have h1 : a / b < 2 ^ 62 := Nat.lt_of_le_of_lt (Nat.div_le_self _ _) ha
  rw [fa_eq64, Int64.toInt_div, lN_toI (by omega), lN_toI (by omega), lN_toI (by omega), ← Int.ofNat_tdiv]
  generalize a / b = c at h1 ⊢
  rw [Int.bmod_eq_of_le] <;> omega
theorem lN_rem {a b : Nat} (ha : a < 2 ^ 62) (hb : b < 2 ^ 62) : jlrem (lN a) (lN b) = lN (a % b) := by
  unfold jlrem
  rw [lN_div ha hb, lN_mul]
  have e : lN a = lN (a % b) + lN (a / b * b) := by rw [lN_add, Nat.mul_comm, Nat.mod_add_div]
  rw [e, Int64.add_sub_cancel]
theorem lN_0 {a : Nat} (ha : a < 2 ^ 62) : lN a = 0 ↔ a = 0 := by
  rw [show (0 : Int64) = lN 0 from rfl]
  exact fb_lN_inj (by omega) (by decide)
theorem lg_0 (x : Int64) : lg_cmp x 0 = 0 ↔ x = 0 := by
  unfold lg_cmp
  by_cases h1 : x > 0
  · rw [if_pos h1]
    refine ⟨fun h => absurd h (by decide), fun h => ?_⟩
    rw [h] at h1
    exact absurd h1 (by decide)
  · rw [if_neg h1]
    by_cases h2 : x = 0
    · rw [if_pos h2]; exact ⟨fun _ => h2, fun _ => rfl⟩
    · rw [if_neg h2]; exact ⟨fun h => absurd h (by decide), fun h => absurd h h2⟩
def ch : Nat → Nat → Nat
  | _, 0 => 1
  | 0, _ + 1 => 0
  | n + 1, k + 1 => ch n k + ch n (k + 1)
def ab (n q : Nat) : Nat := fo (fun i s => s + ch n (n / 2 + 1 + i) * q ^ (n / 2 + 1 + i) * (16 - q) ^ (n - (n / 2 + 1 + i))) (n - n / 2) 0
def bg (n q : Nat) : Nat := Nat.gcd (16 ^ n) (ab n q)
noncomputable def vBel (n q : Nat) (p : Nat) : Int64 := if p = 0 then lN (ab n q / bg n q) else lN (16 ^ n / bg n q)
def isBl (n q p : Int32) : Prop := (1 ≤ n ∧ n ≤ 9) ∧ ¬ jrem n 2 = 0 ∧ In q 17 ∧ In p 2
abbrev OcL : Type := Int32 × Nat × Int64
noncomputable def qBel (n q p : Int32) : OcL := ifp (isBl n q p) (0, 0, vBel n.toNatClampNeg q.toNatClampNeg p.toNatClampNeg) (1, 1, 0)
/-! the reference's way to it -/
def bR0 : Nat → Int32 := fun i => if i = 0 then 1 else 0
def bI (R : Nat → Int32) (i : Nat) : Nat → Nat → Int32
  | 0 => R
  | c + 1 => upd (bI R i c) (i - c) (bI R i c (i - c) + bI R i c (i - c - 1))
def bO : Nat → Nat → Int32
  | 0 => bR0
  | k + 1 => bI (bO k) (k + 1) (k + 1)
theorem bO_ch : ∀ n, n < 10 → ∀ r, r < 10 → bO n r = nI (ch n r) := by decide +kernel
def tR (n : Nat) (q : Int32) (r : Nat) (c : Int32) (k : Nat) : Int64 := fo (fun j t => t * (if r ≤ j then (16 - q).toInt64 else q.toInt64)) k c.toInt64
def sR (n : Nat) (q : Int32) (K : Nat) : Int64 := fo (fun i s => s + tR n q (n / 2 + 1 + i) (nI (ch n (n / 2 + 1 + i))) n) K 0
theorem sR_ab : ∀ n, n < 10 → ∀ q, q < 17 → sR n (nI q) (n - n / 2) = lN (ab n q) := by decide +kernel
theorem ab_lt : ∀ n, n < 10 → ∀ q, q < 17 → ab n q < 2 ^ 62 := by decide +kernel
theorem sh16 : ∀ n, n < 10 → jlshl (1 : Int64) ((4 : Int32) * nI n) = lN (16 ^ n) := by unfold jlshl; decide +kernel
theorem p16_lt : ∀ n, n < 10 → 16 ^ n < 2 ^ 62 := by decide +kernel
theorem bl_n {n q p : Int32} (h : isBl n q p) : ∃ k, k < 10 ∧ k % 2 = 1 ∧ n = nI k := by
  obtain ⟨k, h1, h2, rfl⟩ := in_1 h.1 (N := 9) rfl (by decide)
  refine ⟨k, by omega, ?_, rfl⟩
  have := h.2.1
  revert this
  exact (show ∀ k, k < 10 → ¬ jrem (nI k) 2 = 0 → k % 2 = 1 by unfold jrem; decide +kernel) k (by omega)
/-! the class's way to it -/
def hvN : Nat → Nat × Nat → Nat × Nat
  | 0, x => x
  | k + 1, x => if x.1 % 2 = 0 ∧ x.2 % 2 = 0 then hvN k (x.1 / 2, x.2 / 2) else x
theorem hv_ok : ∀ n, n < 10 → ∀ q, q < 17 → hvN (4 * n) (ab n q, 16 ^ n) = (ab n q / bg n q, 16 ^ n / bg n q) := by decide +kernel
