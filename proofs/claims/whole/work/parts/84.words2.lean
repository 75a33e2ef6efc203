set_option maxRecDepth 100000
def tw (i j : Nat) : Nat := (tCh i j).toNatClampNeg - 96
/-- the number of the i-th text -/
def wc (i : Nat) : Int32 := nI (enc (tw i) (tLen i))
def isWd (i : Nat) : Bool := (List.range (tLen i)).all (fun j => Nat.blt 0 (tw i j) && Nat.blt (tw i j) 27 && decide (tCh i j = nI (96 + tw i j))) && Nat.ble (tLen i) 6
theorem isWd_ok {i : Nat} (h : isWd i = true) : tLen i ≤ 6 ∧ ∀ j, j < tLen i → (0 < tw i j ∧ tw i j < 27) ∧ tCh i j = nI (96 + tw i j) := by
  unfold isWd at h
  rw [Bool.and_eq_true] at h
  refine ⟨Nat.le_of_ble_eq_true h.2, fun j hj => ?_⟩
  have q := List.all_eq_true.mp h.1 j (List.mem_range.mpr hj)
  rw [Bool.and_eq_true, Bool.and_eq_true, decide_eq_true_eq] at q
  exact ⟨⟨by simpa [Nat.blt_eq] using q.1.1, by simpa [Nat.blt_eq] using q.1.2⟩, q.2⟩
theorem isW_iff {T : Nat → Int32} {n : Nat} {s : XS} (hs : s.1 ≤ n) {i : Nat} (hi : isWd i = true) : isW T i (xWd T n s) ↔ wHere T n (skp T n s.1) = wc i := by
  obtain ⟨h6, hl⟩ := isWd_ok hi
  have hw := swd_le (T := T) (n := n) (n - skp T n s.1) (skp T n s.1) (skp_in hs)
  unfold wc
  rw [wHere_iff h6 (fun j hj => (hl j hj).1)]
  show (swd T n (n - skp T n s.1) (skp T n s.1) - skp T n s.1 = tLen i ∧ ∀ j, j < tLen i → T (skp T n s.1 + j) = tCh i j) ↔ _
  refine and_congr_right (fun e => ?_)
  refine forall_congr' (fun j => imp_congr_right (fun hj => ?_))
  rw [(hl j hj).2]
  unfold bAt
  rw [if_pos (by omega)]
