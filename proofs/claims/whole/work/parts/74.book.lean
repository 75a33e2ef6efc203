set_option maxRecDepth 100000
/-! A BOOK IS READ: what both sides do -/
section PB
variable {T : Nat → Int32} {n : Nat}
theorem pNum_f {lo hi : Int32} {p : PS} (h : p.2.1 ≠ 0) : pNum T n lo hi p = (0, p) := if_neg h
theorem pSgn_f {c : Int32} {p : PS} (h : p.2.1 ≠ 0) : pSgn T n c p = p := if_neg h
theorem pNum_ok {lo hi : Int32} {p : PS} (hp : p.1 ≤ n) : (pNum T n lo hi p).2.1 ≤ n ∧ ((pNum T n lo hi p).2.2.1 = 0 → p.2.1 = 0 ∧ (lo ≤ (pNum T n lo hi p).1 ∧ (pNum T n lo hi p).1 ≤ hi) ∧ p.1 < (pNum T n lo hi p).2.1) ∧ ((pNum T n lo hi p).2.2.1 ≠ 0 → (pNum T n lo hi p).1 = 0) := by
  by_cases h1 : p.2.1 = 0
  · have eN : pNum T n lo hi p = pFin lo hi (skp T n p.1) (@ite PS (isDg (bAt T n (skp T n p.1))) (Classical.propDecidable _) (pBl T n p) (pWr 1 (nI (skp T n p.1)) (pBl T n p))).2 (dgs T n (n - skp T n p.1) (skp T n p.1) 0) := if_pos h1
    have hsk := skp_le (T := T) (n := n) (n - p.1) p.1 (Nat.le_refl _) hp
    have hend := dgs_end (T := T) (n := n) (n - skp T n p.1) (skp T n p.1) 0 hsk.1
    rw [eN]
    by_cases q : isDg (bAt T n (skp T n p.1))
    · rw [if_pos q]
      have hlt := dg_lt q
      have hgt : skp T n p.1 < (dgs T n (n - skp T n p.1) (skp T n p.1) 0).1 := by
        rw [show n - skp T n p.1 = (n - skp T n p.1 - 1) + 1 by omega, dgs_yes q]
        have := (dgs_end (T := T) (n := n) (n - skp T n p.1 - 1) (skp T n p.1 + 1) (cap5 (10 * 0 + bAt T n (skp T n p.1) - 48)) (by omega)).1
        omega
      generalize dgs T n (n - skp T n p.1) (skp T n p.1) 0 = r at hend hgt
      by_cases u : lo ≤ r.2 ∧ r.2 ≤ hi
      · have f1 : pFin lo hi (skp T n p.1) (pBl T n p).2 r = (r.2, (r.1, p.2)) := by
          unfold pFin
          dsimp only
          rw [if_pos u]
          show (if p.2.1 = 0 then r.2 else 0, (r.1, p.2)) = _
          rw [if_pos h1]
        rw [f1]
        exact ⟨hend.2, fun _ => ⟨h1, u, by show p.1 < r.1; omega⟩, fun z => absurd h1 z⟩
      · have f1 : pFin lo hi (skp T n p.1) (pBl T n p).2 r = (0, (r.1, 2, nI (skp T n p.1))) := by
          unfold pFin
          dsimp only
          rw [if_neg u]
          have : pWr 2 (nI (skp T n p.1)) (r.1, (pBl T n p).2) = (r.1, 2, nI (skp T n p.1)) := if_pos h1
          rw [this]
          rfl
        rw [f1]
        exact ⟨hend.2, fun z => absurd (show (2 : Int32) = 0 from z) (by decide), fun _ => rfl⟩
    · rw [if_neg q, dgs_no q]
      have f1 : pFin lo hi (skp T n p.1) (pWr 1 (nI (skp T n p.1)) (pBl T n p)).2 (skp T n p.1, 0) = (0, (skp T n p.1, 1, nI (skp T n p.1))) := by
        have e : pWr 1 (nI (skp T n p.1)) (pBl T n p) = (skp T n p.1, 1, nI (skp T n p.1)) := if_pos h1
        rw [e]
        unfold pFin
        dsimp only
        by_cases u : lo ≤ (0 : Int32) ∧ (0 : Int32) ≤ hi
        · rw [if_pos u]; rfl
        · rw [if_neg u]; rfl
      rw [f1]
      exact ⟨hsk.1, fun z => absurd (show (1 : Int32) = 0 from z) (by decide), fun _ => rfl⟩
  · rw [pNum_f h1]
    exact ⟨hp, fun z => absurd z h1, fun _ => rfl⟩
theorem pWr_ok {w h : Int32} (hw : w ≠ 0) {p : PS} : (pWr w h p).1 = p.1 ∧ (pWr w h p).2.1 ≠ 0 := by
  unfold pWr
  by_cases q : p.2.1 = 0
  · rw [if_pos q]; exact ⟨rfl, hw⟩
  · rw [if_neg q]; exact ⟨rfl, q⟩
theorem pSgn_ok {c : Int32} (hc : c ≠ -1) {p : PS} (hp : p.1 ≤ n) : (pSgn T n c p).1 ≤ n ∧ ((pSgn T n c p).2.1 = 0 → p.2.1 = 0 ∧ p.1 < (pSgn T n c p).1) := by
  by_cases h1 : p.2.1 = 0
  · have e1 : pSgn T n c p = (if bAt T n (skp T n p.1) = c then (skp T n p.1 + 1, p.2) else pWr 1 (nI (skp T n p.1)) (pBl T n p)) := if_pos h1
    have hsk := skp_le (T := T) (n := n) (n - p.1) p.1 (Nat.le_refl _) hp
    rw [e1]
    by_cases q : bAt T n (skp T n p.1) = c
    · rw [if_pos q]
      have hlt : skp T n p.1 < n := by
        by_cases z : skp T n p.1 < n
        · exact z
        · rw [bAt_end (by omega)] at q; exact absurd q.symm hc
      exact ⟨hlt, fun _ => ⟨h1, by show p.1 < skp T n p.1 + 1; omega⟩⟩
    · rw [if_neg q]
      have := pWr_ok (w := 1) (h := nI (skp T n p.1)) (by decide) (p := pBl T n p)
      exact ⟨by rw [this.1]; exact hsk.1, fun z => absurd z this.2⟩
  · rw [pSgn_f h1]
    exact ⟨hp, fun z => absurd z h1⟩
/-- the place, how many lines, their streets, their hours -/
abbrev BS : Type := PS × Nat × (Nat → Int32) × (Nat → Int32)
def bTd (b : BS) (v : Int32) : Prop := ∃ t, t < b.2.1 ∧ b.2.2.1 t = v
noncomputable def b1p (T : Nat → Int32) (n N : Nat) (b : BS) : PS := ifp ((pNum T n 0 (nI N - 1) b.1).2.2.1 = 0 ∧ bTd b (pNum T n 0 (nI N - 1) b.1).1) (pWr 2 (nI b.1.1) (pNum T n 0 (nI N - 1) b.1).2) (pNum T n 0 (nI N - 1) b.1).2
noncomputable def b2p (T : Nat → Int32) (n N : Nat) (b : BS) : PS := pSgn T n 59 (pNum T n 0 23 (b1p T n N b)).2
noncomputable def bk1 (T : Nat → Int32) (n N : Nat) (b : BS) : BS := ifp ((b2p T n N b).2.1 = 0) (pBl T n (b2p T n N b), b.2.1 + 1, upd b.2.2.1 b.2.1 (pNum T n 0 (nI N - 1) b.1).1, upd b.2.2.2 b.2.1 (pNum T n 0 23 (b1p T n N b)).1) (pBl T n (b2p T n N b), b.2)
noncomputable def bkF (T : Nat → Int32) (n N : Nat) : Nat → BS → BS
  | 0, b => b
  | f + 1, b => ifp (b.1.2.1 = 0 ∧ b.1.1 < n) (bkF T n N f (bk1 T n N b)) b
/-- lines that are sure: streets told once -/
def bOk (n N : Nat) (b : BS) : Prop := b.1.1 ≤ n ∧ (∀ t, t < b.2.1 → In (b.2.2.1 t) N ∧ In (b.2.2.2 t) 24) ∧ (∀ t u, t < u → u < b.2.1 → b.2.2.1 t ≠ b.2.2.1 u) ∧ b.2.1 ≤ N
theorem bound_in {x : Int32} {N : Nat} (hN : N < 2 ^ 31) (h : 0 ≤ x ∧ x ≤ nI N - 1) : In x N := (in_In hN).mp h
theorem pig : ∀ (k N : Nat) (f : Nat → Nat), (∀ t, t < k → f t < N) → (∀ t u, t < u → u < k → f t ≠ f u) → k ≤ N
  | 0, _, _, _, _ => Nat.zero_le _
  | k + 1, 0, f, h, _ => absurd (h 0 (by omega)) (by omega)
  | k + 1, N + 1, f, h, hd => by
    have := pig k N (fun t => if f t < f k then f t else f t - 1) (fun t ht => by
      have h1 := h t (by omega)
      have h2 := h k (by omega)
      have h3 := hd t k ht (by omega)
      by_cases q : f t < f k
      · rw [if_pos q]; omega
      · rw [if_neg q]; omega) (fun t u htu hu => by
      have h3 := hd t k (by omega) (by omega)
      have h4 := hd u k (by omega) (by omega)
      have h5 := hd t u htu (by omega)
      by_cases q : f t < f k <;> by_cases q2 : f u < f k
      · rw [if_pos q, if_pos q2]; exact h5
      · rw [if_pos q, if_neg q2]; omega
      · rw [if_neg q, if_pos q2]; omega
      · rw [if_neg q, if_neg q2]; omega)
    omega
theorem bk1_ok {N : Nat} (hN : N ≤ 9) {b : BS} (h : bOk n N b) : bOk n N (bk1 T n N b) ∧ ((bk1 T n N b).1.2.1 = 0 → b.1.1 < (bk1 T n N b).1.1) ∧ ((b2p T n N b).2.1 = 0 → b.2.1 < N ∧ In (pNum T n 0 (nI N - 1) b.1).1 N ∧ In (pNum T n 0 23 (b1p T n N b)).1 24 ∧ ¬ bTd b (pNum T n 0 (nI N - 1) b.1).1 ∧ (pNum T n 0 (nI N - 1) b.1).2.2.1 = 0) := by
  have q1 := pNum_ok (T := T) (n := n) (lo := 0) (hi := nI N - 1) (p := b.1) h.1
  have hb1 : (b1p T n N b).1 ≤ n ∧ ((b1p T n N b).2.1 = 0 → b1p T n N b = (pNum T n 0 (nI N - 1) b.1).2 ∧ ¬ bTd b (pNum T n 0 (nI N - 1) b.1).1) := by
    unfold b1p
    by_cases z : (pNum T n 0 (nI N - 1) b.1).2.2.1 = 0 ∧ bTd b (pNum T n 0 (nI N - 1) b.1).1
    · rw [ifp_t z]
      have := pWr_ok (w := 2) (h := nI b.1.1) (by decide) (p := (pNum T n 0 (nI N - 1) b.1).2)
      exact ⟨by rw [this.1]; exact q1.1, fun y => absurd y this.2⟩
    · rw [ifp_f z]
      exact ⟨q1.1, fun y => ⟨rfl, fun u => z ⟨y, u⟩⟩⟩
  have q2 := pNum_ok (T := T) (n := n) (lo := 0) (hi := 23) (p := b1p T n N b) hb1.1
  have q3 := pSgn_ok (T := T) (n := n) (c := 59) (by decide) (p := (pNum T n 0 23 (b1p T n N b)).2) q2.1
  have hsk : (pBl T n (b2p T n N b)).1 ≤ n ∧ (b2p T n N b).1 ≤ (pBl T n (b2p T n N b)).1 := by
    have := skp_le (T := T) (n := n) (n - (b2p T n N b).1) (b2p T n N b).1 (Nat.le_refl _) q3.1
    exact ⟨this.1, this.2.1⟩
  have key : (b2p T n N b).2.1 = 0 → b.1.1 < (b2p T n N b).1 ∧ In (pNum T n 0 (nI N - 1) b.1).1 N ∧ In (pNum T n 0 23 (b1p T n N b)).1 24 ∧ ¬ bTd b (pNum T n 0 (nI N - 1) b.1).1 ∧ (pNum T n 0 (nI N - 1) b.1).2.2.1 = 0 := by
    intro z
    have z3 := q3.2 z
    have z2 := q2.2.1 z3.1
    have z1 := hb1.2 z2.1
    rw [z1.1] at z2
    have z0 := q1.2.1 z2.1
    refine ⟨?_, bound_in (by omega) z0.2.1, ?_, z1.2, z2.1⟩
    · have := z3.2
      have h2 := z2.2.2
      have h4 := z0.2.2
      unfold b2p
      rw [z1.1] at this ⊢
      omega
    · rw [z1.1]
      exact bound_in (N := 24) (by decide) z2.2.1
  by_cases z : (b2p T n N b).2.1 = 0
  · obtain ⟨k1, k2, k3, k4, k5⟩ := key z
    have e : bk1 T n N b = (pBl T n (b2p T n N b), b.2.1 + 1, upd b.2.2.1 b.2.1 (pNum T n 0 (nI N - 1) b.1).1, upd b.2.2.2 b.2.1 (pNum T n 0 23 (b1p T n N b)).1) := ifp_t z
    rw [e]
    generalize (pNum T n 0 (nI N - 1) b.1).1 = v at k2 k4
    generalize (pNum T n 0 23 (b1p T n N b)).1 = w at k3
    have hin : ∀ t, t < b.2.1 + 1 → In (upd b.2.2.1 b.2.1 v t) N ∧ In (upd b.2.2.2 b.2.1 w t) 24 := fun t ht => by
      rw [upd_at, upd_at]
      by_cases y : t = b.2.1
      · rw [if_pos y, if_pos y]; exact ⟨k2, k3⟩
      · rw [if_neg y, if_neg y]; exact h.2.1 t (by omega)
    have hne : ∀ t u, t < u → u < b.2.1 + 1 → upd b.2.2.1 b.2.1 v t ≠ upd b.2.2.1 b.2.1 v u := fun t u htu hu => by
      rw [upd_at, upd_at, if_neg (by omega)]
      by_cases y : u = b.2.1
      · rw [if_pos y]; exact fun x => k4 ⟨t, by omega, x⟩
      · rw [if_neg y]; exact h.2.2.1 t u htu (by omega)
    have hle : b.2.1 + 1 ≤ N := by
      refine pig (b.2.1 + 1) N (fun t => (upd b.2.2.1 b.2.1 v t).toNatClampNeg) (fun t ht => (In_cl (hin t ht).1 (by omega)).2) (fun t u htu hu x => hne t u htu hu ?_)
      have e1 := (In_cl (hin t (by omega)).1 (by omega)).1
      have e2 := (In_cl (hin u hu).1 (by omega)).1
      rw [e1, e2, x]
    exact ⟨⟨hsk.1, hin, hne, hle⟩, fun _ => Nat.lt_of_lt_of_le k1 hsk.2, fun _ => ⟨by omega, k2, k3, k4, k5⟩⟩
  · have e : bk1 T n N b = (pBl T n (b2p T n N b), b.2) := ifp_f z
    rw [e]
    exact ⟨⟨hsk.1, h.2⟩, fun y => absurd y z, fun y => absurd y z⟩
end PB
