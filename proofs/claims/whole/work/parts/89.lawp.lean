set_option maxRecDepth 100000
/-! WHAT A LAW'S TEXT READS AS -/
abbrev QS : Type := PS × List (Nat × Nat)
noncomputable def lNt (a b : Nat) (s : QS) : QS := ifp (s.1.2.1 = 0) (s.1, s.2 ++ [(a, b)]) s
noncomputable def lSg (T : Nat → Int32) (n : Nat) (c : Int32) (s : QS) : QS := (pSgn T n c s.1, s.2)
def kwA (i : Nat) : Int32 := knW.getD i 0
def wLe : Int32 := six6 12 5 1 19 20 0
def wMo : Int32 := six6 13 15 19 20 0 0
def opP (a : Nat) (c : Int32) : Prop := (a = 4 ∧ c = 42) ∨ (a = 5 ∧ c = 47) ∨ (a = 6 ∧ c = 37)
def opS (a : Nat) (c : Int32) : Prop := (a = 2 ∧ c = 43) ∨ (a = 3 ∧ c = 45)
def LA (T : Nat → Int32) (n : Nat) (R : Nat → QS → QS → Prop) (k : Nat) (s s' : QS) : Prop := ∃ b, ((b = 7 ∧ wHere T n (skp T n s.1.1) = wLe) ∨ (b = 8 ∧ wHere T n (skp T n s.1.1) = wMo)) ∧ ((k < 6 ∧ ∃ s1 s2, R (k + 1) (lSg T n 91 ((swd T n (n - skp T n s.1.1) (skp T n s.1.1), s.1.2), s.2)) s1 ∧ R (k + 1) (lSg T n 44 s1) s2 ∧ s' = lNt b 0 (lSg T n 93 s2)) ∨ (¬ k < 6 ∧ s' = ((skp T n s.1.1, 3, nI (skp T n s.1.1)), s.2)))
def LB (T : Nat → Int32) (n : Nat) (R : Nat → QS → QS → Prop) (k : Nat) (s s' : QS) : Prop := bAt T n (skp T n s.1.1) = 40 ∧ ((k < 6 ∧ ∃ s1, R (k + 1) ((skp T n s.1.1 + 1, s.1.2), s.2) s1 ∧ s' = lSg T n 41 s1) ∨ (¬ k < 6 ∧ s' = ((skp T n s.1.1, 3, nI (skp T n s.1.1)), s.2)))
def LC (T : Nat → Int32) (n : Nat) (s s' : QS) : Prop := ∃ i, i < 8 ∧ wHere T n (skp T n s.1.1) = kwA i ∧ s' = ((swd T n (n - skp T n s.1.1) (skp T n s.1.1), s.1.2), s.2 ++ [(1, i)])
def LD (T : Nat → Int32) (n : Nat) (s s' : QS) : Prop := (∀ i, i < 8 → wHere T n (skp T n s.1.1) ≠ kwA i) ∧ ∃ j, j ≤ 999 ∧ (pNum T n 0 999 (skp T n s.1.1, s.1.2)).1 = nI j ∧ s' = lNt 0 j ((pNum T n 0 999 (skp T n s.1.1, s.1.2)).2, s.2)
def LO (T : Nat → Int32) (n : Nat) (R : Nat → QS → QS → Prop) (k : Nat) (s s' : QS) : Prop := LA T n R k s s' ∨ ((wHere T n (skp T n s.1.1) ≠ wLe ∧ wHere T n (skp T n s.1.1) ≠ wMo) ∧ (LB T n R k s s' ∨ (bAt T n (skp T n s.1.1) ≠ 40 ∧ (LC T n s s' ∨ LD T n s s'))))
def LL (T : Nat → Int32) (n : Nat) (op : Nat → Int32 → Prop) (R0 R1 : Nat → QS → QS → Prop) (k : Nat) (s s' : QS) : Prop := (∃ a, op a (bAt T n (skp T n s.1.1)) ∧ ∃ s1, R0 k ((skp T n s.1.1 + 1, s.1.2), s.2) s1 ∧ R1 k (lNt a 0 s1) s') ∨ ((∀ a, ¬ op a (bAt T n (skp T n s.1.1))) ∧ s' = ((skp T n s.1.1, s.1.2), s.2))
/-- what is read: 0 one, 1 the signs behind it, 2 a product, 3 the signs behind it, 4 a sum -/
def Lw (T : Nat → Int32) (n : Nat) : Nat → Nat → Nat → QS → QS → Prop
  | 0 => fun _ _ s s' => s.1.2.1 ≠ 0 ∧ s' = s
  | f + 1 => fun md k s s' => (s.1.2.1 ≠ 0 ∧ s' = s) ∨ (s.1.2.1 = 0 ∧ ((md = 0 ∧ LO T n (Lw T n f 4) k s s') ∨ (md = 1 ∧ LL T n opP (Lw T n f 0) (Lw T n f 1) k s s') ∨ (md = 2 ∧ ∃ s1, Lw T n f 0 k s s1 ∧ Lw T n f 1 k s1 s') ∨ (md = 3 ∧ LL T n opS (Lw T n f 2) (Lw T n f 3) k s s') ∨ (md = 4 ∧ ∃ s1, Lw T n f 2 k s s1 ∧ Lw T n f 3 k s1 s')))
theorem Lw_f {T : Nat → Int32} {n f md k : Nat} {s : QS} (h : s.1.2.1 ≠ 0) : Lw T n f md k s s := by
  cases f with
  | zero => exact ⟨h, rfl⟩
  | succ f => exact Or.inl ⟨h, rfl⟩
theorem Lw_fe {T : Nat → Int32} {n f md k : Nat} {s s' : QS} (h : s.1.2.1 ≠ 0) (hL : Lw T n f md k s s') : s' = s := by
  cases f with
  | zero => exact hL.2
  | succ f =>
    rcases hL with q | q
    · exact q.2
    · exact absurd q.1 h
/-- how many values lie on the stack behind these codes -/
def hg : List (Nat × Nat) → Nat → Nat
  | [], h => h
  | c :: cs, h => hg cs (if c.1 < 2 then h + 1 else h - 1)
def okC (c : Nat × Nat) (h : Nat) : Prop := c.1 ≤ 8 ∧ c.2 ≤ 999 ∧ (c.1 = 1 → c.2 < 8) ∧ (2 ≤ c.1 → 2 ≤ h)
def okL : List (Nat × Nat) → Nat → Prop
  | [], _ => True
  | c :: cs, h => okC c h ∧ okL cs (if c.1 < 2 then h + 1 else h - 1)
theorem hg_app (c : Nat × Nat) : ∀ (cs : List (Nat × Nat)) (h : Nat), hg (cs ++ [c]) h = (if c.1 < 2 then hg cs h + 1 else hg cs h - 1)
  | [], _ => rfl
  | _ :: cs, h => hg_app c cs _
theorem okL_app (c : Nat × Nat) : ∀ (cs : List (Nat × Nat)) (h : Nat), okL cs h → okC c (hg cs h) → okL (cs ++ [c]) h
  | [], _, _, h2 => ⟨h2, trivial⟩
  | _ :: cs, _, h1, h2 => ⟨h1.1, okL_app c cs _ h1.2 h2⟩
def skN (T : Nat → Int32) (n : Nat) (s : QS) : Nat := skp T n s.1.1
section LWP
variable {T : Nat → Int32} {n : Nat}
theorem skp_ge {i : Nat} (h : i ≤ n) : i ≤ skp T n i := (skp_le (n - i) i (Nat.le_refl _) h).2.1
theorem pNum_mo {lo hi : Int32} {p : PS} (hp : p.1 ≤ n) : p.1 ≤ (pNum T n lo hi p).2.1 := by
  by_cases q : p.2.1 = 0
  · have e : pNum T n lo hi p = pFin lo hi (skp T n p.1) (@ite PS (isDg (bAt T n (skp T n p.1))) (Classical.propDecidable _) (pBl T n p) (pWr 1 (nI (skp T n p.1)) (pBl T n p))).2 (dgs T n (n - skp T n p.1) (skp T n p.1) 0) := if_pos q
    rw [e]
    have h1 := skp_ge (T := T) hp
    have h2 := (dgs_end (T := T) (n := n) (n - skp T n p.1) (skp T n p.1) 0 (skp_in hp)).1
    generalize dgs T n (n - skp T n p.1) (skp T n p.1) 0 = r at h2 ⊢
    unfold pFin
    by_cases z : lo ≤ r.2 ∧ r.2 ≤ hi
    · simp only [if_pos z]; omega
    · simp only [if_neg z, pWr_a]; omega
  · rw [pNum_f q]
    exact Nat.le_refl _
theorem pSgn_mo {c : Int32} {p : PS} (hp : p.1 ≤ n) : p.1 ≤ (pSgn T n c p).1 := by
  have h1 := skp_ge (T := T) hp
  by_cases q : p.2.1 = 0
  · have e : pSgn T n c p = (if bAt T n (skp T n p.1) = c then (skp T n p.1 + 1, p.2) else pWr 1 (nI (skp T n p.1)) (pBl T n p)) := if_pos q
    rw [e]
    by_cases z : bAt T n (skp T n p.1) = c
    · rw [if_pos z]; show p.1 ≤ skp T n p.1 + 1; omega
    · rw [if_neg z, pWr_a]; exact h1
  · rw [pSgn_f q]
    exact Nat.le_refl _
theorem wH_pos {q : Nat} (hq : q ≤ n) (h : wHere T n q ≠ 0) : isSm (bAt T n q) ∧ q < n ∧ q < swd T n (n - q) q ∧ swd T n (n - q) q ≤ n := by
  by_cases z : isSm (bAt T n q)
  · have hl := sm_lt z
    refine ⟨z, hl, ?_, (swd_le _ _ hq).2⟩
    rw [show n - q = (n - q - 1) + 1 by omega, swd_yes z]
    exact Nat.lt_of_lt_of_le (Nat.lt_succ_self q) (swd_le _ _ hl).1
  · exfalso
    apply h
    unfold wHere
    rw [wdl_no (b := q) (k := 0) z]
    rfl
theorem kwA_0 : ∀ i, i < 8 → kwA i ≠ 0 ∧ kwA i ≠ wLe ∧ kwA i ≠ wMo ∧ ∀ j, j < 8 → kwA j = kwA i → j = i := by decide +kernel
theorem wLe_0 : wLe ≠ 0 ∧ wMo ≠ 0 ∧ wLe ≠ wMo := by decide +kernel
theorem bAt_lt {i : Nat} {c : Int32} (h : bAt T n i = c) (hc : c ≠ -1) : i < n := by
  by_cases z : i < n
  · exact z
  · rw [bAt_end (by omega)] at h; exact absurd h.symm hc
theorem opP_n {a : Nat} {c : Int32} (h : opP a c) : c ≠ -1 ∧ 2 ≤ a ∧ a ≤ 8 := by
  rcases h with ⟨rfl, rfl⟩ | ⟨rfl, rfl⟩ | ⟨rfl, rfl⟩ <;> decide
theorem opS_n {a : Nat} {c : Int32} (h : opS a c) : c ≠ -1 ∧ 2 ≤ a ∧ a ≤ 8 := by
  rcases h with ⟨rfl, rfl⟩ | ⟨rfl, rfl⟩ <;> decide
/-- what holds behind a piece that is read: v values more -/
def Aft (n v : Nat) (s s' : QS) : Prop := (s'.1.1 ≤ n ∧ s.1.1 ≤ s'.1.1) ∧ (s'.1.2.1 = 0 → s.1.2.1 = 0) ∧ s'.2.length + s.1.1 ≤ s'.1.1 + s.2.length ∧ okL s'.2 0 ∧ (s'.1.2.1 = 0 → hg s'.2 0 = hg s.2 0 + v)
theorem Aft_tr {u v : Nat} {s s1 s2 : QS} (h1 : Aft n u s s1) (h2 : Aft n v s1 s2) : Aft n (u + v) s s2 := by
  obtain ⟨⟨a1, a2⟩, a3, a4, a5, a6⟩ := h1
  obtain ⟨⟨b1, b2⟩, b3, b4, b5, b6⟩ := h2
  exact ⟨⟨b1, by omega⟩, fun q => a3 (b3 q), by omega, b5, fun q => by rw [b6 q, a6 (b3 q)]; omega⟩
theorem Aft_sg {c : Int32} (hc : c ≠ -1) {s : QS} (hs : s.1.1 ≤ n) (hk : okL s.2 0) : Aft n 0 s (lSg T n c s) := by
  have h := pSgn_ok (T := T) (n := n) hc hs
  have h2 := pSgn_mo (T := T) (c := c) hs
  exact ⟨⟨h.1, h2⟩, fun q => (h.2 q).1, by show s.2.length + s.1.1 ≤ (pSgn T n c s.1).1 + s.2.length; omega, hk, fun _ => rfl⟩
theorem Aft_f {v : Nat} {s : QS} (h : s.1.2.1 ≠ 0) (hs : s.1.1 ≤ n) (hk : okL s.2 0) : Aft n v s s := ⟨⟨hs, Nat.le_refl _⟩, fun q => q, Nat.le_of_eq (Nat.add_comm _ _), hk, fun q => absurd q h⟩
/-- a code noted behind bytes that are read -/
theorem Aft_nt {v : Nat} {s s' : QS} {a b : Nat} (h : Aft n v s s') (hl : s'.1.2.1 = 0 → s'.2.length + 1 + s.1.1 ≤ s'.1.1 + s.2.length) {u : Nat} (ha : s'.1.2.1 = 0 → okC (a, b) (hg s'.2 0)) (hu : s'.1.2.1 = 0 → hg s.2 0 + u = if a < 2 then hg s.2 0 + v + 1 else hg s.2 0 + v - 1) : Aft n u s (lNt a b s') := by
  obtain ⟨⟨a1, a2⟩, a3, a4, a5, a6⟩ := h
  by_cases q : s'.1.2.1 = 0
  · have e : lNt a b s' = (s'.1, s'.2 ++ [(a, b)]) := ifp_t q
    rw [e]
    refine ⟨⟨a1, a2⟩, a3, ?_, okL_app _ _ _ a5 (ha q), fun _ => ?_⟩
    · show (s'.2 ++ [(a, b)]).length + s.1.1 ≤ s'.1.1 + s.2.length
      rw [List.length_append]
      have := hl q
      show s'.2.length + 1 + _ ≤ _
      omega
    · show hg (s'.2 ++ [(a, b)]) 0 = _
      rw [hg_app, a6 q]
      exact (hu q).symm
  · have e : lNt a b s' = s' := ifp_f q
    rw [e]
    exact ⟨⟨a1, a2⟩, a3, a4, a5, fun z => absurd z q⟩
end LWP
