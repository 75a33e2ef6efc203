set_option maxRecDepth 100000
/-! WHAT A CITY'S TEXT READS AS -/
abbrev Ent : Type := Int32 × Int32 × Int32
abbrev CD : Type := Nat → List Ent
abbrev CS : Type := PS × CD
def eAt (L : List Ent) (i : Nat) : Ent := L.getD i (0, 0, 0)
theorem eAt_app {L : List Ent} {c : Ent} {i : Nat} (h : i < L.length) : eAt (L ++ [c]) i = eAt L i := by
  unfold eAt
  rw [List.getD_eq_getElem?_getD, List.getD_eq_getElem?_getD, List.getElem?_append_left h]
theorem eAt_new {L : List Ent} {c : Ent} : eAt (L ++ [c]) L.length = c := by
  unfold eAt
  rw [List.getD_eq_getElem?_getD, List.getElem?_append_right (Nat.le_refl _), Nat.sub_self]
  rfl
theorem len_app (L : List Ent) (c : Ent) : (L ++ [c]).length = L.length + 1 := by rw [List.length_append]; rfl
def wSt : Int32 := six6 19 20 18 5 5 20
def wLn : Int32 := six6 12 1 14 5 0 0
def wMn : Int32 := six6 13 1 14 0 0 0
noncomputable def kdH (T : Nat → Int32) (n q : Nat) : Nat := ifp (wHere T n q = wSt) 0 (ifp (wHere T n q = wLn) 1 (ifp (wHere T n q = wMn) 2 (ifp (isSl T n q) 3 4)))
def lnE (a b : Int32) (e : Ent) : Prop := e.1 = a ∧ e.2.1 = b ∨ e.1 = b ∧ e.2.1 = a
def lnIn (L : List Ent) (a b : Int32) : Prop := ∃ e, e < L.length ∧ lnE a b (eAt L e)
def most (k : Nat) : Nat := if k = 0 then 9 else if k = 1 then 14 else if k = 2 then 6 else 8
def tot (D : CD) : Nat := (D 0).length + (D 1).length + (D 2).length + (D 3).length
section CB
variable (T : Nat → Int32) (n N : Nat)
noncomputable def cB0 (p : PS) : PS × Ent := ((pNum T n 0 30 p).2, (pNum T n 0 30 p).1, 0, 0)
noncomputable def c1r (p : PS) : Int32 × PS := pNum T n 0 (nI N - 1) (pBl T n (pNum T n 0 (nI N - 1) p).2)
noncomputable def cB1 (L : List Ent) (p : PS) : PS × Ent := (ifp ((c1r T n N p).2.2.1 = 0 ∧ ((pNum T n 0 (nI N - 1) p).1 = (c1r T n N p).1 ∨ lnIn L (pNum T n 0 (nI N - 1) p).1 (c1r T n N p).1)) (pWr 2 (nI (skp T n (pNum T n 0 (nI N - 1) p).2.1)) (c1r T n N p).2) (c1r T n N p).2, (pNum T n 0 (nI N - 1) p).1, (c1r T n N p).1, 0)
noncomputable def cB3 (p : PS) : PS × Ent := ((pNum T n 0 23 (pNum T n 0 (nI N - 1) p).2).2, (pNum T n 0 (nI N - 1) p).1, (pNum T n 0 23 (pNum T n 0 (nI N - 1) p).2).1, 0)
noncomputable def cB2 (p : PS) : PS × Ent := ((pNum T n 1 24 (cB3 T n N p).1).2, (cB3 T n N p).2.1, (cB3 T n N p).2.2.1, (pNum T n 1 24 (cB3 T n N p).1).1)
noncomputable def cB (L : List Ent) (k : Nat) (p : PS) : PS × Ent := if k = 0 then cB0 T n p else if k = 1 then cB1 T n N L p else if k = 2 then cB2 T n N p else cB3 T n N p
end CB
def updD (D : CD) (k : Nat) (L : List Ent) : CD := fun j => if j = k then L else D j
theorem updD_at (D : CD) (k : Nat) (L : List Ent) (j : Nat) : updD D k L j = if j = k then L else D j := rfl
noncomputable def cE (T : Nat → Int32) (n : Nat) (D : CD) (k : Nat) (r : PS × Ent) : CS := ifp ((pSgn T n 59 r.1).2.1 = 0) (pSgn T n 59 r.1, updD D k (D k ++ [r.2])) (pSgn T n 59 r.1, D)
noncomputable def cl0 (T : Nat → Int32) (n : Nat) (c : CS) : CS := ifp (kdH T n c.1.1 = 4) ((c.1.1, 1, nI c.1.1), c.2) (ifp (tot c.2 = 60 ∨ (c.2 (kdH T n c.1.1)).length = most (kdH T n c.1.1)) ((c.1.1, 3, nI c.1.1), c.2) (cE T n c.2 (kdH T n c.1.1) (cB T n (c.2 0).length (c.2 1) (kdH T n c.1.1) (swd T n (n - c.1.1) c.1.1, c.1.2))))
noncomputable def cl1 (T : Nat → Int32) (n : Nat) (c : CS) : CS := (pBl T n (cl0 T n c).1, (cl0 T n c).2)
noncomputable def ctF (T : Nat → Int32) (n : Nat) : Nat → CS → CS
  | 0, c => c
  | f + 1, c => ifp (c.1.2.1 = 0 ∧ c.1.1 < n) (ctF T n f (cl1 T n c)) c
theorem ctF_no {T : Nat → Int32} {n f : Nat} {c : CS} (h : ¬ (c.1.2.1 = 0 ∧ c.1.1 < n)) : ctF T n f c = c := by
  cases f with
  | zero => rfl
  | succ f => exact ifp_f h
theorem ctF_yes {T : Nat → Int32} {n f : Nat} {c : CS} (h : c.1.2.1 = 0 ∧ c.1.1 < n) : ctF T n (f + 1) c = ctF T n f (cl1 T n c) := ifp_t h
noncomputable def ctR (T : Nat → Int32) (n : Nat) : CS := ctF T n n ((skp T n 0, 0, -1), fun _ => [])
def enOk (k N : Nat) (e : Ent) : Prop := if k = 0 then In e.1 31 else if k = 1 then In e.1 N ∧ In e.2.1 N ∧ e.1 ≠ e.2.1 else if k = 2 then In e.1 N ∧ In e.2.1 24 ∧ In e.2.2 25 ∧ e.2.2 ≠ 0 else In e.1 N ∧ In e.2.1 24
def cDok (D : CD) : Prop := tot D ≤ 60 ∧ ∀ k, k < 4 → (D k).length ≤ most k ∧ ∀ i, i < (D k).length → enOk k (D 0).length (eAt (D k) i)
def cOk (T : Nat → Int32) (n : Nat) (c : CS) : Prop := c.1.1 ≤ n ∧ skp T n c.1.1 = c.1.1 ∧ cDok c.2
section CP
variable {T : Nat → Int32} {n N : Nat}
theorem In_mo {x : Int32} {a b : Nat} (h : In x a) (hb : a ≤ b) : In x b := by
  obtain ⟨k, h1, h2⟩ := h
  exact ⟨k, by omega, h2⟩
theorem enOk_mo {k N N' : Nat} {e : Ent} (h : enOk k N e) (hN : N ≤ N') : enOk k N' e := by
  unfold enOk at h ⊢
  by_cases h0 : k = 0
  · rw [if_pos h0] at h ⊢; exact h
  · rw [if_neg h0] at h ⊢
    by_cases h1 : k = 1
    · rw [if_pos h1] at h ⊢; exact ⟨In_mo h.1 hN, In_mo h.2.1 hN, h.2.2⟩
    · rw [if_neg h1] at h ⊢
      by_cases h2 : k = 2
      · rw [if_pos h2] at h ⊢; exact ⟨In_mo h.1 hN, h.2⟩
      · rw [if_neg h2] at h ⊢; exact ⟨In_mo h.1 hN, h.2⟩
theorem kdH_le (q : Nat) : kdH T n q ≤ 4 := by
  unfold kdH
  by_cases h0 : wHere T n q = wSt
  · rw [ifp_t h0]; omega
  · rw [ifp_f h0]
    by_cases h1 : wHere T n q = wLn
    · rw [ifp_t h1]; omega
    · rw [ifp_f h1]
      by_cases h2 : wHere T n q = wMn
      · rw [ifp_t h2]; omega
      · rw [ifp_f h2]
        by_cases h3 : isSl T n q
        · rw [ifp_t h3]; omega
        · rw [ifp_f h3]; omega
theorem w3_0 : wSt ≠ 0 ∧ wLn ≠ 0 ∧ wMn ≠ 0 := by decide +kernel
theorem kdH_pos {q : Nat} (hq : q ≤ n) (h : kdH T n q ≠ 4) : q < swd T n (n - q) q ∧ swd T n (n - q) q ≤ n := by
  refine ⟨?_, (swd_le _ _ hq).2⟩
  unfold kdH at h
  by_cases h0 : wHere T n q = wSt
  · exact (wH_pos hq (by rw [h0]; exact w3_0.1)).2.2.1
  · rw [ifp_f h0] at h
    by_cases h1 : wHere T n q = wLn
    · exact (wH_pos hq (by rw [h1]; exact w3_0.2.1)).2.2.1
    · rw [ifp_f h1] at h
      by_cases h2 : wHere T n q = wMn
      · exact (wH_pos hq (by rw [h2]; exact w3_0.2.2)).2.2.1
      · rw [ifp_f h2] at h
        by_cases h3 : isSl T n q
        · exact isSl_pos hq h3
        · rw [ifp_f h3] at h; exact absurd rfl h
theorem num_in {lo hi : Int32} {p : PS} (hp : p.1 ≤ n) : (pNum T n lo hi p).2.1 ≤ n ∧ p.1 ≤ (pNum T n lo hi p).2.1 ∧ ((pNum T n lo hi p).2.2.1 = 0 → p.2.1 = 0 ∧ (lo ≤ (pNum T n lo hi p).1 ∧ (pNum T n lo hi p).1 ≤ hi)) := ⟨(pNum_ok hp).1, pNum_mo hp, fun q => ⟨((pNum_ok hp).2.1 q).1, ((pNum_ok hp).2.1 q).2.1⟩⟩
theorem in_1c {x : Int32} (h : 1 ≤ x ∧ x ≤ 24) : In x 25 ∧ x ≠ 0 := by
  have h1 := (fa_le _ _).mp h.1
  have h2 := (fa_le _ _).mp h.2
  have e1 : (1 : Int32).toInt = 1 := rfl
  have e2 : (24 : Int32).toInt = 24 := rfl
  refine ⟨bound_in (by decide) ⟨?_, h.2⟩, fun e => ?_⟩
  · rw [fa_le]; have e0 : (0 : Int32).toInt = 0 := rfl; omega
  · rw [e] at h1; have e0 : (0 : Int32).toInt = 0 := rfl; omega
theorem cB_ok {L : List Ent} {k : Nat} {p : PS} (hN : N < 2 ^ 31) (hp : p.1 ≤ n) : (cB T n N L k p).1.1 ≤ n ∧ p.1 ≤ (cB T n N L k p).1.1 ∧ ((cB T n N L k p).1.2.1 = 0 → p.2.1 = 0 ∧ enOk k N (cB T n N L k p).2) := by
  have hr := num_in (T := T) (n := n) (lo := 0) (hi := nI N - 1) hp
  have h3 : (cB3 T n N p).1.1 ≤ n ∧ p.1 ≤ (cB3 T n N p).1.1 ∧ ((cB3 T n N p).1.2.1 = 0 → p.2.1 = 0 ∧ In (cB3 T n N p).2.1 N ∧ In (cB3 T n N p).2.2.1 24) := by
    unfold cB3
    have h := num_in (T := T) (n := n) (lo := 0) (hi := 23) hr.1
    exact ⟨h.1, Nat.le_trans hr.2.1 h.2.1, fun q => ⟨(hr.2.2 (h.2.2 q).1).1, bound_in hN (hr.2.2 (h.2.2 q).1).2, bound_in (by decide) (h.2.2 q).2⟩⟩
  unfold cB enOk
  by_cases h0 : k = 0
  · rw [if_pos h0, if_pos h0]
    unfold cB0
    have h := num_in (T := T) (n := n) (lo := 0) (hi := 30) hp
    exact ⟨h.1, h.2.1, fun q => ⟨(h.2.2 q).1, bound_in (by decide) (h.2.2 q).2⟩⟩
  · rw [if_neg h0, if_neg h0]
    by_cases h1 : k = 1
    · rw [if_pos h1, if_pos h1]
      unfold cB1
      have hb : (pBl T n (pNum T n 0 (nI N - 1) p).2).1 ≤ n := skp_in hr.1
      have hge : (pNum T n 0 (nI N - 1) p).2.1 ≤ (pBl T n (pNum T n 0 (nI N - 1) p).2).1 := skp_ge hr.1
      have h := num_in (T := T) (n := n) (lo := 0) (hi := nI N - 1) hb
      have e : c1r T n N p = pNum T n 0 (nI N - 1) (pBl T n (pNum T n 0 (nI N - 1) p).2) := rfl
      rw [← e] at h
      generalize c1r T n N p = r2 at h
      generalize pNum T n 0 (nI N - 1) p = r1 at hr hge h
      dsimp only
      by_cases y : r2.2.2.1 = 0 ∧ (r1.1 = r2.1 ∨ lnIn L r1.1 r2.1)
      · rw [ifp_t y, pWr_a]
        exact ⟨h.1, Nat.le_trans hr.2.1 (Nat.le_trans hge h.2.1), fun q => absurd q (pWr_ok (by decide)).2⟩
      · rw [ifp_f y]
        exact ⟨h.1, Nat.le_trans hr.2.1 (Nat.le_trans hge h.2.1), fun q => ⟨(hr.2.2 (h.2.2 q).1).1, bound_in hN (hr.2.2 (h.2.2 q).1).2, bound_in hN (h.2.2 q).2, fun e => y ⟨q, Or.inl e⟩⟩⟩
    · rw [if_neg h1, if_neg h1]
      by_cases h2 : k = 2
      · rw [if_pos h2, if_pos h2]
        unfold cB2
        have h := num_in (T := T) (n := n) (lo := 1) (hi := 24) h3.1
        exact ⟨h.1, Nat.le_trans h3.2.1 h.2.1, fun q => ⟨(h3.2.2 (h.2.2 q).1).1, (h3.2.2 (h.2.2 q).1).2.1, (h3.2.2 (h.2.2 q).1).2.2, in_1c (h.2.2 q).2⟩⟩
      · rw [if_neg h2, if_neg h2]
        exact h3
theorem tot_upd {D : CD} {k : Nat} (hk : k < 4) (e : Ent) : tot (updD D k (D k ++ [e])) = tot D + 1 := by
  unfold tot
  rw [updD_at, updD_at, updD_at, updD_at]
  obtain rfl | rfl | rfl | rfl : k = 0 ∨ k = 1 ∨ k = 2 ∨ k = 3 := by omega
  · rw [if_pos rfl, if_neg (by decide), if_neg (by decide), if_neg (by decide), len_app]; omega
  · rw [if_neg (by decide), if_pos rfl, if_neg (by decide), if_neg (by decide), len_app]; omega
  · rw [if_neg (by decide), if_neg (by decide), if_pos rfl, if_neg (by decide), len_app]; omega
  · rw [if_neg (by decide), if_neg (by decide), if_neg (by decide), if_pos rfl, len_app]; omega
theorem cDok_upd {D : CD} (h : cDok D) {k : Nat} (hk : k < 4) {e : Ent} (ht : tot D ≠ 60) (hm : (D k).length ≠ most k) (he : enOk k (D 0).length e) : cDok (updD D k (D k ++ [e])) := by
  have h0 : (D 0).length ≤ (updD D k (D k ++ [e]) 0).length := by
    rw [updD_at]
    by_cases z : 0 = k
    · subst z; rw [if_pos rfl, len_app]; omega
    · rw [if_neg z]; exact Nat.le_refl _
  refine ⟨by rw [tot_upd hk]; have := h.1; omega, fun j hj => ?_⟩
  have hj2 := h.2 j hj
  rw [updD_at D k _ j]
  by_cases z : j = k
  · subst z
    rw [if_pos rfl, len_app]
    refine ⟨by omega, fun i hi => ?_⟩
    by_cases zi : i = (D j).length
    · rw [zi, eAt_new]; exact enOk_mo he h0
    · rw [eAt_app (by omega)]; exact enOk_mo (hj2.2 i (by omega)) h0
  · rw [if_neg z]
    exact ⟨hj2.1, fun i hi => enOk_mo (hj2.2 i hi) h0⟩
theorem most_le (k : Nat) : most k ≤ 14 := by
  unfold most
  split
  · decide
  · split
    · decide
    · split <;> decide
theorem cl1_ok {c : CS} (h : cOk T n c) (hg : c.1.2.1 = 0) : cOk T n (cl1 T n c) ∧ ((cl1 T n c).1.2.1 = 0 → c.1.1 < (cl1 T n c).1.1 ∧ tot (cl1 T n c).2 = tot c.2 + 1) := by
  obtain ⟨h1, h2, h3⟩ := h
  have key : (cl0 T n c).1.1 ≤ n ∧ cDok (cl0 T n c).2 ∧ ((cl0 T n c).1.2.1 = 0 → c.1.1 < (cl0 T n c).1.1 ∧ tot (cl0 T n c).2 = tot c.2 + 1) := by
    unfold cl0
    by_cases q4 : kdH T n c.1.1 = 4
    · rw [ifp_t q4]
      exact ⟨h1, h3, fun z => absurd (show (1 : Int32) = 0 from z) (by decide)⟩
    · rw [ifp_f q4]
      by_cases qm : tot c.2 = 60 ∨ (c.2 (kdH T n c.1.1)).length = most (kdH T n c.1.1)
      · rw [ifp_t qm]
        exact ⟨h1, h3, fun z => absurd (show (3 : Int32) = 0 from z) (by decide)⟩
      · rw [ifp_f qm]
        have hkp := kdH_pos h1 q4
        have hk4 : kdH T n c.1.1 < 4 := by have := kdH_le (T := T) (n := n) c.1.1; omega
        have h09 := (h3.2 0 (by decide)).1
        have hm0 := most_le 0
        have hB := cB_ok (T := T) (n := n) (N := (c.2 0).length) (L := c.2 1) (k := kdH T n c.1.1) (p := (swd T n (n - c.1.1) c.1.1, c.1.2)) (by omega) hkp.2
        generalize cB T n (c.2 0).length (c.2 1) (kdH T n c.1.1) (swd T n (n - c.1.1) c.1.1, c.1.2) = r at hB ⊢
        generalize kdH T n c.1.1 = k at qm hk4 hB ⊢
        have hS := pSgn_ok (T := T) (n := n) (c := 59) (by decide) hB.1
        unfold cE
        by_cases z : (pSgn T n 59 r.1).2.1 = 0
        · rw [ifp_t z]
          have z2 := hS.2 z
          have z3 := hB.2.1
          refine ⟨hS.1, cDok_upd h3 hk4 (fun y => qm (Or.inl y)) (fun y => qm (Or.inr y)) (hB.2.2 z2.1).2, fun _ => ⟨?_, tot_upd hk4 _⟩⟩
          have z4 : swd T n (n - c.1.1) c.1.1 ≤ r.1.1 := z3
          show c.1.1 < (pSgn T n 59 r.1).1
          omega
        · rw [ifp_f z]
          exact ⟨hS.1, h3, fun y => absurd y z⟩
  refine ⟨⟨skp_in key.1, skp_skp key.1, key.2.1⟩, fun z => ?_⟩
  have k2 := key.2.2 z
  have k3 := skp_ge (T := T) key.1
  exact ⟨Nat.lt_of_lt_of_le k2.1 k3, k2.2⟩
theorem ctF_ok : ∀ (f : Nat) (c : CS), cOk T n c → cOk T n (ctF T n f c)
  | 0, _, h => h
  | f + 1, c, h => by
    by_cases q : c.1.2.1 = 0 ∧ c.1.1 < n
    · rw [ctF_yes q]; exact ctF_ok f _ (cl1_ok h q.1).1
    · rw [ctF_no q]; exact h
theorem ct_ini : cOk T n ((skp T n 0, 0, -1), fun _ => []) := ⟨skp_in (Nat.zero_le _), skp_skp (Nat.zero_le _), Nat.zero_le _, fun k _ => ⟨Nat.zero_le _, fun i hi => absurd hi (Nat.not_lt_zero _)⟩⟩
theorem ctR_ok : cOk T n (ctR T n) := ctF_ok n _ ct_ini
end CP
section CCG
variable {T T' : Nat → Int32} {n : Nat}
theorem kdH_cg (h : bAt T n = bAt T' n) : kdH T n = kdH T' n := by
  funext q
  unfold kdH
  rw [wHere_cg h, isSl_cg h]
theorem cB_cg (h : bAt T n = bAt T' n) : cB T n = cB T' n := by
  funext N L k p
  unfold cB cB0 cB1 cB2 cB3 c1r
  rw [pNum_cg h, pBl_cg h, skp_cg h]
theorem cl1_cg (h : bAt T n = bAt T' n) : cl1 T n = cl1 T' n := by
  funext c
  unfold cl1 cl0 cE
  rw [kdH_cg h, cB_cg h, pSgn_cg h, pBl_cg h, swd_cg h]
theorem ctF_cg (h : bAt T n = bAt T' n) : ∀ f c, ctF T n f c = ctF T' n f c
  | 0, _ => rfl
  | f + 1, c => by
    unfold ctF
    rw [cl1_cg h, ctF_cg h f]
theorem ctR_cg (h : ∀ i, i < n → T i = T' i) : ctR T n = ctR T' n := by
  have hb := bAt_cg h
  unfold ctR
  rw [ctF_cg hb, skp_cg hb]
end CCG
