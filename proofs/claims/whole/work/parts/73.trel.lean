set_option maxRecDepth 100000
/-! THE TWO READINGS, SIDE BY SIDE -/
def xR (T : Nat → Int32) (n : Nat) (p : PS) (s : XS) : Prop := (p.1 ≤ n ∧ s.1 ≤ n) ∧ ((p.2.1 = 0 ∧ s.2.2.1 = 0 ∧ skp T n p.1 = skp T n s.1) ∨ (p.2.1 ≠ 0 ∧ s.2.2.1 = p.2.1 ∧ s.2.2.2 = p.2.2)) ∧ (s.2.2.1 = 0 → s.2.2.2 = -1)
section TR
variable {T : Nat → Int32} {n : Nat}
theorem skp_in {i : Nat} (h : i ≤ n) : skp T n i ≤ n := (skp_le (n - i) i (Nat.le_refl _) h).1
theorem skp_skp {i : Nat} (h : i ≤ n) : skp T n (skp T n i) = skp T n i := skp_no (skp_le (n - i) i (Nat.le_refl _) h).2.2
theorem xR_kd {p : PS} {s : XS} (h : xR T n p s) : (p.2.1 = 0 ↔ s.2.2.1 = 0) := by
  rcases h.2.1 with ⟨h1, h2, _⟩ | ⟨h1, h2, _⟩
  · exact ⟨fun _ => h2, fun _ => h1⟩
  · rw [h2]
theorem xR_bl {p : PS} {s : XS} (h : xR T n p s) : xR T n (pBl T n p) s := by
  refine ⟨⟨skp_in h.1.1, h.1.2⟩, ?_, h.2.2⟩
  rcases h.2.1 with ⟨h1, h2, h3⟩ | h1
  · exact Or.inl ⟨h1, h2, by show skp T n (skp T n p.1) = _; rw [skp_skp h.1.1]; exact h3⟩
  · exact Or.inr h1
theorem xR_lk {p : PS} {s : XS} (h : xR T n p s) : xR T n p (xLk T n s) := by
  refine ⟨⟨h.1.1, skp_in h.1.2⟩, ?_, h.2.2⟩
  rcases h.2.1 with ⟨h1, h2, h3⟩ | h1
  · exact Or.inl ⟨h1, h2, by show _ = skp T n (skp T n s.1); rw [skp_skp h.1.2]; exact h3⟩
  · exact Or.inr h1
theorem xR_wr {p : PS} {s : XS} (h : xR T n p s) {f : Int32} (hf : f ≠ 0) {x : Int32} (hx : x = nI s.2.1) : xR T n (pWr f x p) (xRf f s) := by
  by_cases q : p.2.1 = 0
  · have e1 : pWr f x p = (p.1, f, x) := if_pos q
    have e2 : xRf f s = (s.1, s.2.1, f, nI s.2.1) := ifp_t ((xR_kd h).mp q)
    rw [e1, e2]
    exact ⟨h.1, Or.inr ⟨hf, rfl, hx.symm⟩, fun z => absurd z hf⟩
  · have e1 : pWr f x p = p := if_neg q
    have e2 : xRf f s = s := ifp_f (fun z => q ((xR_kd h).mpr z))
    rw [e1, e2]
    exact h
theorem xR_sg {p : PS} {s : XS} (h : xR T n p s) {c : Int32} (hc : c ≠ -1) : xR T n (pSgn T n c p) (xSg T n c s) := by
  rcases id h.2.1 with ⟨h1, h2, h3⟩ | ⟨h1, h2, h3⟩
  · have e1 : pSgn T n c p = (if bAt T n (skp T n p.1) = c then (skp T n p.1 + 1, p.2) else pWr 1 (nI (skp T n p.1)) (pBl T n p)) := if_pos h1
    have e2 : xSg T n c s = ifp (bAt T n (skp T n s.1) = c) (xPs (xLk T n s)) (xRf 1 (xLk T n s)) := ifp_t h2
    rw [e1, e2, ← h3]
    by_cases q : bAt T n (skp T n p.1) = c
    · rw [if_pos q, ifp_t q]
      have hlt : skp T n p.1 < n := by
        by_cases z : skp T n p.1 < n
        · exact z
        · rw [bAt_end (by omega)] at q; exact absurd q.symm hc
      refine ⟨⟨hlt, ?_⟩, Or.inl ⟨h1, h2, ?_⟩, h.2.2⟩
      · show skp T n s.1 + 1 ≤ n
        omega
      · show skp T n (skp T n p.1 + 1) = skp T n (skp T n s.1 + 1)
        rw [h3]
    · rw [if_neg q, ifp_f q]
      exact xR_wr (xR_bl (xR_lk h)) (by decide) (by show nI (skp T n p.1) = nI (skp T n s.1); rw [h3])
  · have e1 : pSgn T n c p = p := if_neg h1
    have e2 : xSg T n c s = s := ifp_f (by rw [h2]; exact h1)
    rw [e1, e2]
    exact h
theorem dg_of {c : Int32} (h : isDg c) : ∃ e, e < 10 ∧ c = nI (48 + e) := by
  have h1 := (fa_le _ _).mp h.1
  have h2 := (fa_le _ _).mp h.2
  have e1 : (48 : Int32).toInt = 48 := rfl
  have e2 : (57 : Int32).toInt = 57 := rfl
  refine ⟨(c.toInt - 48).toNat, by omega, ?_⟩
  rw [fa_eq, nI_toInt (by omega)]
  omega
theorem nI_mul (a b : Nat) : nI a * nI b = nI (a * b) := (Int32.ofNat_mul a b).symm
theorem cap5_n {a e : Nat} (ha : a ≤ 100000) (he : e < 10) : cap5 (10 * nI a + nI (48 + e) - 48) = nI (min 100000 (10 * a + e)) := by
  rw [show (10 : Int32) = nI 10 from rfl, show (48 : Int32) = nI 48 from rfl, nI_mul, nI_add, nI_sub (by omega), show 10 * a + (48 + e) - 48 = 10 * a + e by omega]
  unfold cap5
  rw [show (100000 : Int32) = nI 100000 from rfl]
  have hq : nI (10 * a + e) ≤ nI 100000 ↔ 10 * a + e ≤ 100000 := nI_leI (by omega) (by decide)
  by_cases q : 10 * a + e ≤ 100000
  · rw [if_pos (hq.mpr q), Nat.min_eq_right q]
  · rw [if_neg (fun z => q (hq.mp z)), Nat.min_eq_left (by omega)]
theorem cp3_n {a e : Nat} (ha : a ≤ 1000) (he : e < 10) : cp3 (nI a * 10 + nI (48 + e) - 48) = nI (min 1000 (10 * a + e)) := by
  rw [show (10 : Int32) = nI 10 from rfl, show (48 : Int32) = nI 48 from rfl, nI_mul, nI_add, nI_sub (by omega), show a * 10 + (48 + e) - 48 = 10 * a + e by omega]
  unfold cp3
  rw [show (1000 : Int32) = nI 1000 from rfl]
  have hq : nI (10 * a + e) < nI 1000 ↔ 10 * a + e < 1000 := nI_ltI (by omega) (by decide)
  by_cases q : 10 * a + e < 1000
  · rw [if_pos (hq.mpr q), Nat.min_eq_right (by omega)]
  · rw [if_neg (fun z => q (hq.mp z)), Nat.min_eq_left (by omega)]
theorem dg_rel : ∀ (f i a : Nat), a ≤ 100000 → ∃ j a', a' ≤ 100000 ∧ dgs T n f i (nI a) = (j, nI a') ∧ dg3 T n f i (nI (min 1000 a)) = (j, nI (min 1000 a'))
  | 0, i, a, h => ⟨i, a, h, rfl, rfl⟩
  | f + 1, i, a, h => by
    by_cases q : isDg (bAt T n i)
    · obtain ⟨e, he, ee⟩ := dg_of q
      rw [dgs_yes q, dg3_yes q, ee, cap5_n h he, cp3_n (by omega) he]
      obtain ⟨j, a', h1, h2, h3⟩ := dg_rel f (i + 1) (min 100000 (10 * a + e)) (by omega)
      refine ⟨j, a', h1, h2, ?_⟩
      rw [← h3]
      congr 2
      omega
    · rw [dgs_no q, dg3_no q]
      exact ⟨i, a, h, rfl, rfl⟩
theorem xR_nm {p : PS} {s : XS} (h : xR T n p s) (lo : Int32) {hi : Int32} (hh : hi < 1000) : (pNum T n lo hi p).1 = (xNm T n lo hi s).1 ∧ xR T n (pNum T n lo hi p).2 (xNm T n lo hi s).2 := by
  rcases id h.2.1 with ⟨h1, h2, h3⟩ | ⟨h1, h2, h3⟩
  · obtain ⟨j, a, ha, e1, e2⟩ := dg_rel (T := T) (n := n) (n - skp T n p.1) (skp T n p.1) 0 (by omega)
    have hend := dgs_end (T := T) (n := n) (n - skp T n p.1) (skp T n p.1) (nI 0) (skp_in h.1.1)
    rw [e1] at hend
    have hj : j ≤ n := hend.2
    have eN : pNum T n lo hi p = pFin lo hi (skp T n p.1) (@ite PS (isDg (bAt T n (skp T n p.1))) (Classical.propDecidable _) (pBl T n p) (pWr 1 (nI (skp T n p.1)) (pBl T n p))).2 (dgs T n (n - skp T n p.1) (skp T n p.1) 0) := if_pos h1
    have eX : xNm T n lo hi s = ifp (isDg (bAt T n (skp T n s.1))) (xNf lo hi (xLk T n s) (dg3 T n (n - skp T n s.1) (skp T n s.1) 0)) (0, xRf 1 (xLk T n s)) := ifp_t h2
    rw [eN, eX, ← h3]
    have hxl := xR_bl (xR_lk h)
    have hmk : nI (skp T n p.1) = nI (xLk T n s).2.1 := by show _ = nI (skp T n s.1); rw [h3]
    by_cases q : isDg (bAt T n (skp T n p.1))
    · rw [if_pos q, ifp_t q]
      have e1' : dgs T n (n - skp T n p.1) (skp T n p.1) 0 = (j, nI a) := e1
      have e2' : dg3 T n (n - skp T n p.1) (skp T n p.1) 0 = (j, nI (min 1000 a)) := e2
      rw [e1', e2']
      have hb : (lo ≤ nI a ∧ nI a ≤ hi) ↔ (lo ≤ nI (min 1000 a) ∧ nI (min 1000 a) ≤ hi) := by
        have h1000 := (fa_lt _ _).mp hh
        have ek : (1000 : Int32).toInt = 1000 := rfl
        rw [fa_le, fa_le, fa_le, fa_le, nI_toInt (by omega), nI_toInt (by omega)]
        omega
      have hst : xR T n (j, p.2) (j, (xLk T n s).2) := ⟨⟨hj, hj⟩, Or.inl ⟨h1, h2, rfl⟩, h.2.2⟩
      by_cases u : lo ≤ nI a ∧ nI a ≤ hi
      · have hle : a ≤ 999 := by
          have h1000 := (fa_lt _ _).mp hh
          have ek : (1000 : Int32).toInt = 1000 := rfl
          have := (fa_le _ _).mp u.2
          rw [nI_toInt (by omega)] at this
          omega
        have f1 : pFin lo hi (skp T n p.1) (pBl T n p).2 (j, nI a) = (nI a, (j, p.2)) := by
          unfold pFin
          dsimp only
          rw [if_pos u]
          show (if p.2.1 = 0 then nI a else 0, (j, p.2)) = _
          rw [if_pos h1]
        have f2 : xNf lo hi (xLk T n s) (j, nI (min 1000 a)) = (nI (min 1000 a), (j, (xLk T n s).2)) := ifp_t (hb.mp u)
        rw [f1, f2]
        exact ⟨by show nI a = nI (min 1000 a); rw [Nat.min_eq_right (by omega)], hst⟩
      · have f1 : pFin lo hi (skp T n p.1) (pBl T n p).2 (j, nI a) = (0, pWr 2 (nI (skp T n p.1)) (j, p.2)) := by
          unfold pFin
          dsimp only
          rw [if_neg u]
          have : pWr 2 (nI (skp T n p.1)) (j, (pBl T n p).2) = (j, 2, nI (skp T n p.1)) := if_pos h1
          have this2 : pWr 2 (nI (skp T n p.1)) (j, p.2) = (j, 2, nI (skp T n p.1)) := if_pos h1
          rw [this, this2]
          rfl
        have f2 : xNf lo hi (xLk T n s) (j, nI (min 1000 a)) = (0, xRf 2 (j, (xLk T n s).2)) := ifp_f (fun z => u (hb.mpr z))
        rw [f1, f2]
        exact ⟨rfl, xR_wr hst (by decide) hmk⟩
    · rw [if_neg q, ifp_f q, dgs_no q]
      have f1 : pFin lo hi (skp T n p.1) (pWr 1 (nI (skp T n p.1)) (pBl T n p)).2 (skp T n p.1, 0) = (0, pWr 1 (nI (skp T n p.1)) (pBl T n p)) := by
        have e : pWr 1 (nI (skp T n p.1)) (pBl T n p) = (skp T n p.1, 1, nI (skp T n p.1)) := if_pos h1
        rw [e]
        unfold pFin
        dsimp only
        by_cases u : lo ≤ (0 : Int32) ∧ (0 : Int32) ≤ hi
        · rw [if_pos u]; rfl
        · rw [if_neg u]; rfl
      rw [f1]
      exact ⟨rfl, xR_wr hxl (by decide) hmk⟩
  · have e1 : pNum T n lo hi p = (0, p) := if_neg h1
    have e2 : xNm T n lo hi s = (0, s) := ifp_f (by rw [h2]; exact h1)
    rw [e1, e2]
    exact ⟨rfl, h⟩
end TR
