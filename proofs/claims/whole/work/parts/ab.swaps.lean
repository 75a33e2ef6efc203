set_option maxRecDepth 100000
/-! WHAT CHANGES BOTH -/
def pK (l : Launch) (g : mG) (d kL kR : Nat) (aL aR : List Value) (m : Mm) : Prop := ∃ Ψ : Int32 → Mm → Prop, mHi l g d kL aL m Ψ ∧ ∀ r m1, Ψ r m1 → mHi l g d kR aR m1 (fun v m2 => v = r ∧ Rl (cl m2))
def exB' (C A : Mm) : Mm := fun a => if a < 586 then C a else A a
theorem xb_lo {C A : Mm} {a : Nat} (h : a < 586) : exB' C A a = C a := if_pos h
theorem xb_hi {C A : Mm} {a : Nat} (h : 586 ≤ a) : exB' C A a = A a := if_neg (by omega)
theorem cl_row {m m1 : Mm} {a : Nat} (h : m1 a = m a) : cl m1 a = cl m a := by
  funext i
  show (bif sc a i then 0 else m1 a i) = (bif sc a i then 0 else m a i)
  rw [h]
section SW
variable {A m m1 C : Mm}
theorem sw_k (hm : cl m = A) (hC : ∀ a, 586 ≤ a → C a = cl m1 a) (a : Nat) (h : m1 a = m a) : C a = exB' C A a := by
  by_cases z : a < 586
  · rw [xb_lo z]
  · rw [xb_hi (by omega), hC a (by omega), cl_row h, hm]
theorem sw_C (hC : ∀ a, 586 ≤ a → C a = cl m1 a) {a : Nat} (h1 : 586 ≤ a) (h2 : a ≤ 601 ∨ 604 ≤ a ∧ a ≤ 695 ∨ 707 ≤ a) : C a = m1 a := by
  rw [hC a h1]
  exact (clF rfl (by omega)).symm
theorem sw_B (hm : cl m = A) {a : Nat} (h1 : 586 ≤ a) (h2 : a ≤ 601 ∨ 604 ≤ a ∧ a ≤ 695 ∨ 707 ≤ a) : exB' C A a = m a := by
  rw [xb_hi h1]
  exact (clF hm (by omega)).symm
/-- the reference's frame, seen from A -/
theorem sw_f (lo : ∀ a, a < 586 → cl m1 a = A a) {P : Nat → Prop} (h : ∀ a, P a → C a = cl m1 a) (a : Nat) (q : P a) : exB' C A a = A a := by
  by_cases z : a < 586
  · rw [xb_lo z, h a q, lo a z]
  · exact xb_hi (by omega)
theorem sw_lo (hm : cl m = A) (h : ∀ a, a < 586 → m1 a = m a) (a : Nat) (z : a < 586) : cl m1 a = A a := by rw [cl_row (h a z), hm]
/-- what Rl says of the tape -/
theorem Rl_tp (hR : Rl A) (hm : cl m = A) : ∃ s, nTp A = s ∧ s ≤ 600 ∧ A 0 1 = nI s ∧ m 587 1 = nI s ∧ (∀ i, i < s → m 588 i = A 1 i) ∧ (∀ i, i < s → m 588 i ≠ -1) ∧ ∀ i, i < s → A 1 i ≠ -1 := by
  obtain ⟨h1, h2, h3, h4⟩ := hR.2.2.2.2.1
  have ne : ∀ i, i < nTp A → A 1 i ≠ -1 := fun i hi => by
    obtain ⟨j, hj, e⟩ := (h4 i hi).2
    rw [e]
    intro z
    have : (nI j).toInt = (-1 : Int32).toInt := by rw [z]
    rw [nI_toInt (by omega)] at this
    exact absurd this (by show ¬ (j : Int) = -1; omega)
  have e8 : m 588 = A 588 := clF hm (by omega)
  exact ⟨_, rfl, h1, h2, by rw [clF hm (a := 587) (by omega)]; exact h3, fun i hi => by rw [e8]; exact (h4 i hi).1, fun i hi => by rw [e8, (h4 i hi).1]; exact ne i hi, ne⟩
theorem cl_586 (m : Mm) (v : Int32) : cl (mset m 586 16 v) = mset (cl m) 586 16 v := by
  funext a i
  by_cases z : a = 586
  · subst z
    show (bif sc 586 i then 0 else mset m 586 16 v 586 i) = _
    rw [show sc 586 i = false from rfl]
    show mset m 586 16 v 586 i = mset (cl m) 586 16 v 586 i
    rw [mset_eq, mset_eq, clF (m := m) rfl (a := 586) (by omega)]
  · have e : mset m 586 16 v a = m a := mset_ne _ _ _ z
    rw [mset_ne _ _ _ z, cl_row e]
theorem sw_bad (hm : cl m = A) : cl (mset m 586 16 (m 586 16 + 1)) = cN1 A 1 := by
  rw [cl_586, hm, clF hm (a := 586) (by omega)]
  rfl
end SW
section SP
variable {l : Launch} {g : mG} {d : Nat} {m A : Mm}
theorem p_feed (hR : Rl A) (hm : cl m = A) (hd : 60 ≤ d) (p0 p1 p2 p3 p4 : Int32) : pK l g d k_X11_feed k_X12_feed [.ref 586, .int p0, .int p1, .int p2, .int p3, .int p4] [.ref 0, .int p0, .int p1, .int p2, .int p3, .int p4] m := by
  obtain ⟨s, es, h6, hs, hs', hT, -, -⟩ := Rl_tp hR hm
  refine ⟨_, x_feed hs' h6 (by omega) p0 p1 p2 p3 p4, ?_⟩
  rintro r m1 ⟨q1, q2⟩
  by_cases z : s ≤ 580
  · obtain ⟨rfl, hX⟩ := q2 z
    have lo := sw_lo hm (fun a ha => hX.1 a (by omega) (by omega))
    refine mHi_mono (r_feed (A := cl m1) rfl (s := s) (by rw [lo 0 (by decide)]; exact hs) h6 p0 p1 p2 p3 p4) (fun v m2 q => ?_)
    obtain ⟨rfl, -, hU⟩ := q.2 z
    refine ⟨rfl, ?_⟩
    generalize cl m2 = C at hU
    have hC : ∀ a, 586 ≤ a → C a = cl m1 a := fun a ha => hU.1 a (by omega) (by omega)
    refine Rl_feed (B := exB' C A) hR es z (fdb_In p0 p1 p2 p3 p4) ?_ ?_
    · obtain ⟨u1, u2, u3, u4, u5⟩ := hU
      refine ⟨fun a a1 a2 => sw_f lo (P := fun a => a ≠ 0 ∧ a ≠ 1) (fun a q => u1 a q.1 q.2) a ⟨a1, a2⟩, fun i hi => ?_, ?_, fun j hj => ?_, fun j hj => ?_⟩
      · rw [xb_lo (by decide), u2 i hi, lo 0 (by decide)]
      · rw [xb_lo (by decide)]; exact u3
      · rw [xb_lo (by decide), u4 j hj, lo 1 (by decide)]
      · rw [xb_lo (by decide)]; exact u5 j hj
    · obtain ⟨x1, x2, x3, x4, x5⟩ := hX
      have c7 : C 587 = m1 587 := sw_C hC (by decide) (by decide)
      have c8 : C 588 = m1 588 := sw_C hC (by decide) (by decide)
      have b7 : exB' C A 587 = m 587 := sw_B hm (by decide) (by decide)
      have b8 : exB' C A 588 = m 588 := sw_B hm (by decide) (by decide)
      refine ⟨fun a a1 a2 => sw_k hm hC a (x1 a a1 a2), fun i hi => ?_, ?_, fun j hj => ?_, fun j hj => ?_⟩
      · rw [c7, b7]; exact x2 i hi
      · rw [c7]; exact x3
      · rw [c8, b8]; exact x4 j hj
      · rw [c8]; exact x5 j hj
  · obtain ⟨rfl, rfl⟩ := q1 (by omega)
    refine mHi_mono (r_feed hm hs h6 p0 p1 p2 p3 p4) (fun v m2 q => ?_)
    obtain ⟨rfl, hU⟩ := q.1 (by omega)
    exact ⟨rfl, by rw [hU.1]; exact hR⟩
end SP
