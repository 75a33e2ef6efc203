theorem mPS_4 (m : Mm) (s : PS) : mPS m s 0 4 = nI s.1 := mP3_4 _ _ _ _
theorem mPS_5 (m : Mm) (s : PS) : mPS m s 0 5 = s.2.1 := mP3_5 _ _ _ _
theorem mPS_6 (m : Mm) (s : PS) : mPS m s 0 6 = s.2.2 := mP3_6 _ _ _ _
theorem mPS_o (m : Mm) (s : PS) {x : Nat} (h : x ≠ 0) : mPS m s x = m x := mP3_o _ _ _ _ h
theorem mPS_f (m : Mm) (s : PS) {j : Nat} (h4 : j ≠ 4) (h5 : j ≠ 5) (h6 : j ≠ 6) : mPS m s 0 j = m 0 j := mP3_f _ _ _ _ h4 h5 h6
theorem mPS_s4 (m : Mm) (s : PS) (b : Nat) : mset (mPS m s) 0 4 (nI b) = mPS m (b, s.2) := mP3_s4 _ _ _ _ _
theorem mPS_at (m : Mm) {a : Nat} {f fa : Int32} (h4 : m 0 4 = nI a) (h5 : m 0 5 = f) (h6 : m 0 6 = fa) : m = mPS m (a, f, fa) := mP3_id m h4 h5 h6
def cap5 (x : Int32) : Int32 := if x ≤ 100000 then x else 100000
/-- the number whose digits stand from i on, and where it ends -/
noncomputable def dgs (T : Nat → Int32) (n : Nat) : Nat → Nat → Int32 → Nat × Int32
  | 0, i, v => (i, v)
  | f + 1, i, v => @ite _ (isDg (bAt T n i)) (Classical.propDecidable _) (dgs T n f (i + 1) (cap5 (10 * v + bAt T n i - 48))) (i, v)
theorem dgs_no {T : Nat → Int32} {n f i : Nat} {v : Int32} (h : ¬ isDg (bAt T n i)) : dgs T n f i v = (i, v) := by
  cases f with
  | zero => rfl
  | succ f => unfold dgs; rw [if_neg h]
theorem dgs_yes {T : Nat → Int32} {n f i : Nat} {v : Int32} (h : isDg (bAt T n i)) : dgs T n (f + 1) i v = dgs T n f (i + 1) (cap5 (10 * v + bAt T n i - 48)) := by
  conv => lhs; unfold dgs
  rw [if_pos h]
theorem dg_lt {T : Nat → Int32} {n i : Nat} (h : isDg (bAt T n i)) : i < n := by
  by_cases q : i < n
  · exact q
  · unfold isDg at h
    rw [bAt_end (by omega)] at h
    exact absurd h.1 (by decide)
theorem dgs_end {T : Nat → Int32} {n : Nat} : ∀ (f i : Nat) (v : Int32), i ≤ n → i ≤ (dgs T n f i v).1 ∧ (dgs T n f i v).1 ≤ n
  | 0, i, v, h => ⟨Nat.le_refl _, h⟩
  | f + 1, i, v, h => by
    by_cases q : isDg (bAt T n i)
    · rw [dgs_yes q]
      have h2 := dgs_end (T := T) (n := n) f (i + 1) (cap5 (10 * v + bAt T n i - 48)) (by have := dg_lt q; omega)
      exact ⟨by omega, h2.2⟩
    · rw [dgs_no q]
      exact ⟨Nat.le_refl _, h⟩
/-- the end of 'number': what was read is held against its bounds -/
noncomputable def pFin (lo hi : Int32) (b : Nat) (fs : Int32 × Int32) (r : Nat × Int32) : Int32 × PS :=
  let s4 : PS := @ite _ (lo ≤ r.2 ∧ r.2 ≤ hi) (Classical.propDecidable _) (r.1, fs) (pWr 2 (nI b) (r.1, fs))
  (if s4.2.1 = 0 then r.2 else 0, s4)
noncomputable def pNum (T : Nat → Int32) (n : Nat) (lo hi : Int32) (s : PS) : Int32 × PS :=
  if s.2.1 = 0 then
    pFin lo hi (skp T n s.1) (@ite PS (isDg (bAt T n (skp T n s.1))) (Classical.propDecidable _) (pBl T n s) (pWr 1 (nI (skp T n s.1)) (pBl T n s))).2 (dgs T n (n - skp T n s.1) (skp T n s.1) 0)
  else (0, s)
section R3
variable {l : Launch} {g : mG} {d : Nat}
theorem r_number_end (htr : l.stackTraces = false) (hd : 2 ≤ d) (o : Int64) (m : Mm) (lo hi v : Int32) (b i : Nat) (fs : Int32 × Int32) : mWB l g d k_X12_number (mΦi (pFin lo hi b fs (i, v)).1 (mPS m (pFin lo hi b fs (i, v)).2) o) 0 0 106 [.ref 0, .int lo, .int hi, .int (nI b), .int v] [] (mPS m (i, fs)) o 0 0 := by
  refine mGoOn (mOk (by decide)) rfl [] 400 ?_
  generalize hΦ : mΦi _ _ _ = Φ
  show mCal l g d k_X12_number Φ 0 0 _ 110 k_X12_in false [.int v, .int lo, .int hi] [] [.ref 0, .int lo, .int hi, .int (nI b), .int v] (mPS m (i, fs)) o 0 0 1
  refine mCi htr (q_in v lo hi _) (by omega) (Nat.le_refl _) (Nat.le_refl _) ?_
  show (¬ (pI (lo ≤ v ∧ v ≤ hi)) = 0 → (¬ ((mPS m (i, fs)) 0 5) = 0 → Φ (.inl (some (.int (0 : Int32)))) (mPS m (i, fs)) o ∧ 0 ≤ 0 ∧ 0 ≤ 0) ∧ (((mPS m (i, fs)) 0 5) = 0 → Φ (.inl (some (.int v))) (mPS m (i, fs)) o ∧ 0 ≤ 0 ∧ 0 ≤ 0)) ∧ ((pI (lo ≤ v ∧ v ≤ hi)) = 0 → True ∧ mCal l g d k_X12_number Φ 0 0 _ 119 k_X12_wrong false [.ref 0, .int (2 : Int32), .int (nI b)] [] [.ref 0, .int lo, .int hi, .int (nI b), .int v] (mPS m (i, fs)) o 0 0 0)
  subst hΦ
  refine ⟨fun h => ?_, fun h => ⟨trivial, ?_⟩⟩
  · have hin := pI_1.mp h
    have e : pFin lo hi b fs (i, v) = (if fs.1 = 0 then v else 0, (i, fs)) := by unfold pFin; rw [if_pos hin]
    rw [e, mPS_5]
    refine ⟨fun h0 => mDi ?_ rfl, fun h0 => mDi ?_ rfl⟩
    · show (0 : Int32) = if fs.1 = 0 then v else 0
      rw [if_neg h0]
    · show v = if fs.1 = 0 then v else 0
      rw [if_pos h0]
  · have hin := pI_0.mp h
    have e : pFin lo hi b fs (i, v) = (if (pWr 2 (nI b) (i, fs)).2.1 = 0 then v else 0, pWr 2 (nI b) (i, fs)) := by unfold pFin; rw [if_neg hin]
    rw [e]
    refine mCv htr (q_wrong 2 (nI b) m (i, fs)) (by omega) (Nat.le_refl _) (Nat.le_refl _) ?_
    generalize pWr 2 (nI b) (i, fs) = s4
    generalize hΦ : mΦi _ _ _ = Φ
    show (¬ ((mPS m s4) 0 5) = 0 → Φ (.inl (some (.int (0 : Int32)))) (mPS m s4) o ∧ 0 ≤ 0 ∧ 0 ≤ 0) ∧ (((mPS m s4) 0 5) = 0 → Φ (.inl (some (.int v))) (mPS m s4) o ∧ 0 ≤ 0 ∧ 0 ≤ 0)
    subst hΦ
    rw [mPS_5]
    exact ⟨fun h0 => mDi (by rw [if_neg h0]) rfl, fun h0 => mDi (by rw [if_pos h0]) rfl⟩
theorem r_number_loop (htr : l.stackTraces = false) (hd : 2 ≤ d) (o : Int64) {n : Nat} (m : Mm) (hs : m 0 2 = nI n) (hn : n ≤ 600) (lo hi : Int32) (b : Nat) (fs : Int32 × Int32) : ∀ (f i : Nat) (v : Int32), n - i ≤ f → i ≤ n → mWB l g d k_X12_number (mΦi (pFin lo hi b fs (dgs (m 1) n f i v)).1 (mPS m (pFin lo hi b fs (dgs (m 1) n f i v)).2) o) 0 0 44 [.ref 0, .int lo, .int hi, .int (nI b), .int v] [] (mPS m (i, fs)) o 0 0 := by
  intro f
  induction f with
  | zero =>
    intro i v hf hi2
    refine mGoOn (mOk (by decide)) rfl [106,44] 400 ?_
    generalize hΦ : mΦi _ _ _ = Φ
    show True ∧ mCal l g d k_X12_number Φ 0 0 _ 49 k_X12_byteAt false [.ref 0, .int ((mPS m (i, fs)) 0 4)] [] [.ref 0, .int lo, .int hi, .int (nI b), .int v] (mPS m (i, fs)) o 0 0 1
    refine ⟨trivial, ?_⟩
    rw [mPS_4]
    refine mCi htr (q_byteAt m (i, fs) hs hn (by omega)) (by omega) (Nat.le_refl _) (Nat.le_refl _) ?_
    have hnd : ¬ isDg (bAt (m 1) n i) := fun q => by have := dg_lt q; omega
    generalize bAt (m 1) n i = c at hnd ⊢
    show mCal l g d k_X12_number Φ 0 0 _ 52 k_X12_isDigit false [.int c] [] [.ref 0, .int lo, .int hi, .int (nI b), .int v] (mPS m (i, fs)) o 0 0 1
    refine mCi htr (q_isDigit c _) (by omega) (Nat.le_refl _) (Nat.le_refl _) ?_
    show ((pI (isDg c)) = 0 → mWB l g d k_X12_number Φ 0 0 106 [.ref 0, .int lo, .int hi, .int (nI b), .int v] [] (mPS m (i, fs)) o 0 0) ∧ (¬ (pI (isDg c)) = 0 → True ∧ mCal l g d k_X12_number Φ 0 0 _ 68 k_X12_byteAt false [.ref 0, .int ((mPS m (i, fs)) 0 4)] [.int ((10 : Int32) * v)] [.ref 0, .int lo, .int hi, .int (nI b), .int v] (mPS m (i, fs)) o 0 0 1)
    subst hΦ
    exact ⟨fun h => r_number_end htr hd o m lo hi v b i fs, fun h => absurd (pI_1.mp h) hnd⟩
  | succ f ih =>
    intro i v hf hi2
    refine mGoOn (mOk (by decide)) rfl [106,44] 400 ?_
    generalize hΦ : mΦi _ _ _ = Φ
    show True ∧ mCal l g d k_X12_number Φ 0 0 _ 49 k_X12_byteAt false [.ref 0, .int ((mPS m (i, fs)) 0 4)] [] [.ref 0, .int lo, .int hi, .int (nI b), .int v] (mPS m (i, fs)) o 0 0 1
    refine ⟨trivial, ?_⟩
    rw [mPS_4]
    refine mCi htr (q_byteAt m (i, fs) hs hn (by omega)) (by omega) (Nat.le_refl _) (Nat.le_refl _) ?_
    generalize hc : bAt (m 1) n i = c
    show mCal l g d k_X12_number Φ 0 0 _ 52 k_X12_isDigit false [.int c] [] [.ref 0, .int lo, .int hi, .int (nI b), .int v] (mPS m (i, fs)) o 0 0 1
    refine mCi htr (q_isDigit c _) (by omega) (Nat.le_refl _) (Nat.le_refl _) ?_
    show ((pI (isDg c)) = 0 → mWB l g d k_X12_number Φ 0 0 106 [.ref 0, .int lo, .int hi, .int (nI b), .int v] [] (mPS m (i, fs)) o 0 0) ∧ (¬ (pI (isDg c)) = 0 → True ∧ mCal l g d k_X12_number Φ 0 0 _ 68 k_X12_byteAt false [.ref 0, .int ((mPS m (i, fs)) 0 4)] [.int ((10 : Int32) * v)] [.ref 0, .int lo, .int hi, .int (nI b), .int v] (mPS m (i, fs)) o 0 0 1)
    refine ⟨fun h => ?_, fun h => ⟨trivial, ?_⟩⟩
    · have hnd := pI_0.mp h
      rw [dgs_no (by rw [hc]; exact hnd)] at hΦ
      subst hΦ
      exact r_number_end htr hd o m lo hi v b i fs
    · have hdg := pI_1.mp h
      have hlt : i < n := dg_lt (by rw [hc]; exact hdg)
      rw [mPS_4]
      refine mCi htr (q_byteAt m (i, fs) hs hn (by omega)) (by omega) (Nat.le_refl _) (Nat.le_refl _) ?_
      rw [hc]
      show ((((10 * v) + c) - (48 : Int32)) ≤ (100000 : Int32) → (Value.ref 0).category = 1 ∧ (mWB l g d k_X12_number Φ 0 0 44 [.ref 0, .int lo, .int hi, .int (nI b), .int (((10 * v) + c) - (48 : Int32))] [] (mset (mPS m (i, fs)) 0 4 (((mPS m (i, fs)) 0 4) + (1 : Int32))) o 0 0)) ∧ (¬ (((10 * v) + c) - (48 : Int32)) ≤ (100000 : Int32) → (Value.ref 0).category = 1 ∧ (mWB l g d k_X12_number Φ 0 0 44 [.ref 0, .int lo, .int hi, .int (nI b), .int (100000 : Int32)] [] (mset (mPS m (i, fs)) 0 4 (((mPS m (i, fs)) 0 4) + (1 : Int32))) o 0 0))
      rw [dgs_yes (by rw [hc]; exact hdg), hc] at hΦ
      have key : ∀ w : Int32, w = cap5 (10 * v + c - 48) → (Value.ref 0).category = 1 ∧ mWB l g d k_X12_number Φ 0 0 44 [.ref 0, .int lo, .int hi, .int (nI b), .int w] [] (mset (mPS m (i, fs)) 0 4 (mPS m (i, fs) 0 4 + (1 : Int32))) o 0 0 := by
        intro w hw
        refine ⟨rfl, ?_⟩
        rw [mPS_4, nI_1, mPS_s4, hw]
        subst hΦ
        exact ih (i + 1) _ (by omega) (by omega)
      refine ⟨fun h2 => key _ ?_, fun h2 => key _ ?_⟩
      · unfold cap5; rw [if_pos h2]
      · unfold cap5; rw [if_neg h2]
theorem r_number {n : Nat} (m : Mm) (s : PS) (hs : m 0 2 = nI n) (hn : n ≤ 600) (hi2 : s.1 ≤ n) (hd : 3 ≤ d) (lo hi : Int32) : mFi l g d k_X12_number [.ref 0, .int lo, .int hi] (mPS m s) (pNum (m 1) n lo hi s).1 (mPS m (pNum (m 1) n lo hi s).2) := by
  intro htr o
  refine mBody htr 2 rfl rfl rfl (by decide) rfl (mGoOn (mOk (by decide)) rfl [44] 400 ?_)
  generalize hΦ : mΦi _ _ _ = Φ
  show (((mPS m s) 0 5) = 0 → True ∧ mCal l g d k_X12_number Φ 0 0 _ 10 k_X12_blanks false [.ref 0] [] [.ref 0, .int lo, .int hi, mJ, mJ] (mPS m s) o 0 0 0) ∧ (¬ ((mPS m s) 0 5) = 0 → Φ (.inl (some (.int (0 : Int32)))) (mPS m s) o ∧ 0 ≤ 0 ∧ 0 ≤ 0)
  rw [mPS_5]
  refine ⟨fun h0 => ⟨trivial, ?_⟩, fun h0 => ?_⟩
  · refine mCv htr (q_blanks m s hs hn (by omega) (by omega)) (by omega) (Nat.le_refl _) (Nat.le_refl _) ?_
    show True ∧ mCal l g d k_X12_number Φ 0 0 _ 26 k_X12_byteAt false [.ref 0, .int ((mPS m (pBl (m 1) n s)) 0 4)] [] [.ref 0, .int lo, .int hi, .int ((mPS m (pBl (m 1) n s)) 0 4), .int (0 : Int32)] (mPS m (pBl (m 1) n s)) o 0 0 1
    refine ⟨trivial, ?_⟩
    rw [mPS_4]
    have hb := skp_le (T := m 1) (n := n) (n - s.1) s.1 (Nat.le_refl _) hi2
    have e : pNum (m 1) n lo hi s = pFin lo hi (skp (m 1) n s.1) (@ite PS (isDg (bAt (m 1) n (skp (m 1) n s.1))) (Classical.propDecidable _) (pBl (m 1) n s) (pWr 1 (nI (skp (m 1) n s.1)) (pBl (m 1) n s))).2 (dgs (m 1) n (n - skp (m 1) n s.1) (skp (m 1) n s.1) 0) := by unfold pNum; rw [if_pos h0]
    rw [e] at hΦ
    have hp1 : (pBl (m 1) n s).1 = skp (m 1) n s.1 := rfl
    refine mCi htr (q_byteAt m (pBl (m 1) n s) hs hn (i := skp (m 1) n s.1) (by omega)) (by omega) (Nat.le_refl _) (Nat.le_refl _) ?_
    show mCal l g d k_X12_number Φ 0 0 _ 29 k_X12_isDigit false [.int (bAt (m 1) n (skp (m 1) n s.1))] [] [.ref 0, .int lo, .int hi, .int (nI (skp (m 1) n s.1)), .int (0 : Int32)] (mPS m (pBl (m 1) n s)) o 0 0 1
    refine mCi htr (q_isDigit _ _) (by omega) (Nat.le_refl _) (Nat.le_refl _) ?_
    show (¬ (pI (isDg (bAt (m 1) n (skp (m 1) n s.1)))) = 0 → mWB l g d k_X12_number Φ 0 0 44 [.ref 0, .int lo, .int hi, .int (nI (skp (m 1) n s.1)), .int (0 : Int32)] [] (mPS m (pBl (m 1) n s)) o 0 0) ∧ ((pI (isDg (bAt (m 1) n (skp (m 1) n s.1)))) = 0 → True ∧ mCal l g d k_X12_number Φ 0 0 _ 41 k_X12_wrong false [.ref 0, .int (1 : Int32), .int ((mPS m (pBl (m 1) n s)) 0 4)] [] [.ref 0, .int lo, .int hi, .int (nI (skp (m 1) n s.1)), .int (0 : Int32)] (mPS m (pBl (m 1) n s)) o 0 0 0)
    refine ⟨fun h1 => ?_, fun h1 => ⟨trivial, ?_⟩⟩
    · rw [if_pos (pI_1.mp h1)] at hΦ
      subst hΦ
      exact r_number_loop htr (by omega) o m hs hn lo hi _ (pBl (m 1) n s).2 _ _ 0 (Nat.le_refl _) hb.1
    · rw [if_neg (pI_0.mp h1)] at hΦ
      rw [mPS_4]
      refine mCv htr (q_wrong 1 (nI (skp (m 1) n s.1)) m (pBl (m 1) n s)) (by omega) (Nat.le_refl _) (Nat.le_refl _) ?_
      have e3 : pWr 1 (nI (skp (m 1) n s.1)) (pBl (m 1) n s) = (skp (m 1) n s.1, (pWr 1 (nI (skp (m 1) n s.1)) (pBl (m 1) n s)).2) := Prod.ext (pWr_a _ _ _) rfl
      show mWB l g d k_X12_number Φ 0 0 44 [.ref 0, .int lo, .int hi, .int (nI (skp (m 1) n s.1)), .int 0] [] (mPS m (pWr 1 (nI (skp (m 1) n s.1)) (pBl (m 1) n s))) o 0 0
      subst hΦ
      rw [e3]
      exact r_number_loop htr (by omega) o m hs hn lo hi _ _ _ _ 0 (Nat.le_refl _) hb.1
  · subst hΦ
    have e : pNum (m 1) n lo hi s = (0, s) := by unfold pNum; rw [if_neg h0]
    rw [e]
    exact mDi rfl rfl
end R3
