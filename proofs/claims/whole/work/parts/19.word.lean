/-- the run of small letters from b on: how many, and the first six as a number to the base 27 -/
noncomputable def wdl (T : Nat → Int32) (n b : Nat) : Nat → Nat → Int32 → Nat × Int32
  | 0, k, v => (k, v)
  | f + 1, k, v => @ite _ (isSm (bAt T n (b + k))) (Classical.propDecidable _) (wdl T n b f (k + 1) (if k < 6 then 27 * v + bAt T n (b + k) - 97 + 1 else v)) (k, v)
theorem wdl_no {T : Nat → Int32} {n b f k : Nat} {v : Int32} (h : ¬ isSm (bAt T n (b + k))) : wdl T n b f k v = (k, v) := by
  cases f with
  | zero => rfl
  | succ f => unfold wdl; rw [if_neg h]
theorem wdl_yes {T : Nat → Int32} {n b f k : Nat} {v : Int32} (h : isSm (bAt T n (b + k))) : wdl T n b (f + 1) k v = wdl T n b f (k + 1) (if k < 6 then 27 * v + bAt T n (b + k) - 97 + 1 else v) := by
  conv => lhs; unfold wdl
  rw [if_pos h]
theorem sm_lt {T : Nat → Int32} {n i : Nat} (h : isSm (bAt T n i)) : i < n := by
  by_cases q : i < n
  · exact q
  · unfold isSm at h
    rw [bAt_end (by omega)] at h
    exact absurd h.1 (by decide)
noncomputable def wHere (T : Nat → Int32) (n b : Nat) : Int32 := if (wdl T n b (n - b) 0 0).1 ≤ 6 then (wdl T n b (n - b) 0 0).2 else -1
def six6 (a b c d e f : Int32) : Int32 :=
  let v := 27 * (27 * a + b) + c
  let v := if d = 0 then v else 27 * v + d
  let v := if e = 0 then v else 27 * v + e
  if f = 0 then v else 27 * v + f
/-- the place behind the run of small letters from i on -/
noncomputable def swd (T : Nat → Int32) (n : Nat) : Nat → Nat → Nat
  | 0, i => i
  | f + 1, i => @ite _ (isSm (bAt T n i)) (Classical.propDecidable _) (swd T n f (i + 1)) i
theorem swd_no {T : Nat → Int32} {n f i : Nat} (h : ¬ isSm (bAt T n i)) : swd T n f i = i := by
  cases f with
  | zero => rfl
  | succ f => unfold swd; rw [if_neg h]
theorem swd_yes {T : Nat → Int32} {n f i : Nat} (h : isSm (bAt T n i)) : swd T n (f + 1) i = swd T n f (i + 1) := by
  conv => lhs; unfold swd
  rw [if_pos h]
theorem swd_le {T : Nat → Int32} {n : Nat} : ∀ (f i : Nat), i ≤ n → i ≤ swd T n f i ∧ swd T n f i ≤ n
  | 0, i, h => ⟨Nat.le_refl _, h⟩
  | f + 1, i, h => by
    by_cases q : isSm (bAt T n i)
    · rw [swd_yes q]
      have h2 := swd_le (T := T) (n := n) f (i + 1) (by have := sm_lt q; omega)
      exact ⟨by omega, h2.2⟩
    · rw [swd_no q]
      exact ⟨Nat.le_refl _, h⟩
noncomputable def pSkw (T : Nat → Int32) (n : Nat) (s : PS) : PS := (swd T n (n - s.1) s.1, s.2)
noncomputable def pIsW (T : Nat → Int32) (n : Nat) (w : Int32) (s : PS) : Int32 × PS := if s.2.1 = 0 then (pI (wHere T n (skp T n s.1) = w), pBl T n s) else (0, s)
noncomputable def pSgn (T : Nat → Int32) (n : Nat) (c : Int32) (s : PS) : PS := if s.2.1 = 0 then (if bAt T n (skp T n s.1) = c then (skp T n s.1 + 1, s.2) else pWr 1 (nI (skp T n s.1)) (pBl T n s)) else s
noncomputable def pTks (T : Nat → Int32) (n : Nat) (c : Int32) (s : PS) : Int32 × PS := if s.2.1 = 0 then (if bAt T n (skp T n s.1) = c then (1, (skp T n s.1 + 1, s.2)) else (0, pBl T n s)) else (0, s)
section R4
variable {l : Launch} {g : mG} {d : Nat}
theorem r_wordHere_loop (htr : l.stackTraces = false) (hd : 2 ≤ d) (o : Int64) {n : Nat} (m : Mm) (s : PS) (hs : m 0 2 = nI n) (hn : n ≤ 600) (hi2 : s.1 ≤ n) : ∀ (f k : Nat) (v : Int32), n - (s.1 + k) ≤ f → s.1 + k ≤ n → mWB l g d k_X12_wordHere (mΦi (if (wdl (m 1) n s.1 f k v).1 ≤ 6 then (wdl (m 1) n s.1 f k v).2 else -1) (mPS m s) o) 0 0 8 [.ref 0, .int v, .int (nI k)] [] (mPS m s) o 0 0 := by
  have hend : ∀ (k : Nat) (v : Int32), k ≤ 600 → mwp l g d k_X12_wordHere (mΦi (if k ≤ 6 then v else -1) (mPS m s) o) 0 0 mC_X12_wordHere [8] 200 61 [.ref 0, .int v, .int (nI k)] [] (mPS m s) o 0 0 := by
    intro k v hk
    generalize hΦ : mΦi _ _ _ = Φ
    show ((nI k) ≤ (6 : Int32) → Φ (.inl (some (.int v))) (mPS m s) o ∧ 0 ≤ 0 ∧ 0 ≤ 0) ∧ (¬ (nI k) ≤ (6 : Int32) → Φ (.inl (some (.int (-1 : Int32)))) (mPS m s) o ∧ 0 ≤ 0 ∧ 0 ≤ 0)
    subst hΦ
    refine ⟨fun h => mDi ?_ rfl, fun h => mDi ?_ rfl⟩
    · rw [if_pos ((nI_leI (by omega) (by decide)).mp h)]
    · rw [if_neg (fun q => h ((nI_leI (by omega) (by decide)).mpr q))]
  have hend2 : ∀ (k : Nat) (v : Int32), k ≤ 600 → mWB l g d k_X12_wordHere (mΦi (if k ≤ 6 then v else -1) (mPS m s) o) 0 0 61 [.ref 0, .int v, .int (nI k)] [] (mPS m s) o 0 0 := fun k v hk => mwp_sound (mOk (by decide)) rfl _ _ _ _ _ _ _ _ (hend k v hk)
  intro f
  induction f with
  | zero =>
    intro k v hf hk
    refine mGoOn (mOk (by decide)) rfl [8,61] 400 ?_
    generalize hΦ : mΦi _ _ _ = Φ
    show True ∧ mCal l g d k_X12_wordHere Φ 0 0 _ 15 k_X12_byteAt false [.ref 0, .int (((mPS m s) 0 4) + (nI k))] [] [.ref 0, .int v, .int (nI k)] (mPS m s) o 0 0 1
    refine ⟨trivial, ?_⟩
    rw [mPS_4, nI_add]
    refine mCi htr (q_byteAt m s hs hn (by omega)) (by omega) (Nat.le_refl _) (Nat.le_refl _) ?_
    have hnd : ¬ isSm (bAt (m 1) n (s.1 + k)) := fun q => by have := sm_lt q; omega
    generalize bAt (m 1) n (s.1 + k) = c at hnd ⊢
    show mCal l g d k_X12_wordHere Φ 0 0 _ 18 k_X12_isSmall false [.int c] [] [.ref 0, .int v, .int (nI k)] (mPS m s) o 0 0 1
    refine mCi htr (q_isSmall c _) (by omega) (Nat.le_refl _) (Nat.le_refl _) ?_
    show ((pI (isSm c)) = 0 → mWB l g d k_X12_wordHere Φ 0 0 61 [.ref 0, .int v, .int (nI k)] [] (mPS m s) o 0 0) ∧ (¬ (pI (isSm c)) = 0 → ((6 : Int32) ≤ (nI k) → mWB l g d k_X12_wordHere Φ 0 0 8 [.ref 0, .int v, .int ((nI k) + (1 : Int32))] [] (mPS m s) o 0 0) ∧ (¬ (6 : Int32) ≤ (nI k) → True ∧ mCal l g d k_X12_wordHere Φ 0 0 _ 41 k_X12_byteAt false [.ref 0, .int (((mPS m s) 0 4) + (nI k))] [.int ((27 : Int32) * v)] [.ref 0, .int v, .int (nI k)] (mPS m s) o 0 0 1))
    subst hΦ
    exact ⟨fun h => hend2 k v (by omega), fun h => absurd (pI_1.mp h) hnd⟩
  | succ f ih =>
    intro k v hf hk
    refine mGoOn (mOk (by decide)) rfl [8,61] 400 ?_
    generalize hΦ : mΦi _ _ _ = Φ
    show True ∧ mCal l g d k_X12_wordHere Φ 0 0 _ 15 k_X12_byteAt false [.ref 0, .int (((mPS m s) 0 4) + (nI k))] [] [.ref 0, .int v, .int (nI k)] (mPS m s) o 0 0 1
    refine ⟨trivial, ?_⟩
    rw [mPS_4, nI_add]
    refine mCi htr (q_byteAt m s hs hn (by omega)) (by omega) (Nat.le_refl _) (Nat.le_refl _) ?_
    generalize hc : bAt (m 1) n (s.1 + k) = c
    show mCal l g d k_X12_wordHere Φ 0 0 _ 18 k_X12_isSmall false [.int c] [] [.ref 0, .int v, .int (nI k)] (mPS m s) o 0 0 1
    refine mCi htr (q_isSmall c _) (by omega) (Nat.le_refl _) (Nat.le_refl _) ?_
    show ((pI (isSm c)) = 0 → mWB l g d k_X12_wordHere Φ 0 0 61 [.ref 0, .int v, .int (nI k)] [] (mPS m s) o 0 0) ∧ (¬ (pI (isSm c)) = 0 → ((6 : Int32) ≤ (nI k) → mWB l g d k_X12_wordHere Φ 0 0 8 [.ref 0, .int v, .int ((nI k) + (1 : Int32))] [] (mPS m s) o 0 0) ∧ (¬ (6 : Int32) ≤ (nI k) → True ∧ mCal l g d k_X12_wordHere Φ 0 0 _ 41 k_X12_byteAt false [.ref 0, .int (((mPS m s) 0 4) + (nI k))] [.int ((27 : Int32) * v)] [.ref 0, .int v, .int (nI k)] (mPS m s) o 0 0 1))
    refine ⟨fun h => ?_, fun h => ?_⟩
    · rw [wdl_no (by rw [hc]; exact pI_0.mp h)] at hΦ
      subst hΦ
      exact hend2 k v (by omega)
    · have hsm := pI_1.mp h
      have hlt : s.1 + k < n := sm_lt (by rw [hc]; exact hsm)
      rw [wdl_yes (by rw [hc]; exact hsm), hc] at hΦ
      have key : ∀ w : Int32, w = (if k < 6 then 27 * v + c - 97 + 1 else v) → mWB l g d k_X12_wordHere Φ 0 0 8 [.ref 0, .int w, .int (nI k + 1)] [] (mPS m s) o 0 0 := by
        intro w hw
        rw [nI_1, hw]
        subst hΦ
        exact ih (k + 1) _ (by omega) (by omega)
      refine ⟨fun h2 => key _ ?_, fun h2 => ⟨trivial, ?_⟩⟩
      · rw [if_neg (fun q => by have := (nI_leI (a := 6) (b := k) (by omega) (by omega)).mp h2; omega)]
      · rw [mPS_4, nI_add]
        refine mCi htr (q_byteAt m s hs hn (by omega)) (by omega) (Nat.le_refl _) (Nat.le_refl _) ?_
        rw [hc]
        refine key (27 * v + c - 97 + 1) ?_
        rw [if_pos (by
          by_cases q : k < 6
          · exact q
          · exact absurd ((nI_leI (a := 6) (b := k) (by omega) (by omega)).mpr (by omega)) h2)]
theorem r_wordHere {n : Nat} (m : Mm) (s : PS) (hs : m 0 2 = nI n) (hn : n ≤ 600) (hi2 : s.1 ≤ n) (hd : 3 ≤ d) : mFi l g d k_X12_wordHere [.ref 0] (mPS m s) (wHere (m 1) n (skp (m 1) n s.1)) (mPS m (pBl (m 1) n s)) := by
  intro htr o
  refine mBody htr 2 rfl rfl rfl (by decide) rfl (mGoOn (mOk (by decide)) rfl [8] 400 ?_)
  generalize hΦ : mΦi _ _ _ = Φ
  show True ∧ mCal l g d k_X12_wordHere Φ 0 0 _ 1 k_X12_blanks false [.ref 0] [] [.ref 0, mJ, mJ] (mPS m s) o 0 0 0
  refine ⟨trivial, ?_⟩
  refine mCv htr (q_blanks m s hs hn (by omega) (by omega)) (by omega) (Nat.le_refl _) (Nat.le_refl _) ?_
  subst hΦ
  have hb := skp_le (T := m 1) (n := n) (n - s.1) s.1 (Nat.le_refl _) hi2
  exact r_wordHere_loop htr (by omega) o m (pBl (m 1) n s) hs hn hb.1 (n - skp (m 1) n s.1) 0 0 (Nat.le_refl _) hb.1
theorem r_six (a b c e f h : Int32) (m : Mm) : mFi l g d k_X12_six [.int a, .int b, .int c, .int e, .int f, .int h] m (six6 a b c e f h) m := by
  intro htr o
  refine mBody htr 1 rfl rfl rfl (by decide) rfl (mGoOn (mOk (by decide)) rfl [] 400 ?_)
  generalize hΦ : mΦi _ _ _ = Φ
  show (¬ e = 0 → (¬ f = 0 → (¬ h = 0 → Φ (.inl (some (.int (((27 : Int32) * (((27 : Int32) * (((27 : Int32) * (((27 : Int32) * (((27 : Int32) * a) + b)) + c)) + e)) + f)) + h)))) m o ∧ 0 ≤ 0 ∧ 0 ≤ 0) ∧ (h = 0 → Φ (.inl (some (.int (((27 : Int32) * (((27 : Int32) * (((27 : Int32) * (((27 : Int32) * a) + b)) + c)) + e)) + f)))) m o ∧ 0 ≤ 0 ∧ 0 ≤ 0)) ∧ (f = 0 → (¬ h = 0 → Φ (.inl (some (.int (((27 : Int32) * (((27 : Int32) * (((27 : Int32) * (((27 : Int32) * a) + b)) + c)) + e)) + h)))) m o ∧ 0 ≤ 0 ∧ 0 ≤ 0) ∧ (h = 0 → Φ (.inl (some (.int (((27 : Int32) * (((27 : Int32) * (((27 : Int32) * a) + b)) + c)) + e)))) m o ∧ 0 ≤ 0 ∧ 0 ≤ 0))) ∧ (e = 0 → (¬ f = 0 → (¬ h = 0 → Φ (.inl (some (.int (((27 : Int32) * (((27 : Int32) * (((27 : Int32) * (((27 : Int32) * a) + b)) + c)) + f)) + h)))) m o ∧ 0 ≤ 0 ∧ 0 ≤ 0) ∧ (h = 0 → Φ (.inl (some (.int (((27 : Int32) * (((27 : Int32) * (((27 : Int32) * a) + b)) + c)) + f)))) m o ∧ 0 ≤ 0 ∧ 0 ≤ 0)) ∧ (f = 0 → (¬ h = 0 → Φ (.inl (some (.int (((27 : Int32) * (((27 : Int32) * (((27 : Int32) * a) + b)) + c)) + h)))) m o ∧ 0 ≤ 0 ∧ 0 ≤ 0) ∧ (h = 0 → Φ (.inl (some (.int (((27 : Int32) * (((27 : Int32) * a) + b)) + c)))) m o ∧ 0 ≤ 0 ∧ 0 ≤ 0)))
  subst hΦ
  unfold six6
  refine ⟨fun h1 => ⟨fun h2 => ⟨fun h3 => mDi ?_ rfl, fun h3 => mDi ?_ rfl⟩, fun h2 => ⟨fun h3 => mDi ?_ rfl, fun h3 => mDi ?_ rfl⟩⟩, fun h1 => ⟨fun h2 => ⟨fun h3 => mDi ?_ rfl, fun h3 => mDi ?_ rfl⟩, fun h2 => ⟨fun h3 => mDi ?_ rfl, fun h3 => mDi ?_ rfl⟩⟩⟩ <;> simp [h1, h2, h3]
theorem r_isWord {n : Nat} (m : Mm) (s : PS) (hs : m 0 2 = nI n) (hn : n ≤ 600) (hi2 : s.1 ≤ n) (hd : 4 ≤ d) (a b c e f h : Int32) : mFi l g d k_X12_isWord [.ref 0, .int a, .int b, .int c, .int e, .int f, .int h] (mPS m s) (pIsW (m 1) n (six6 a b c e f h) s).1 (mPS m (pIsW (m 1) n (six6 a b c e f h) s).2) := by
  intro htr o
  refine mBody htr 0 rfl rfl rfl (by decide) rfl (mGoOn (mOk (by decide)) rfl [] 400 ?_)
  generalize hΦ : mΦi _ _ _ = Φ
  show (¬ ((mPS m s) 0 5) = 0 → ((0 : Int32) = 0 ∨ (0 : Int32) = 1) ∧ Φ (.inl (some (.int (0 : Int32)))) (mPS m s) o ∧ 0 ≤ 0 ∧ 0 ≤ 0) ∧ (((mPS m s) 0 5) = 0 → True ∧ mCal l g d k_X12_isWord Φ 0 0 _ 8 k_X12_wordHere false [.ref 0] [] [.ref 0, .int a, .int b, .int c, .int e, .int f, .int h] (mPS m s) o 0 0 1)
  rw [mPS_5]
  refine ⟨fun h0 => ?_, fun h0 => ⟨trivial, ?_⟩⟩
  · subst hΦ
    unfold pIsW
    rw [if_neg h0]
    exact mDb (Or.inl rfl) rfl rfl
  · refine mCi htr (r_wordHere m s hs hn hi2 (by omega)) (by omega) (Nat.le_refl _) (Nat.le_refl _) ?_
    generalize hw : wHere (m 1) n (skp (m 1) n s.1) = w
    show mCal l g d k_X12_isWord Φ 0 0 _ 20 k_X12_six false [.int a, .int b, .int c, .int e, .int f, .int h] [.int w] [.ref 0, .int a, .int b, .int c, .int e, .int f, .int h] (mPS m (pBl (m 1) n s)) o 0 0 1
    refine mCi htr (r_six a b c e f h _) (by omega) (Nat.le_refl _) (Nat.le_refl _) ?_
    show (¬ w = (six6 a b c e f h) → ((0 : Int32) = 0 ∨ (0 : Int32) = 1) ∧ Φ (.inl (some (.int (0 : Int32)))) (mPS m (pBl (m 1) n s)) o ∧ 0 ≤ 0 ∧ 0 ≤ 0) ∧ (w = (six6 a b c e f h) → ((1 : Int32) = 0 ∨ (1 : Int32) = 1) ∧ Φ (.inl (some (.int (1 : Int32)))) (mPS m (pBl (m 1) n s)) o ∧ 0 ≤ 0 ∧ 0 ≤ 0)
    subst hΦ
    unfold pIsW
    rw [if_pos h0, hw]
    exact ⟨fun h1 => mDb (Or.inl rfl) (pI_f h1).symm rfl, fun h1 => mDb (Or.inr rfl) (pI_t h1).symm rfl⟩
theorem r_skipWord_loop (htr : l.stackTraces = false) (hd : 2 ≤ d) (o : Int64) {n : Nat} (m : Mm) (fs : Int32 × Int32) (hs : m 0 2 = nI n) (hn : n ≤ 600) : ∀ (f i : Nat), n - i ≤ f → i ≤ n → mWB l g d k_X12_skipWord (mΦv (mPS m (swd (m 1) n f i, fs)) o) 0 0 0 [.ref 0] [] (mPS m (i, fs)) o 0 0 := by
  intro f
  induction f with
  | zero =>
    intro i hf hi2
    refine mGoOn (mOk (by decide)) rfl [0] 400 ?_
    generalize hΦ : mΦv _ _ = Φ
    show True ∧ mCal l g d k_X12_skipWord Φ 0 0 _ 5 k_X12_byteAt false [.ref 0, .int ((mPS m (i, fs)) 0 4)] [] [.ref 0] (mPS m (i, fs)) o 0 0 1
    refine ⟨trivial, ?_⟩
    rw [mPS_4]
    refine mCi htr (q_byteAt m (i, fs) hs hn (by omega)) (by omega) (Nat.le_refl _) (Nat.le_refl _) ?_
    have hnd : ¬ isSm (bAt (m 1) n i) := fun q => by have := sm_lt q; omega
    generalize bAt (m 1) n i = c at hnd ⊢
    show mCal l g d k_X12_skipWord Φ 0 0 _ 8 k_X12_isSmall false [.int c] [] [.ref 0] (mPS m (i, fs)) o 0 0 1
    refine mCi htr (q_isSmall c _) (by omega) (Nat.le_refl _) (Nat.le_refl _) ?_
    show ((pI (isSm c)) = 0 → Φ (.inl none) (mPS m (i, fs)) o ∧ 0 ≤ 0 ∧ 0 ≤ 0) ∧ (¬ (pI (isSm c)) = 0 → (Value.ref 0).category = 1 ∧ (mWB l g d k_X12_skipWord Φ 0 0 0 [.ref 0] [] (mset (mPS m (i, fs)) 0 4 (((mPS m (i, fs)) 0 4) + (1 : Int32))) o 0 0))
    subst hΦ
    exact ⟨fun h => mDv rfl, fun h => absurd (pI_1.mp h) hnd⟩
  | succ f ih =>
    intro i hf hi2
    refine mGoOn (mOk (by decide)) rfl [0] 400 ?_
    generalize hΦ : mΦv _ _ = Φ
    show True ∧ mCal l g d k_X12_skipWord Φ 0 0 _ 5 k_X12_byteAt false [.ref 0, .int ((mPS m (i, fs)) 0 4)] [] [.ref 0] (mPS m (i, fs)) o 0 0 1
    refine ⟨trivial, ?_⟩
    rw [mPS_4]
    refine mCi htr (q_byteAt m (i, fs) hs hn (by omega)) (by omega) (Nat.le_refl _) (Nat.le_refl _) ?_
    generalize hc : bAt (m 1) n i = c
    show mCal l g d k_X12_skipWord Φ 0 0 _ 8 k_X12_isSmall false [.int c] [] [.ref 0] (mPS m (i, fs)) o 0 0 1
    refine mCi htr (q_isSmall c _) (by omega) (Nat.le_refl _) (Nat.le_refl _) ?_
    show ((pI (isSm c)) = 0 → Φ (.inl none) (mPS m (i, fs)) o ∧ 0 ≤ 0 ∧ 0 ≤ 0) ∧ (¬ (pI (isSm c)) = 0 → (Value.ref 0).category = 1 ∧ (mWB l g d k_X12_skipWord Φ 0 0 0 [.ref 0] [] (mset (mPS m (i, fs)) 0 4 (((mPS m (i, fs)) 0 4) + (1 : Int32))) o 0 0))
    refine ⟨fun h => ?_, fun h => ⟨rfl, ?_⟩⟩
    · rw [swd_no (by rw [hc]; exact pI_0.mp h)] at hΦ
      subst hΦ
      exact mDv rfl
    · have hsm := pI_1.mp h
      have hlt : i < n := sm_lt (by rw [hc]; exact hsm)
      rw [swd_yes (by rw [hc]; exact hsm)] at hΦ
      rw [mPS_4, nI_1, mPS_s4]
      subst hΦ
      exact ih (i + 1) (by omega) (by omega)
theorem r_skipWord {n : Nat} (m : Mm) (s : PS) (hs : m 0 2 = nI n) (hn : n ≤ 600) (hi2 : s.1 ≤ n) (hd : 2 ≤ d) : mFu l g d k_X12_skipWord [.ref 0] (mPS m s) (mPS m (pSkw (m 1) n s)) := by
  intro htr o
  exact mBody htr 0 rfl rfl rfl (by decide) rfl (r_skipWord_loop htr hd o m s.2 hs hn (n - s.1) s.1 (Nat.le_refl _) hi2)
theorem r_sign {n : Nat} (m : Mm) (s : PS) (hs : m 0 2 = nI n) (hn : n ≤ 600) (hi2 : s.1 ≤ n) (hd : 2 ≤ d) (c : Int32) : mFu l g d k_X12_sign [.ref 0, .int c] (mPS m s) (mPS m (pSgn (m 1) n c s)) := by
  intro htr o
  refine mBody htr 0 rfl rfl rfl (by decide) rfl (mGoOn (mOk (by decide)) rfl [] 400 ?_)
  generalize hΦ : mΦv _ _ = Φ
  show (((mPS m s) 0 5) = 0 → True ∧ mCal l g d k_X12_sign Φ 0 0 _ 9 k_X12_blanks false [.ref 0] [] [.ref 0, .int c] (mPS m s) o 0 0 0) ∧ (¬ ((mPS m s) 0 5) = 0 → Φ (.inl none) (mPS m s) o ∧ 0 ≤ 0 ∧ 0 ≤ 0)
  rw [mPS_5]
  refine ⟨fun h0 => ⟨trivial, ?_⟩, fun h0 => ?_⟩
  · refine mCv htr (q_blanks m s hs hn (by omega) (by omega)) (by omega) (Nat.le_refl _) (Nat.le_refl _) ?_
    show True ∧ mCal l g d k_X12_sign Φ 0 0 _ 17 k_X12_byteAt false [.ref 0, .int ((mPS m (pBl (m 1) n s)) 0 4)] [] [.ref 0, .int c] (mPS m (pBl (m 1) n s)) o 0 0 1
    refine ⟨trivial, ?_⟩
    have hb := skp_le (T := m 1) (n := n) (n - s.1) s.1 (Nat.le_refl _) hi2
    rw [mPS_4]
    refine mCi htr (q_byteAt m (pBl (m 1) n s) hs hn (i := skp (m 1) n s.1) (by omega)) (by omega) (Nat.le_refl _) (Nat.le_refl _) ?_
    generalize hc : bAt (m 1) n (skp (m 1) n s.1) = x
    show (¬ x = c → True ∧ mCal l g d k_X12_sign Φ 0 0 _ 43 k_X12_wrong false [.ref 0, .int (1 : Int32), .int ((mPS m (pBl (m 1) n s)) 0 4)] [] [.ref 0, .int c] (mPS m (pBl (m 1) n s)) o 0 0 0) ∧ (x = c → (Value.ref 0).category = 1 ∧ (Φ (.inl none) (mset (mPS m (pBl (m 1) n s)) 0 4 (((mPS m (pBl (m 1) n s)) 0 4) + (1 : Int32))) o ∧ 0 ≤ 0 ∧ 0 ≤ 0))
    refine ⟨fun h1 => ⟨trivial, ?_⟩, fun h1 => ⟨rfl, ?_⟩⟩
    · rw [mPS_4]
      refine mCv htr (q_wrong 1 (nI (skp (m 1) n s.1)) m (pBl (m 1) n s)) (by omega) (Nat.le_refl _) (Nat.le_refl _) ?_
      show Φ (.inl none) (mPS m (pWr 1 (nI (skp (m 1) n s.1)) (pBl (m 1) n s))) o ∧ 0 ≤ 0 ∧ 0 ≤ 0
      subst hΦ
      exact mDv (by unfold pSgn; rw [if_pos h0, hc, if_neg h1])
    · rw [mPS_4, nI_1, mPS_s4]
      subst hΦ
      exact mDv (by unfold pSgn; rw [if_pos h0, hc, if_pos h1]; rfl)
  · subst hΦ
    exact mDv (by unfold pSgn; rw [if_neg h0])
theorem r_takesSign {n : Nat} (m : Mm) (s : PS) (hs : m 0 2 = nI n) (hn : n ≤ 600) (hi2 : s.1 ≤ n) (hd : 2 ≤ d) (c : Int32) : mFi l g d k_X12_takesSign [.ref 0, .int c] (mPS m s) (pTks (m 1) n c s).1 (mPS m (pTks (m 1) n c s).2) := by
  intro htr o
  refine mBody htr 1 rfl rfl rfl (by decide) rfl (mGoOn (mOk (by decide)) rfl [] 400 ?_)
  generalize hΦ : mΦi _ _ _ = Φ
  show (((mPS m s) 0 5) = 0 → True ∧ mCal l g d k_X12_takesSign Φ 0 0 _ 10 k_X12_blanks false [.ref 0] [] [.ref 0, .int c, mJ] (mPS m s) o 0 0 0) ∧ (¬ ((mPS m s) 0 5) = 0 → ((0 : Int32) = 0 ∨ (0 : Int32) = 1) ∧ Φ (.inl (some (.int (0 : Int32)))) (mPS m s) o ∧ 0 ≤ 0 ∧ 0 ≤ 0)
  rw [mPS_5]
  refine ⟨fun h0 => ⟨trivial, ?_⟩, fun h0 => ?_⟩
  · refine mCv htr (q_blanks m s hs hn (by omega) (by omega)) (by omega) (Nat.le_refl _) (Nat.le_refl _) ?_
    show True ∧ mCal l g d k_X12_takesSign Φ 0 0 _ 18 k_X12_byteAt false [.ref 0, .int ((mPS m (pBl (m 1) n s)) 0 4)] [] [.ref 0, .int c, mJ] (mPS m (pBl (m 1) n s)) o 0 0 1
    refine ⟨trivial, ?_⟩
    have hb := skp_le (T := m 1) (n := n) (n - s.1) s.1 (Nat.le_refl _) hi2
    rw [mPS_4]
    refine mCi htr (q_byteAt m (pBl (m 1) n s) hs hn (i := skp (m 1) n s.1) (by omega)) (by omega) (Nat.le_refl _) (Nat.le_refl _) ?_
    generalize hc : bAt (m 1) n (skp (m 1) n s.1) = x
    show (¬ x = c → ((0 : Int32) = 0 → ((0 : Int32) = 0 ∨ (0 : Int32) = 1) ∧ Φ (.inl (some (.int (0 : Int32)))) (mPS m (pBl (m 1) n s)) o ∧ 0 ≤ 0 ∧ 0 ≤ 0) ∧ (¬ (0 : Int32) = 0 → (Value.ref 0).category = 1 ∧ (((0 : Int32) = 0 ∨ (0 : Int32) = 1) ∧ Φ (.inl (some (.int (0 : Int32)))) (mset (mPS m (pBl (m 1) n s)) 0 4 (((mPS m (pBl (m 1) n s)) 0 4) + (1 : Int32))) o ∧ 0 ≤ 0 ∧ 0 ≤ 0))) ∧ (x = c → ((1 : Int32) = 0 → ((1 : Int32) = 0 ∨ (1 : Int32) = 1) ∧ Φ (.inl (some (.int (1 : Int32)))) (mPS m (pBl (m 1) n s)) o ∧ 0 ≤ 0 ∧ 0 ≤ 0) ∧ (¬ (1 : Int32) = 0 → (Value.ref 0).category = 1 ∧ (((1 : Int32) = 0 ∨ (1 : Int32) = 1) ∧ Φ (.inl (some (.int (1 : Int32)))) (mset (mPS m (pBl (m 1) n s)) 0 4 (((mPS m (pBl (m 1) n s)) 0 4) + (1 : Int32))) o ∧ 0 ≤ 0 ∧ 0 ≤ 0)))
    subst hΦ
    unfold pTks
    rw [if_pos h0, hc]
    refine ⟨fun h1 => ⟨fun _ => ?_, fun q => absurd rfl q⟩, fun h1 => ⟨fun q => absurd q (by decide), fun _ => ⟨rfl, ?_⟩⟩⟩
    · rw [if_neg h1]
      exact mDb (Or.inl rfl) rfl rfl
    · rw [if_pos h1, mPS_4, nI_1, mPS_s4]
      exact mDb (Or.inr rfl) rfl rfl
  · subst hΦ
    unfold pTks
    rw [if_neg h0]
    exact mDb (Or.inl rfl) rfl rfl
end R4
