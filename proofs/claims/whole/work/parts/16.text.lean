/-! NUMBERS AND MEMORY: rows for the contracts -/
theorem mset_ap (m : Mm) (a i : Nat) (v : Int32) (x j : Nat) : mset m a i v x j = if x = a ∧ j = i then v else m x j := by
  unfold mset
  by_cases h : x = a
  · subst h
    rw [if_pos rfl]
    by_cases h2 : j = i
    · subst h2; simp [upd]
    · simp [upd, h2]
  · rw [if_neg h, if_neg (fun q => h q.1)]
theorem mset_mset (m : Mm) (a i : Nat) (x y : Int32) : mset (mset m a i x) a i y = mset m a i y := by
  funext z j
  simp only [mset_ap]
  by_cases h : z = a ∧ j = i <;> simp [h]
theorem mset_self (m : Mm) (a i : Nat) (v : Int32) (h : m a i = v) : mset m a i v = m := by
  funext z j
  rw [mset_ap]
  by_cases q : z = a ∧ j = i
  · rw [if_pos q, q.1, q.2, h]
  · rw [if_neg q]
theorem mset_comm (m : Mm) {a i b j : Nat} (x y : Int32) (h : ¬ (a = b ∧ i = j)) : mset (mset m a i x) b j y = mset (mset m b j y) a i x := by
  funext z w
  simp only [mset_ap]
  by_cases h1 : z = a ∧ w = i
  · by_cases h2 : z = b ∧ w = j
    · exact absurd ⟨h1.1.symm.trans h2.1, h1.2.symm.trans h2.2⟩ h
    · rw [if_neg h2, if_pos h1, if_pos h1]
  · rw [if_neg h1]
    by_cases h2 : z = b ∧ w = j
    · rw [if_pos h2, if_neg h1]
    · rw [if_neg h2, if_neg h1]
theorem mIn_nI {n N : Nat} (h : n < N) (hN : N < 2 ^ 31) : mInB (nI n) N = true := by
  unfold mInB
  rw [Bool.and_eq_true]
  refine ⟨?_, ?_⟩
  · have := nI_pos (n := n) (by omega)
    simpa using this
  · rw [nI_clamp (by omega)]
    simpa [Nat.blt_eq] using h
/-! THE TEXT: bytes T, n of them -/
def bAt (T : Nat → Int32) (n i : Nat) : Int32 := if i < n then T i else -1
def skB (T : Nat → Int32) (n : Nat) : Nat → Nat → Nat
  | 0, i => i
  | f + 1, i => if bAt T n i = 32 then skB T n f (i + 1) else i
/-- the first place from i on that is no blank -/
def skp (T : Nat → Int32) (n i : Nat) : Nat := skB T n (n - i) i
theorem bAt_end {T : Nat → Int32} {n i : Nat} (h : n ≤ i) : bAt T n i = -1 := if_neg (by omega)
theorem skp_yes {T : Nat → Int32} {n i : Nat} (h : bAt T n i = 32) : skp T n i = skp T n (i + 1) := by
  have hi : i < n := by
    by_cases q : i < n
    · exact q
    · rw [bAt_end (by omega)] at h
      exact absurd h (by decide)
  unfold skp
  rw [show n - i = (n - (i + 1)) + 1 by omega, skB, if_pos h]
theorem skp_no {T : Nat → Int32} {n i : Nat} (h : ¬ bAt T n i = 32) : skp T n i = i := by
  unfold skp
  cases n - i with
  | zero => rfl
  | succ f => rw [skB, if_neg h]
theorem skp_le {T : Nat → Int32} {n : Nat} : ∀ (f i : Nat), n - i ≤ f → i ≤ n → skp T n i ≤ n ∧ i ≤ skp T n i ∧ ¬ bAt T n (skp T n i) = 32
  | 0, i, hf, hi => by
    have : i = n := by omega
    subst this
    have h := @bAt_end T i i (Nat.le_refl _)
    rw [skp_no (by rw [h]; decide), h]
    exact ⟨Nat.le_refl _, Nat.le_refl _, by decide⟩
  | f + 1, i, hf, hi => by
    by_cases h : bAt T n i = 32
    · have hlt : i < n := by
        by_cases q : i < n
        · exact q
        · rw [bAt_end (by omega)] at h
          exact absurd h (by decide)
      rw [skp_yes h]
      obtain ⟨h1, h2, h3⟩ := skp_le (T := T) (n := n) f (i + 1) (by omega) (by omega)
      exact ⟨h1, by omega, h3⟩
    · rw [skp_no h]
      exact ⟨hi, Nat.le_refl _, h⟩
/-! THE REFERENCE's SMALL METHODS -/
section R1
variable {l : Launch} {g : mG} {d : Nat}
theorem r_in (v lo hi : Int32) (m : Mm) : mFi l g d k_X12_in [.int v, .int lo, .int hi] m (if lo ≤ v ∧ v ≤ hi then 1 else 0) m := by
  intro htr o
  refine mBody htr 0 rfl rfl rfl (by decide) rfl (mGoOn (mOk (by decide)) rfl [] 30 ?_)
  generalize hΦ : mΦi _ _ _ = Φ
  show (v < lo → ((0 : Int32) = 0 ∨ (0 : Int32) = 1) ∧ Φ (.inl (some (.int (0 : Int32)))) m o ∧ 0 ≤ 0 ∧ 0 ≤ 0) ∧
    (¬ v < lo → (hi < v → ((0 : Int32) = 0 ∨ (0 : Int32) = 1) ∧ Φ (.inl (some (.int (0 : Int32)))) m o ∧ 0 ≤ 0 ∧ 0 ≤ 0) ∧
    (¬ hi < v → ((1 : Int32) = 0 ∨ (1 : Int32) = 1) ∧ Φ (.inl (some (.int (1 : Int32)))) m o ∧ 0 ≤ 0 ∧ 0 ≤ 0))
  subst hΦ
  refine ⟨fun h => mDb (Or.inl rfl) ?_ rfl, fun h => ⟨fun h2 => mDb (Or.inl rfl) ?_ rfl, fun h2 => mDb (Or.inr rfl) ?_ rfl⟩⟩
  · rw [if_neg (fun q => by have := fa_of_lt h; exact this.2.1 q.1)]
  · rw [if_neg (fun q => by have := fa_of_lt h2; exact this.2.1 q.2)]
  · rw [if_pos ⟨fa_of_nlt h, fa_of_nlt h2⟩]
theorem r_less (a b : Int32) (m : Mm) : mFi l g d k_X12_less [.int a, .int b] m (if a < b then a else b) m := by
  intro htr o
  refine mBody htr 0 rfl rfl rfl (by decide) rfl (mGoOn (mOk (by decide)) rfl [] 30 ?_)
  generalize hΦ : mΦi _ _ _ = Φ
  show (b ≤ a → Φ (.inl (some (.int b))) m o ∧ 0 ≤ 0 ∧ 0 ≤ 0) ∧ (¬ b ≤ a → Φ (.inl (some (.int a))) m o ∧ 0 ≤ 0 ∧ 0 ≤ 0)
  subst hΦ
  refine ⟨fun h => mDi ?_ rfl, fun h => mDi ?_ rfl⟩
  · rw [if_neg (fun q => (fa_of_lt q).2.1 h)]
  · rw [if_pos (fa_of_nle h)]
theorem r_more (a b : Int32) (m : Mm) : mFi l g d k_X12_more [.int a, .int b] m (if b < a then a else b) m := by
  intro htr o
  refine mBody htr 0 rfl rfl rfl (by decide) rfl (mGoOn (mOk (by decide)) rfl [] 30 ?_)
  generalize hΦ : mΦi _ _ _ = Φ
  show (a ≤ b → Φ (.inl (some (.int b))) m o ∧ 0 ≤ 0 ∧ 0 ≤ 0) ∧ (¬ a ≤ b → Φ (.inl (some (.int a))) m o ∧ 0 ≤ 0 ∧ 0 ≤ 0)
  subst hΦ
  refine ⟨fun h => mDi ?_ rfl, fun h => mDi ?_ rfl⟩
  · rw [if_neg (fun q => (fa_of_lt q).2.1 h)]
  · rw [if_pos (fa_of_nle h)]
theorem r_has (b k : Int32) (m : Mm) : mFi l g d k_X12_has [.int b, .int k] m (if jshr b k &&& 1 = 1 then 1 else 0) m := by
  intro htr o
  refine mBody htr 0 rfl rfl rfl (by decide) rfl (mGoOn (mOk (by decide)) rfl [] 30 ?_)
  generalize hΦ : mΦi _ _ _ = Φ
  show (¬ ((jshr b k) &&& (1 : Int32)) = (1 : Int32) → ((0 : Int32) = 0 ∨ (0 : Int32) = 1) ∧ Φ (.inl (some (.int (0 : Int32)))) m o ∧ 0 ≤ 0 ∧ 0 ≤ 0) ∧
    (((jshr b k) &&& (1 : Int32)) = (1 : Int32) → ((1 : Int32) = 0 ∨ (1 : Int32) = 1) ∧ Φ (.inl (some (.int (1 : Int32)))) m o ∧ 0 ≤ 0 ∧ 0 ≤ 0)
  subst hΦ
  exact ⟨fun h => mDb (Or.inl rfl) (by rw [if_neg h]) rfl, fun h => mDb (Or.inr rfl) (by rw [if_pos h]) rfl⟩
theorem r_isDigit (c : Int32) (m : Mm) : mFi l g d k_X12_isDigit [.int c] m (if 48 ≤ c ∧ c ≤ 57 then 1 else 0) m := by
  intro htr o
  refine mBody htr 0 rfl rfl rfl (by decide) rfl (mGoOn (mOk (by decide)) rfl [] 30 ?_)
  generalize hΦ : mΦi _ _ _ = Φ
  show (c < (48 : Int32) → ((0 : Int32) = 0 ∨ (0 : Int32) = 1) ∧ Φ (.inl (some (.int (0 : Int32)))) m o ∧ 0 ≤ 0 ∧ 0 ≤ 0) ∧
    (¬ c < (48 : Int32) → ((57 : Int32) < c → ((0 : Int32) = 0 ∨ (0 : Int32) = 1) ∧ Φ (.inl (some (.int (0 : Int32)))) m o ∧ 0 ≤ 0 ∧ 0 ≤ 0) ∧
    (¬ (57 : Int32) < c → ((1 : Int32) = 0 ∨ (1 : Int32) = 1) ∧ Φ (.inl (some (.int (1 : Int32)))) m o ∧ 0 ≤ 0 ∧ 0 ≤ 0))
  subst hΦ
  refine ⟨fun h => mDb (Or.inl rfl) ?_ rfl, fun h => ⟨fun h2 => mDb (Or.inl rfl) ?_ rfl, fun h2 => mDb (Or.inr rfl) ?_ rfl⟩⟩
  · rw [if_neg (fun q => by have := fa_of_lt h; exact this.2.1 q.1)]
  · rw [if_neg (fun q => by have := fa_of_lt h2; exact this.2.1 q.2)]
  · rw [if_pos ⟨fa_of_nlt h, fa_of_nlt h2⟩]
theorem r_isSmall (c : Int32) (m : Mm) : mFi l g d k_X12_isSmall [.int c] m (if 97 ≤ c ∧ c ≤ 122 then 1 else 0) m := by
  intro htr o
  refine mBody htr 0 rfl rfl rfl (by decide) rfl (mGoOn (mOk (by decide)) rfl [] 30 ?_)
  generalize hΦ : mΦi _ _ _ = Φ
  show (c < (97 : Int32) → ((0 : Int32) = 0 ∨ (0 : Int32) = 1) ∧ Φ (.inl (some (.int (0 : Int32)))) m o ∧ 0 ≤ 0 ∧ 0 ≤ 0) ∧
    (¬ c < (97 : Int32) → ((122 : Int32) < c → ((0 : Int32) = 0 ∨ (0 : Int32) = 1) ∧ Φ (.inl (some (.int (0 : Int32)))) m o ∧ 0 ≤ 0 ∧ 0 ≤ 0) ∧
    (¬ (122 : Int32) < c → ((1 : Int32) = 0 ∨ (1 : Int32) = 1) ∧ Φ (.inl (some (.int (1 : Int32)))) m o ∧ 0 ≤ 0 ∧ 0 ≤ 0))
  subst hΦ
  refine ⟨fun h => mDb (Or.inl rfl) ?_ rfl, fun h => ⟨fun h2 => mDb (Or.inl rfl) ?_ rfl, fun h2 => mDb (Or.inr rfl) ?_ rfl⟩⟩
  · rw [if_neg (fun q => by have := fa_of_lt h; exact this.2.1 q.1)]
  · rw [if_neg (fun q => by have := fa_of_lt h2; exact this.2.1 q.2)]
  · rw [if_pos ⟨fa_of_nlt h, fa_of_nlt h2⟩]
theorem r_wrong (w h : Int32) (m : Mm) : mFu l g d k_X12_wrong [.ref 0, .int w, .int h] m (if m 0 5 = 0 then mset (mset m 0 5 w) 0 6 h else m) := by
  intro htr o
  refine mBody htr 0 rfl rfl rfl (by decide) rfl (mGoOn (mOk (by decide)) rfl [] 30 ?_)
  generalize hΦ : mΦv _ _ = Φ
  show (¬ (m 0 5) = 0 → Φ (.inl none) m o ∧ 0 ≤ 0 ∧ 0 ≤ 0) ∧ ((m 0 5) = 0 → Φ (.inl none) (mset (mset m 0 5 w) 0 6 h) o ∧ 0 ≤ 0 ∧ 0 ≤ 0)
  subst hΦ
  exact ⟨fun h => mDv (by rw [if_neg h]), fun h => mDv (by rw [if_pos h])⟩
theorem r_byteAt {n i : Nat} (m : Mm) (hs : m 0 2 = nI n) (hn : n ≤ 600) (hi : i < 2 ^ 31) : mFi l g d k_X12_byteAt [.ref 0, .int (nI i)] m (bAt (m 1) n i) m := by
  intro htr o
  refine mBody htr 0 rfl rfl rfl (by decide) rfl (mGoOn (mOk (by decide)) rfl [] 30 ?_)
  generalize hΦ : mΦi _ _ _ = Φ
  show (nI i < (m 0 2) → mReq (mInB (nI i) 600) (Φ (.inl (some (.int (m 1 (nI i).toNatClampNeg)))) m o ∧ 0 ≤ 0 ∧ 0 ≤ 0)) ∧
    (¬ nI i < (m 0 2) → Φ (.inl (some (.int (-1 : Int32)))) m o ∧ 0 ≤ 0 ∧ 0 ≤ 0)
  subst hΦ
  rw [hs]
  unfold bAt
  refine ⟨fun h => ?_, fun h => ?_⟩
  · have h1 : i < n := (nI_ltI hi (by omega)).mp h
    refine mReq_i (mIn_nI (by omega) (by omega)) ?_
    rw [nI_clamp hi]
    exact mDi (by rw [if_pos h1]) rfl
  · have h1 : ¬ i < n := fun q => h ((nI_ltI hi (by omega)).mpr q)
    exact mDi (by rw [if_neg h1]) rfl
theorem r_blanks_loop {n : Nat} (htr : l.stackTraces = false) (hn : n ≤ 600) (hd : 1 ≤ d) (o : Int64) : ∀ (f i : Nat) (m : Mm), n - i ≤ f → i ≤ 600 → m 0 2 = nI n → m 0 4 = nI i → mWB l g d k_X12_blanks (mΦv (mset m 0 4 (nI (skp (m 1) n i))) o) 0 0 0 [.ref 0] [] m o 0 0 := by
  intro f
  induction f with
  | zero =>
    intro i m hf hi hs ha
    refine mGoOn (mOk (by decide)) rfl [0] 30 ?_
    generalize hΦ : mΦv _ _ = Φ
    show True ∧ mCal l g d k_X12_blanks Φ 0 0 _ 5 k_X12_byteAt false [.ref 0, .int (m 0 4)] [] [.ref 0] m o 0 0 1
    refine ⟨trivial, ?_⟩
    rw [ha]
    refine mCi htr (r_byteAt m hs hn (by omega)) hd (Nat.le_refl _) (Nat.le_refl _) ?_
    have hb : bAt (m 1) n i = -1 := bAt_end (by omega)
    show (¬ bAt (m 1) n i = (32 : Int32) → Φ (.inl none) m o ∧ 0 ≤ 0 ∧ 0 ≤ 0) ∧ (bAt (m 1) n i = (32 : Int32) → _)
    subst hΦ
    refine ⟨fun h => mDv ?_, fun h => ?_⟩
    · rw [skp_no h, mset_self m 0 4 _ ha]
    · rw [hb] at h
      exact absurd h (by decide)
  | succ f ih =>
    intro i m hf hi hs ha
    refine mGoOn (mOk (by decide)) rfl [0] 30 ?_
    generalize hΦ : mΦv _ _ = Φ
    show True ∧ mCal l g d k_X12_blanks Φ 0 0 _ 5 k_X12_byteAt false [.ref 0, .int (m 0 4)] [] [.ref 0] m o 0 0 1
    refine ⟨trivial, ?_⟩
    rw [ha]
    refine mCi htr (r_byteAt m hs hn (by omega)) hd (Nat.le_refl _) (Nat.le_refl _) ?_
    show (¬ bAt (m 1) n i = (32 : Int32) → Φ (.inl none) m o ∧ 0 ≤ 0 ∧ 0 ≤ 0) ∧ (bAt (m 1) n i = (32 : Int32) → (Value.ref 0).category = 1 ∧ mWB l g d k_X12_blanks Φ 0 0 0 [.ref 0] [] (mset m 0 4 (m 0 4 + (1 : Int32))) o 0 0)
    refine ⟨fun h => ?_, fun h => ⟨rfl, ?_⟩⟩
    · subst hΦ
      exact mDv (by rw [skp_no h, mset_self m 0 4 _ ha])
    · have hlt : i < n := by
        by_cases q : i < n
        · exact q
        · rw [bAt_end (by omega)] at h
          exact absurd h (by decide)
      have h1 := ih (i + 1) (mset m 0 4 (nI (i + 1))) (by omega) (by omega) (by simp [mset_ap, hs]) (by simp [mset_ap])
      rw [mset_mset] at h1
      have hT : (mset m 0 4 (nI (i + 1))) 1 = m 1 := mset_ne m _ _ (by decide)
      rw [hT, ← skp_yes h] at h1
      rw [ha, nI_1]
      subst hΦ
      exact h1
theorem r_blanks {n i : Nat} (m : Mm) (hs : m 0 2 = nI n) (ha : m 0 4 = nI i) (hn : n ≤ 600) (hi : i ≤ 600) (hd : 1 ≤ d) : mFu l g d k_X12_blanks [.ref 0] m (mset m 0 4 (nI (skp (m 1) n i))) := by
  intro htr o
  exact mBody htr 0 rfl rfl rfl (by decide) rfl (r_blanks_loop htr hn hd o (n - i) i m (Nat.le_refl _) hi hs ha)
end R1
