set_option maxRecDepth 100000
/-- the word read last is the i-th text -/
def isW (T : Nat → Int32) (i : Nat) (s : XS) : Prop := s.1 - s.2.1 = tLen i ∧ ∀ j, j < tLen i → T (s.2.1 + j) = tCh i j
theorem nI_sub {a b : Nat} (h : b ≤ a) : nI a - nI b = nI (a - b) := by
  have e : nI a = nI (a - b) + nI b := by rw [nI_add]; congr 1; omega
  rw [e, Int32.add_sub_cancel]
theorem tLen_small : ∀ i, i < mTx.length → tLen i < 100 := by decide +kernel
section X22
variable {l : Launch} {g : mG} {d : Nat} {T : Nat → Int32} {n : Nat} {z : Int32}
theorem x_isWord {s : XS} {m : Mm} (h : tx T n z s m) (hn : n ≤ 600) (hs : s.1 ≤ n) (hs2 : s.2.1 ≤ s.1) {w : Nat} (hi : w < mTx.length) (hd : 4 ≤ d) : mFi l g d k_X7_isWord [.ref 587, .ref (mSt w)] m (pI (isW T w s)) m := by
  have hl := tLen_small w hi
  refine nFi 1 rfl rfl rfl (by decide) rfl (fun htr o Φ hΦ => mGoOn (mOk (by decide)) rfl [20] 400 ?_)
  show (∃ i, i < mTx.length ∧ (mSt w) = mSt i) ∧ mCal l g d k_X7_isWord Φ 0 0 _ 10 k_J0_length_8abf5 false [.ref (mSt w)] [.int ((m 587 5) - (m 587 6))] [.ref 587, .ref (mSt w), mJ] m o 0 0 1
  refine ⟨⟨w, hi, rfl⟩, fCi htr (j_length m hi (by omega)) (by omega) ?_⟩
  rw [h.2.2.2.1.1, h.2.2.2.1.2, nI_sub hs2]
  show ((nI (s.1 - s.2.1)) = (nI (tLen w)) → mWB l g d k_X7_isWord Φ 0 0 20 [.ref 587, .ref (mSt w), .int (0 : Int32)] [] m o 0 0) ∧ (¬ (nI (s.1 - s.2.1)) = (nI (tLen w)) → ((0 : Int32) = 0 ∨ (0 : Int32) = 1) ∧ Φ (.inl (some (.int (0 : Int32)))) m o ∧ 0 ≤ 0 ∧ 0 ≤ 0)
  rw [nI_eq (by omega) (by omega)]
  refine ⟨fun q => ?_, fun q => ?_⟩
  · refine mLoopQ (Q := fun j => ¬ T (s.2.1 + j) = tCh w j) (P := fun j => mWB l g d k_X7_isWord Φ 0 0 20 [.ref 587, .ref (mSt w), .int (nI j)] [] m o 0 0) (N := tLen w) (fun hb => ?_) (fun j hj hb ih => ?_)
    · refine mGoOn (mOk (by decide)) rfl [20] 400 ?_
      show (∃ i, i < mTx.length ∧ (mSt w) = mSt i) ∧ mCal l g d k_X7_isWord Φ 0 0 _ 22 k_J0_length_8abf5 false [.ref (mSt w)] [.int (nI (tLen w))] [.ref 587, .ref (mSt w), .int (nI (tLen w))] m o 0 0 1
      refine ⟨⟨w, hi, rfl⟩, fCi htr (j_length m hi (by omega)) (by omega) ?_⟩
      show ((nI (tLen w)) ≤ (nI (tLen w)) → ((1 : Int32) = 0 ∨ (1 : Int32) = 1) ∧ Φ (.inl (some (.int (1 : Int32)))) m o ∧ 0 ≤ 0 ∧ 0 ≤ 0) ∧ (¬ (nI (tLen w)) ≤ (nI (tLen w)) → mCal l g d k_X7_isWord Φ 0 0 _ 38 k_X11_at true [.ref 588, .int ((m 587 6) + (nI (tLen w)))] [] [.ref 587, .ref (mSt w), .int (nI (tLen w))] m o 0 0 1)
      refine ⟨fun _ => ⟨Or.inr rfl, eR ?_⟩, fun y => absurd (Int32.le_refl _) y⟩
      rw [pI_t ⟨q, fun j hj => Classical.not_not.mp (hb j hj)⟩] at hΦ
      exact hΦ
    · refine mGoOn (mOk (by decide)) rfl [20] 400 ?_
      show (∃ i, i < mTx.length ∧ (mSt w) = mSt i) ∧ mCal l g d k_X7_isWord Φ 0 0 _ 22 k_J0_length_8abf5 false [.ref (mSt w)] [.int (nI j)] [.ref 587, .ref (mSt w), .int (nI j)] m o 0 0 1
      refine ⟨⟨w, hi, rfl⟩, fCi htr (j_length m hi (by omega)) (by omega) ?_⟩
      show ((nI (tLen w)) ≤ (nI j) → ((1 : Int32) = 0 ∨ (1 : Int32) = 1) ∧ Φ (.inl (some (.int (1 : Int32)))) m o ∧ 0 ≤ 0 ∧ 0 ≤ 0) ∧ (¬ (nI (tLen w)) ≤ (nI j) → mCal l g d k_X7_isWord Φ 0 0 _ 38 k_X11_at true [.ref 588, .int ((m 587 6) + (nI j))] [] [.ref 587, .ref (mSt w), .int (nI j)] m o 0 0 1)
      rw [h.2.2.2.1.2, nI_add]
      refine ⟨fun y => absurd y (by rw [nI_leI (by omega) (by omega)]; omega), fun _ => fCi htr (x_at m (a := 588) (n := 600) rfl rfl (by decide) (k := s.2.1 + j) (by omega)) (by omega) ?_⟩
      rw [h.1]
      show (∃ i, i < mTx.length ∧ (mSt w) = mSt i) ∧ mCal l g d k_X7_isWord Φ 0 0 _ 43 k_J0_charAt_5068e false [.ref (mSt w), .int (nI j)] [.int (T (s.2.1 + j))] [.ref 587, .ref (mSt w), .int (nI j)] m o 0 0 1
      refine ⟨⟨w, hi, rfl⟩, fCi htr (j_charAt m hi hj (by omega)) (by omega) ?_⟩
      show ((T (s.2.1 + j)) = (tCh w j) → mWB l g d k_X7_isWord Φ 0 0 20 [.ref 587, .ref (mSt w), .int ((nI j) + (1 : Int32))] [] m o 0 0) ∧ (¬ (T (s.2.1 + j)) = (tCh w j) → ((0 : Int32) = 0 ∨ (0 : Int32) = 1) ∧ Φ (.inl (some (.int (0 : Int32)))) m o ∧ 0 ≤ 0 ∧ 0 ≤ 0)
      rw [nI_1]
      refine ⟨fun y => ih (fun u => u y), fun y => ⟨Or.inl rfl, eR ?_⟩⟩
      rw [pI_f (fun u => y (u.2 j hj))] at hΦ
      exact hΦ
  · rw [pI_f (fun u => q u.1)] at hΦ
    exact ⟨Or.inl rfl, eR hΦ⟩
theorem x_open {s : XS} {m : Mm} {n0 : Nat} (h : tx T n0 z s m) (n : Nat) : mHv l g d k_X7_open [.ref 587, .int (nI n)] m (fun m2 => eT m m2 ∧ tx T n z (0, 0, 0, -1) m2) := by
  refine nBv 0 rfl rfl rfl (by decide) rfl (fun htr o Φ hΦ => mGoOn (mOk (by decide)) rfl [] 400 ?_)
  show Φ (.inl none) (mset (mset (mset (mset (mset m 587 4 (nI n)) 587 5 (0 : Int32)) 587 6 (0 : Int32)) 587 2 (0 : Int32)) 587 3 (-1 : Int32)) o ∧ 0 ≤ 0 ∧ 0 ≤ 0
  refine eR (hΦ _ ⟨eT_set (eT_set (eT_set (eT_set (eT_set (eT_refl _) _ _) _ _) _ _) _ _) _ _, ?_, ?_, ?_, ⟨?_, ?_⟩, ?_, ?_⟩)
  · rw [mset_ne _ _ _ (by decide), mset_ne _ _ _ (by decide), mset_ne _ _ _ (by decide), mset_ne _ _ _ (by decide), mset_ne _ _ _ (by decide)]; exact h.1
  · rw [mset_at, if_neg (by decide), mset_at, if_neg (by decide), mset_at, if_neg (by decide), mset_at, if_neg (by decide), mset_at, if_pos ⟨rfl, rfl⟩]
  · rw [mset_at, if_neg (by decide), mset_at, if_neg (by decide), mset_at, if_neg (by decide), mset_at, if_neg (by decide), mset_at, if_neg (by decide)]; exact h.2.2.1
  · rw [mset_at, if_neg (by decide), mset_at, if_neg (by decide), mset_at, if_neg (by decide), mset_at, if_pos ⟨rfl, rfl⟩]; rfl
  · rw [mset_at, if_neg (by decide), mset_at, if_neg (by decide), mset_at, if_pos ⟨rfl, rfl⟩]; rfl
  · rw [mset_at, if_neg (by decide), mset_at, if_pos ⟨rfl, rfl⟩]
  · rw [mset_at, if_pos ⟨rfl, rfl⟩]
theorem x_drop {s : XS} {m : Mm} (h : tx T n z s m) : mHv l g d k_X7_drop [.ref 587] m (fun m2 => eT m m2 ∧ tx T n 0 s m2) := by
  refine nBv 0 rfl rfl rfl (by decide) rfl (fun htr o Φ hΦ => mGoOn (mOk (by decide)) rfl [] 400 ?_)
  show Φ (.inl none) (mset m 587 1 (0 : Int32)) o ∧ 0 ≤ 0 ∧ 0 ≤ 0
  refine eR (hΦ _ ⟨eT_set (eT_refl _) _ _, ?_, ?_, ?_, ⟨?_, ?_⟩, ?_, ?_⟩)
  · rw [mset_ne _ _ _ (by decide)]; exact h.1
  · rw [mset_at, if_neg (by decide)]; exact h.2.1
  · rw [mset_at, if_pos ⟨rfl, rfl⟩]
  · rw [mset_at, if_neg (by decide)]; exact h.2.2.2.1.1
  · rw [mset_at, if_neg (by decide)]; exact h.2.2.2.1.2
  · rw [mset_at, if_neg (by decide)]; exact h.2.2.2.2.1
  · rw [mset_at, if_neg (by decide)]; exact h.2.2.2.2.2
theorem x_holds {m : Mm} {s : Nat} (hs : m 587 1 = nI s) (h6 : s ≤ 600) (b : Int32) {c : Nat} (hc : c < 2 ^ 31) : mFi l g d k_X7_holds [.ref 587, .int b, .int (nI c)] m (pI (∃ k, b = nI k ∧ k ≤ c ∧ k ≤ s)) m := by
  refine nFi 0 rfl rfl rfl (by decide) rfl (fun htr o Φ hΦ => mGoOn (mOk (by decide)) rfl [] 400 ?_)
  show (b < 0 → ((0 : Int32) = 0 ∨ (0 : Int32) = 1) ∧ Φ (.inl (some (.int (0 : Int32)))) m o ∧ 0 ≤ 0 ∧ 0 ≤ 0) ∧ (¬ b < 0 → ((nI c) < b → ((0 : Int32) = 0 ∨ (0 : Int32) = 1) ∧ Φ (.inl (some (.int (0 : Int32)))) m o ∧ 0 ≤ 0 ∧ 0 ≤ 0) ∧ (¬ (nI c) < b → ((m 587 1) < b → ((0 : Int32) = 0 ∨ (0 : Int32) = 1) ∧ Φ (.inl (some (.int (0 : Int32)))) m o ∧ 0 ≤ 0 ∧ 0 ≤ 0) ∧ (¬ (m 587 1) < b → ((1 : Int32) = 0 ∨ (1 : Int32) = 1) ∧ Φ (.inl (some (.int (1 : Int32)))) m o ∧ 0 ≤ 0 ∧ 0 ≤ 0)))
  rw [hs]
  have key : ∀ k, k ≤ c → b = nI k → (nI c < b ↔ False) ∧ (nI s < b ↔ s < k) := fun k hk e => by
    rw [e]
    exact ⟨⟨fun q => by rw [nI_ltI (by omega) (by omega)] at q; omega, False.elim⟩, nI_ltI (by omega) (by omega)⟩
  refine ⟨fun q => ?_, fun q => ⟨fun q2 => ?_, fun q2 => ?_⟩⟩
  · rw [pI_f (fun y => by
      obtain ⟨k, e, h1, h2⟩ := y
      rw [e] at q
      exact nI_pos (by omega) q)] at hΦ
    exact ⟨Or.inl rfl, eR hΦ⟩
  · rw [pI_f (fun y => by
      obtain ⟨k, e, h1, h2⟩ := y
      exact (key k h1 e).1.mp q2)] at hΦ
    exact ⟨Or.inl rfl, eR hΦ⟩
  · obtain ⟨k, hk, e⟩ : ∃ k, k ≤ c ∧ b = nI k := by
      have h1 := Int32.not_lt.mp q
      have h2 := Int32.not_lt.mp q2
      rw [fa_le] at h1 h2
      rw [nI_toInt hc] at h2
      have e0 : (0 : Int32).toInt = 0 := rfl
      refine ⟨b.toInt.toNat, by omega, ?_⟩
      rw [fa_eq, nI_toInt (by omega)]
      omega
    refine ⟨fun q3 => ?_, fun q3 => ?_⟩
    · rw [pI_f (fun y => by
        obtain ⟨k2, e2, h1, h2⟩ := y
        have := (key k2 h1 e2).2.mp q3
        omega)] at hΦ
      exact ⟨Or.inl rfl, eR hΦ⟩
    · rw [pI_t ⟨k, e, hk, Nat.le_of_not_lt (fun y => q3 ((key k hk e).2.mpr y))⟩] at hΦ
      exact ⟨Or.inr rfl, eR hΦ⟩
end X22
