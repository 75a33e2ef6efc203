set_option maxRecDepth 100000
/-! THE WORD OF SEVEN LETTERS -/
theorem wdl_enc7 {T : Nat → Int32} {n b : Nat} : ∀ f k v, v = nI (enc (ltr T n b) (min 6 k)) → (∀ j, j < k → isSm (bAt T n (b + j))) → (wdl T n b f k v).2 = nI (enc (ltr T n b) (min 6 (wdl T n b f k v).1))
  | 0, k, v, hv, hs => hv
  | f + 1, k, v, hv, hs => by
    by_cases q : isSm (bAt T n (b + k))
    · rw [wdl_yes q]
      refine wdl_enc7 f (k + 1) _ ?_ (fun j hj => ?_)
      · by_cases hk : k < 6
        · obtain ⟨a1, a2, a3⟩ := ltr_sm q
          have hb := enc_6 (l := ltr T n b) (k := k) (by omega) (fun j hj => (ltr_sm (hs j hj)).2.1)
          rw [if_pos hk, hv, Nat.min_eq_right (by omega), Nat.min_eq_right (by omega), a3, show (27 : Int32) = nI 27 from rfl, show (97 : Int32) = nI 97 from rfl, nI_mul, nI_add, nI_sub (by omega), nI_1]
          show nI _ = nI (27 * enc (ltr T n b) k + ltr T n b k)
          congr 1
          omega
        · rw [if_neg hk, hv, Nat.min_eq_left (by omega), Nat.min_eq_left (by omega)]
      · by_cases e : j = k
        · rw [e]; exact q
        · exact hs j (by omega)
    · rw [wdl_no q]
      exact hv
def isSl (T : Nat → Int32) (n q : Nat) : Prop := (wdl T n q (n - q) 0 0).1 = 7 ∧ (wdl T n q (n - q) 0 0).2 = six6 19 12 5 5 16 5 ∧ bAt T n (q + 6) = 114
theorem tw4 : tLen 4 = 7 ∧ six6 19 12 5 5 16 5 = nI (enc (tw 4) 6) ∧ tCh 4 6 = 114 ∧ ∀ j, j < 6 → (0 < tw 4 j ∧ tw 4 j < 27) ∧ tCh 4 j = nI (96 + tw 4 j) := by decide +kernel
theorem isSl_gen {T : Nat → Int32} {n q : Nat} {w : Nat → Nat} {c : Nat → Int32} (t2 : six6 19 12 5 5 16 5 = nI (enc w 6)) (t3 : c 6 = 114) (t4 : ∀ j, j < 6 → (0 < w j ∧ w j < 27) ∧ c j = nI (96 + w j)) (hq : q ≤ n) : (swd T n (n - q) q - q = 7 ∧ ∀ j, j < 7 → T (q + j) = c j) ↔ isSl T n q := by
  have hw := swd_le (T := T) (n := n) (n - q) q hq
  obtain ⟨h1, h2, h3⟩ := wdl_enc (T := T) (n := n) (b := q) (n - q) 0 0 (fun _ => rfl) (fun j hj => absurd hj (by omega))
  have h4 := wdl_enc7 (T := T) (n := n) (b := q) (n - q) 0 0 rfl (fun j hj => absurd hj (by omega))
  rw [Nat.add_zero] at h1
  unfold isSl
  rw [t2]
  clear t2
  generalize wdl T n q (n - q) 0 0 = r at h1 h2 h3 h4
  rw [← h1]
  have hbT : r.1 = 7 → ∀ j, j < 7 → bAt T n (q + j) = T (q + j) := fun e j hj => by unfold bAt; rw [if_pos (by omega)]
  constructor
  · rintro ⟨e1, e2⟩
    refine ⟨e1, ?_, by rw [hbT e1 6 (by decide), e2 6 (by decide)]; exact t3⟩
    have key : ∀ i, i ≤ 6 → enc (ltr T n q) i = enc w i := by
      intro i
      induction i with
      | zero => exact fun _ => rfl
      | succ i ih =>
        intro hi
        show 27 * enc (ltr T n q) i + ltr T n q i = 27 * enc w i + w i
        have : ltr T n q i = w i := by unfold ltr; rw [hbT e1 i (by omega), e2 i (by omega), (t4 i (by omega)).2, nI_cl (by have := (t4 i (by omega)).1.2; omega)]; omega
        rw [ih (by omega), this]
    rw [h4, e1, show min 6 7 = 6 from rfl, key 6 (Nat.le_refl _)]
  · rintro ⟨e1, e2, e3⟩
    refine ⟨e1, fun j hj => ?_⟩
    rw [h4, e1, show min 6 7 = 6 from rfl] at e2
    have e4 : enc (ltr T n q) 6 = enc w 6 := by
      have b1 := enc_6 (l := ltr T n q) (k := 6) (Nat.le_refl _) (fun j hj => (ltr_sm (h3 j (by omega))).2.1)
      have b2 := enc_6 (l := w) (k := 6) (Nat.le_refl _) (fun j hj => (t4 j hj).1.2)
      exact (nI_eq (by omega) (by omega)).mp e2
    have e5 := (enc_inj 6 6 (fun j hj => ⟨(ltr_sm (h3 j (by omega))).1, (ltr_sm (h3 j (by omega))).2.1⟩) (fun j hj => (t4 j hj).1) e4).2
    rw [← hbT e1 j hj]
    by_cases q6 : j = 6
    · rw [q6, e3, t3]
    · rw [(ltr_sm (h3 j (by omega))).2.2, e5 j (by omega), (t4 j (by omega)).2]
theorem isSl_iff {T : Nat → Int32} {n : Nat} {s : XS} (hs : s.1 ≤ n) : isW T 4 (xWd T n s) ↔ isSl T n (skp T n s.1) := by
  obtain ⟨t1, t2, t3, t4⟩ := tw4
  have e : isW T 4 (xWd T n s) = (swd T n (n - skp T n s.1) (skp T n s.1) - skp T n s.1 = tLen 4 ∧ ∀ j, j < tLen 4 → T (skp T n s.1 + j) = tCh 4 j) := rfl
  rw [e, t1]
  exact isSl_gen t2 t3 t4 (skp_in hs)
theorem isSl_pos {T : Nat → Int32} {n q : Nat} (hq : q ≤ n) (h : isSl T n q) : q < swd T n (n - q) q := by
  obtain ⟨h1, h2, h3⟩ := wdl_enc (T := T) (n := n) (b := q) (n - q) 0 0 (fun _ => rfl) (fun j hj => absurd hj (by omega))
  rw [Nat.add_zero, h.1] at h1
  omega
theorem isSl_cg {T T' : Nat → Int32} {n : Nat} (h : bAt T n = bAt T' n) : isSl T n = isSl T' n := by
  funext q
  unfold isSl
  rw [wdl_cg h, h]
section R37
variable {l : Launch} {g : mG} {d : Nat}
theorem r_isSlL (htr : l.stackTraces = false) (hd : 2 ≤ d) (o : Int64) {Φ : mR → Mm → Int64 → Prop} {n : Nat} (m : Mm) (s : PS) (hs : m 0 2 = nI n) (hn : n ≤ 600) (hi2 : s.1 ≤ n) : ∀ (f k : Nat) (v : Int32), n - (s.1 + k) ≤ f → s.1 + k ≤ n → mWB l g d k_X12_isSleeper Φ 0 0 61 [.ref 0, .int ((wdl (m 1) n s.1 f k v).2), .int (nI (wdl (m 1) n s.1 f k v).1)] [] (mPS m s) o 0 0 → mWB l g d k_X12_isSleeper Φ 0 0 8 [.ref 0, .int v, .int (nI k)] [] (mPS m s) o 0 0 := by
  intro f
  induction f with
  | zero =>
    intro k v hf hk h
    refine mGoOn (mOk (by decide)) rfl [8,61] 400 ?_
    show True ∧ mCal l g d k_X12_isSleeper Φ 0 0 _ 15 k_X12_byteAt false [.ref 0, .int (((mPS m s) 0 4) + (nI k))] [] [.ref 0, .int v, .int (nI k)] (mPS m s) o 0 0 1
    rw [mPS_4, nI_add]
    refine ⟨trivial, fCi htr (q_byteAt m s hs hn (by omega)) (by omega) ?_⟩
    have hnd : ¬ isSm (bAt (m 1) n (s.1 + k)) := fun q => by have := sm_lt q; omega
    generalize bAt (m 1) n (s.1 + k) = c at hnd ⊢
    show mCal l g d k_X12_isSleeper Φ 0 0 _ 18 k_X12_isSmall false [.int c] [] [.ref 0, .int v, .int (nI k)] (mPS m s) o 0 0 1
    refine fCi htr (q_isSmall c _) (by omega) ?_
    show ((pI (isSm c)) = 0 → mWB l g d k_X12_isSleeper Φ 0 0 61 [.ref 0, .int v, .int (nI k)] [] (mPS m s) o 0 0) ∧ (¬ (pI (isSm c)) = 0 → ((6 : Int32) ≤ (nI k) → mWB l g d k_X12_isSleeper Φ 0 0 8 [.ref 0, .int v, .int ((nI k) + (1 : Int32))] [] (mPS m s) o 0 0) ∧ (¬ (6 : Int32) ≤ (nI k) → True ∧ mCal l g d k_X12_isSleeper Φ 0 0 _ 41 k_X12_byteAt false [.ref 0, .int (((mPS m s) 0 4) + (nI k))] [.int ((27 : Int32) * v)] [.ref 0, .int v, .int (nI k)] (mPS m s) o 0 0 1))
    exact ⟨fun _ => h, fun q => absurd (pI_1.mp q) hnd⟩
  | succ f ih =>
    intro k v hf hk h
    refine mGoOn (mOk (by decide)) rfl [8,61] 400 ?_
    show True ∧ mCal l g d k_X12_isSleeper Φ 0 0 _ 15 k_X12_byteAt false [.ref 0, .int (((mPS m s) 0 4) + (nI k))] [] [.ref 0, .int v, .int (nI k)] (mPS m s) o 0 0 1
    rw [mPS_4, nI_add]
    refine ⟨trivial, fCi htr (q_byteAt m s hs hn (by omega)) (by omega) ?_⟩
    generalize hc : bAt (m 1) n (s.1 + k) = c
    show mCal l g d k_X12_isSleeper Φ 0 0 _ 18 k_X12_isSmall false [.int c] [] [.ref 0, .int v, .int (nI k)] (mPS m s) o 0 0 1
    refine fCi htr (q_isSmall c _) (by omega) ?_
    show ((pI (isSm c)) = 0 → mWB l g d k_X12_isSleeper Φ 0 0 61 [.ref 0, .int v, .int (nI k)] [] (mPS m s) o 0 0) ∧ (¬ (pI (isSm c)) = 0 → ((6 : Int32) ≤ (nI k) → mWB l g d k_X12_isSleeper Φ 0 0 8 [.ref 0, .int v, .int ((nI k) + (1 : Int32))] [] (mPS m s) o 0 0) ∧ (¬ (6 : Int32) ≤ (nI k) → True ∧ mCal l g d k_X12_isSleeper Φ 0 0 _ 41 k_X12_byteAt false [.ref 0, .int (((mPS m s) 0 4) + (nI k))] [.int ((27 : Int32) * v)] [.ref 0, .int v, .int (nI k)] (mPS m s) o 0 0 1))
    refine ⟨fun q => ?_, fun q => ?_⟩
    · rw [wdl_no (by rw [hc]; exact pI_0.mp q)] at h
      exact h
    · have hsm := pI_1.mp q
      have hlt : s.1 + k < n := sm_lt (by rw [hc]; exact hsm)
      rw [wdl_yes (by rw [hc]; exact hsm), hc] at h
      have key : ∀ w : Int32, w = (if k < 6 then 27 * v + c - 97 + 1 else v) → mWB l g d k_X12_isSleeper Φ 0 0 8 [.ref 0, .int w, .int (nI k + 1)] [] (mPS m s) o 0 0 := by
        intro w hw
        rw [nI_1, hw]
        exact ih (k + 1) _ (by omega) (by omega) h
      refine ⟨fun h2 => key _ ?_, fun h2 => ?_⟩
      · rw [if_neg (fun q => by have := (nI_leI (a := 6) (b := k) (by omega) (by omega)).mp h2; omega)]
      · rw [mPS_4, nI_add]
        refine ⟨trivial, fCi htr (q_byteAt m s hs hn (by omega)) (by omega) ?_⟩
        rw [hc]
        refine key (27 * v + c - 97 + 1) ?_
        rw [if_pos (by
          by_cases q : k < 6
          · exact q
          · exact absurd ((nI_leI (a := 6) (b := k) (by omega) (by omega)).mpr (by omega)) h2)]
theorem r_isSleeper {n : Nat} (m : Mm) (s : PS) (hs : m 0 2 = nI n) (hn : n ≤ 600) (hi2 : s.1 ≤ n) (hq : skp (m 1) n s.1 = s.1) (hd : 3 ≤ d) : mFi l g d k_X12_isSleeper [.ref 0] (mPS m s) (pI (isSl (m 1) n s.1)) (mPS m s) := by
  refine nFi 2 rfl rfl rfl (by decide) rfl (fun htr o Φ hΦ => mGoOn (mOk (by decide)) rfl [8] 400 ?_)
  show True ∧ mCal l g d k_X12_isSleeper Φ 0 0 _ 1 k_X12_blanks false [.ref 0] [] [.ref 0, mJ, mJ] (mPS m s) o 0 0 0
  have hbl := q_blanks (l := l) (g := g) (d := d - 1) m s hs hn (by omega) (by omega)
  have ep : pBl (m 1) n s = s := by unfold pBl; rw [hq]
  rw [ep] at hbl
  refine ⟨trivial, fCv htr hbl (by omega) ?_⟩
  show mWB l g d k_X12_isSleeper Φ 0 0 8 [.ref 0, .int (0 : Int32), .int (0 : Int32)] [] (mPS m s) o 0 0
  refine r_isSlL htr (by omega) o m s hs hn hi2 (n - s.1) 0 0 (by omega) (by omega) ?_
  have hsw := (wdl_enc (T := m 1) (n := n) (b := s.1) (n - s.1) 0 0 (fun _ => rfl) (fun j hj => absurd hj (by omega))).1
  have hle := (swd_le (T := m 1) (n := n) (n - s.1) (s.1 + 0) (by omega)).2
  have hdef : isSl (m 1) n s.1 = ((wdl (m 1) n s.1 (n - s.1) 0 0).1 = 7 ∧ (wdl (m 1) n s.1 (n - s.1) 0 0).2 = six6 19 12 5 5 16 5 ∧ bAt (m 1) n (s.1 + 6) = 114) := rfl
  rw [hdef] at hΦ
  generalize wdl (m 1) n s.1 (n - s.1) 0 0 = r at hsw hΦ ⊢
  refine mGoOn (mOk (by decide)) rfl [104] 400 ?_
  show (¬ (nI r.1) = (7 : Int32) → mWB l g d k_X12_isSleeper Φ 0 0 104 [.ref 0, .int r.2, .int (nI r.1)] [.int (0 : Int32)] (mPS m s) o 0 0) ∧ ((nI r.1) = (7 : Int32) → mCal l g d k_X12_isSleeper Φ 0 0 _ 77 k_X12_six false [.int (19 : Int32), .int (12 : Int32), .int (5 : Int32), .int (5 : Int32), .int (16 : Int32), .int (5 : Int32)] [.int r.2] [.ref 0, .int r.2, .int (nI r.1)] (mPS m s) o 0 0 1)
  rw [show (7 : Int32) = nI 7 from rfl, nI_eq (by omega) (by decide)]
  have bad : pI (r.1 = 7 ∧ r.2 = six6 19 12 5 5 16 5 ∧ bAt (m 1) n (s.1 + 6) = 114) = 0 → mWB l g d k_X12_isSleeper Φ 0 0 104 [.ref 0, .int r.2, .int (nI r.1)] [.int (0 : Int32)] (mPS m s) o 0 0 := by
    intro q
    rw [q] at hΦ
    refine mGoOn (mOk (by decide)) rfl [] 400 ?_
    show ((0 : Int32) = 0 ∨ (0 : Int32) = 1) ∧ Φ (.inl (some (.int (0 : Int32)))) (mPS m s) o ∧ 0 ≤ 0 ∧ 0 ≤ 0
    exact ⟨Or.inl rfl, eR hΦ⟩
  refine ⟨fun q => bad (pI_f (fun y => q y.1)), fun q7 => fCi htr (r_six 19 12 5 5 16 5 _) (by omega) ?_⟩
  show (¬ r.2 = (six6 19 12 5 5 16 5) → mWB l g d k_X12_isSleeper Φ 0 0 104 [.ref 0, .int r.2, .int (nI r.1)] [.int (0 : Int32)] (mPS m s) o 0 0) ∧ (r.2 = (six6 19 12 5 5 16 5) → True ∧ mCal l g d k_X12_isSleeper Φ 0 0 _ 91 k_X12_byteAt false [.ref 0, .int (((mPS m s) 0 4) + (6 : Int32))] [] [.ref 0, .int r.2, .int (nI r.1)] (mPS m s) o 0 0 1)
  rw [mPS_4, show (6 : Int32) = nI 6 from rfl, nI_add]
  refine ⟨fun q => bad (pI_f (fun y => q y.2.1)), fun q2 => ⟨trivial, fCi htr (q_byteAt m s hs hn (by omega)) (by omega) ?_⟩⟩
  show (¬ (bAt (m 1) n (s.1 + 6)) = (114 : Int32) → mWB l g d k_X12_isSleeper Φ 0 0 104 [.ref 0, .int r.2, .int (nI r.1)] [.int (0 : Int32)] (mPS m s) o 0 0) ∧ ((bAt (m 1) n (s.1 + 6)) = (114 : Int32) → mWB l g d k_X12_isSleeper Φ 0 0 104 [.ref 0, .int r.2, .int (nI r.1)] [.int (1 : Int32)] (mPS m s) o 0 0)
  refine ⟨fun q => bad (pI_f (fun y => q y.2.2)), fun q3 => ?_⟩
  refine mGoOn (mOk (by decide)) rfl [] 400 ?_
  show ((1 : Int32) = 0 ∨ (1 : Int32) = 1) ∧ Φ (.inl (some (.int (1 : Int32)))) (mPS m s) o ∧ 0 ≤ 0 ∧ 0 ≤ 0
  rw [pI_t ⟨q7, q2, q3⟩] at hΦ
  exact ⟨Or.inr rfl, eR hΦ⟩
end R37
