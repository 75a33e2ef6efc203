set_option maxRecDepth 100000
/-- which of the names stands here -/
noncomputable def pKn (T : Nat → Int32) (n : Nat) : List Int32 → Nat → PS → Int32 × PS
  | [], _, p => (-1, p)
  | w :: ws, i, p => if (pTk T n w p).1 = 0 then pKn T n ws (i + 1) (pTk T n w p).2 else (nI i, (pTk T n w p).2)
def knW : List Int32 := [six6 8 15 16 5 0 0, six6 8 15 21 18 0 0, six6 3 1 12 12 19 0, six6 19 20 18 5 5 20, six6 13 5 14 0 0 0, six6 23 1 12 11 19 0, six6 14 9 7 8 20 0, six6 8 5 1 18 4 0]
theorem pTk_in {T : Nat → Int32} {n : Nat} {w : Int32} {p : PS} (hp : p.1 ≤ n) : (pTk T n w p).2.1 ≤ n := by
  have h := (pIsW_in (T := T) (w := w) hp).1
  unfold pTk
  dsimp only
  by_cases q : (pIsW T n w p).1 = 0
  · rw [if_pos q]; exact h
  · rw [if_neg q]; exact (swd_le _ _ h).2
section R31
variable {l : Launch} {g : mG} {d : Nat}
theorem r_knownHere {n : Nat} (X : Mm) (p : PS) (hs : X 0 2 = nI n) (hn : n ≤ 600) (hi2 : p.1 ≤ n) (hd : 6 ≤ d) : mFi l g d k_X12_knownHere [.ref 0] (mPS X p) (pKn (X 1) n knW 0 p).1 (mPS X (pKn (X 1) n knW 0 p).2) := by
  refine nFi 0 rfl rfl rfl (by decide) rfl (fun htr o Φ hΦ => mGoOn (mOk (by decide)) rfl [] 400 ?_)
  show True ∧ mCal l g d k_X12_knownHere Φ 0 0 _ 10 k_X12_takes false [.ref 0, .int (8 : Int32), .int (15 : Int32), .int (16 : Int32), .int (5 : Int32), .int (0 : Int32), .int (0 : Int32)] [] [.ref 0] (mPS X p) o 0 0 1
  have hΦ0 : Φ (.inl (some (.int (if (pTk (X 1) n (six6 8 15 16 5 0 0) p).1 = 0 then pKn (X 1) n [six6 8 15 21 18 0 0, six6 3 1 12 12 19 0, six6 19 20 18 5 5 20, six6 13 5 14 0 0 0, six6 23 1 12 11 19 0, six6 14 9 7 8 20 0, six6 8 5 1 18 4 0] 1 (pTk (X 1) n (six6 8 15 16 5 0 0) p).2 else (nI 0, (pTk (X 1) n (six6 8 15 16 5 0 0) p).2)).1))) (mPS X (if (pTk (X 1) n (six6 8 15 16 5 0 0) p).1 = 0 then pKn (X 1) n [six6 8 15 21 18 0 0, six6 3 1 12 12 19 0, six6 19 20 18 5 5 20, six6 13 5 14 0 0 0, six6 23 1 12 11 19 0, six6 14 9 7 8 20 0, six6 8 5 1 18 4 0] 1 (pTk (X 1) n (six6 8 15 16 5 0 0) p).2 else (nI 0, (pTk (X 1) n (six6 8 15 16 5 0 0) p).2)).2) o := hΦ
  refine ⟨trivial, fCi htr (r_takes X p hs hn hi2 (by omega) 8 15 16 5 0 0) (by omega) ?_⟩
  have hin0 := pTk_in (T := X 1) (n := n) (w := six6 8 15 16 5 0 0) hi2
  generalize pTk (X 1) n (six6 8 15 16 5 0 0) p = r0 at hΦ0 hin0 ⊢
  show (r0.1 = 0 → True ∧ mCal l g d k_X12_knownHere Φ 0 0 _ 29 k_X12_takes false [.ref 0, .int (8 : Int32), .int (15 : Int32), .int (21 : Int32), .int (18 : Int32), .int (0 : Int32), .int (0 : Int32)] [] [.ref 0] (mPS X r0.2) o 0 0 1) ∧ (¬ r0.1 = 0 → Φ (.inl (some (.int (0 : Int32)))) (mPS X r0.2) o ∧ 0 ≤ 0 ∧ 0 ≤ 0)
  refine ⟨fun q0 => ?_, fun q0 => by rw [if_neg q0] at hΦ0; exact eR hΦ0⟩
  have hN0 := hΦ0
  rw [if_pos q0] at hN0
  have hΦ1 : Φ (.inl (some (.int (if (pTk (X 1) n (six6 8 15 21 18 0 0) r0.2).1 = 0 then pKn (X 1) n [six6 3 1 12 12 19 0, six6 19 20 18 5 5 20, six6 13 5 14 0 0 0, six6 23 1 12 11 19 0, six6 14 9 7 8 20 0, six6 8 5 1 18 4 0] 2 (pTk (X 1) n (six6 8 15 21 18 0 0) r0.2).2 else (nI 1, (pTk (X 1) n (six6 8 15 21 18 0 0) r0.2).2)).1))) (mPS X (if (pTk (X 1) n (six6 8 15 21 18 0 0) r0.2).1 = 0 then pKn (X 1) n [six6 3 1 12 12 19 0, six6 19 20 18 5 5 20, six6 13 5 14 0 0 0, six6 23 1 12 11 19 0, six6 14 9 7 8 20 0, six6 8 5 1 18 4 0] 2 (pTk (X 1) n (six6 8 15 21 18 0 0) r0.2).2 else (nI 1, (pTk (X 1) n (six6 8 15 21 18 0 0) r0.2).2)).2) o := hN0
  refine ⟨trivial, fCi htr (r_takes X r0.2 hs hn hin0 (by omega) 8 15 21 18 0 0) (by omega) ?_⟩
  have hin1 := pTk_in (T := X 1) (n := n) (w := six6 8 15 21 18 0 0) hin0
  generalize pTk (X 1) n (six6 8 15 21 18 0 0) r0.2 = r1 at hΦ1 hin1 ⊢
  show (r1.1 = 0 → True ∧ mCal l g d k_X12_knownHere Φ 0 0 _ 47 k_X12_takes false [.ref 0, .int (3 : Int32), .int (1 : Int32), .int (12 : Int32), .int (12 : Int32), .int (19 : Int32), .int (0 : Int32)] [] [.ref 0] (mPS X r1.2) o 0 0 1) ∧ (¬ r1.1 = 0 → Φ (.inl (some (.int (1 : Int32)))) (mPS X r1.2) o ∧ 0 ≤ 0 ∧ 0 ≤ 0)
  refine ⟨fun q1 => ?_, fun q1 => by rw [if_neg q1] at hΦ1; exact eR hΦ1⟩
  have hN1 := hΦ1
  rw [if_pos q1] at hN1
  have hΦ2 : Φ (.inl (some (.int (if (pTk (X 1) n (six6 3 1 12 12 19 0) r1.2).1 = 0 then pKn (X 1) n [six6 19 20 18 5 5 20, six6 13 5 14 0 0 0, six6 23 1 12 11 19 0, six6 14 9 7 8 20 0, six6 8 5 1 18 4 0] 3 (pTk (X 1) n (six6 3 1 12 12 19 0) r1.2).2 else (nI 2, (pTk (X 1) n (six6 3 1 12 12 19 0) r1.2).2)).1))) (mPS X (if (pTk (X 1) n (six6 3 1 12 12 19 0) r1.2).1 = 0 then pKn (X 1) n [six6 19 20 18 5 5 20, six6 13 5 14 0 0 0, six6 23 1 12 11 19 0, six6 14 9 7 8 20 0, six6 8 5 1 18 4 0] 3 (pTk (X 1) n (six6 3 1 12 12 19 0) r1.2).2 else (nI 2, (pTk (X 1) n (six6 3 1 12 12 19 0) r1.2).2)).2) o := hN1
  refine ⟨trivial, fCi htr (r_takes X r1.2 hs hn hin1 (by omega) 3 1 12 12 19 0) (by omega) ?_⟩
  have hin2 := pTk_in (T := X 1) (n := n) (w := six6 3 1 12 12 19 0) hin1
  generalize pTk (X 1) n (six6 3 1 12 12 19 0) r1.2 = r2 at hΦ2 hin2 ⊢
  show (r2.1 = 0 → True ∧ mCal l g d k_X12_knownHere Φ 0 0 _ 66 k_X12_takes false [.ref 0, .int (19 : Int32), .int (20 : Int32), .int (18 : Int32), .int (5 : Int32), .int (5 : Int32), .int (20 : Int32)] [] [.ref 0] (mPS X r2.2) o 0 0 1) ∧ (¬ r2.1 = 0 → Φ (.inl (some (.int (2 : Int32)))) (mPS X r2.2) o ∧ 0 ≤ 0 ∧ 0 ≤ 0)
  refine ⟨fun q2 => ?_, fun q2 => by rw [if_neg q2] at hΦ2; exact eR hΦ2⟩
  have hN2 := hΦ2
  rw [if_pos q2] at hN2
  have hΦ3 : Φ (.inl (some (.int (if (pTk (X 1) n (six6 19 20 18 5 5 20) r2.2).1 = 0 then pKn (X 1) n [six6 13 5 14 0 0 0, six6 23 1 12 11 19 0, six6 14 9 7 8 20 0, six6 8 5 1 18 4 0] 4 (pTk (X 1) n (six6 19 20 18 5 5 20) r2.2).2 else (nI 3, (pTk (X 1) n (six6 19 20 18 5 5 20) r2.2).2)).1))) (mPS X (if (pTk (X 1) n (six6 19 20 18 5 5 20) r2.2).1 = 0 then pKn (X 1) n [six6 13 5 14 0 0 0, six6 23 1 12 11 19 0, six6 14 9 7 8 20 0, six6 8 5 1 18 4 0] 4 (pTk (X 1) n (six6 19 20 18 5 5 20) r2.2).2 else (nI 3, (pTk (X 1) n (six6 19 20 18 5 5 20) r2.2).2)).2) o := hN2
  refine ⟨trivial, fCi htr (r_takes X r2.2 hs hn hin2 (by omega) 19 20 18 5 5 20) (by omega) ?_⟩
  have hin3 := pTk_in (T := X 1) (n := n) (w := six6 19 20 18 5 5 20) hin2
  generalize pTk (X 1) n (six6 19 20 18 5 5 20) r2.2 = r3 at hΦ3 hin3 ⊢
  show (r3.1 = 0 → True ∧ mCal l g d k_X12_knownHere Φ 0 0 _ 83 k_X12_takes false [.ref 0, .int (13 : Int32), .int (5 : Int32), .int (14 : Int32), .int (0 : Int32), .int (0 : Int32), .int (0 : Int32)] [] [.ref 0] (mPS X r3.2) o 0 0 1) ∧ (¬ r3.1 = 0 → Φ (.inl (some (.int (3 : Int32)))) (mPS X r3.2) o ∧ 0 ≤ 0 ∧ 0 ≤ 0)
  refine ⟨fun q3 => ?_, fun q3 => by rw [if_neg q3] at hΦ3; exact eR hΦ3⟩
  have hN3 := hΦ3
  rw [if_pos q3] at hN3
  have hΦ4 : Φ (.inl (some (.int (if (pTk (X 1) n (six6 13 5 14 0 0 0) r3.2).1 = 0 then pKn (X 1) n [six6 23 1 12 11 19 0, six6 14 9 7 8 20 0, six6 8 5 1 18 4 0] 5 (pTk (X 1) n (six6 13 5 14 0 0 0) r3.2).2 else (nI 4, (pTk (X 1) n (six6 13 5 14 0 0 0) r3.2).2)).1))) (mPS X (if (pTk (X 1) n (six6 13 5 14 0 0 0) r3.2).1 = 0 then pKn (X 1) n [six6 23 1 12 11 19 0, six6 14 9 7 8 20 0, six6 8 5 1 18 4 0] 5 (pTk (X 1) n (six6 13 5 14 0 0 0) r3.2).2 else (nI 4, (pTk (X 1) n (six6 13 5 14 0 0 0) r3.2).2)).2) o := hN3
  refine ⟨trivial, fCi htr (r_takes X r3.2 hs hn hin3 (by omega) 13 5 14 0 0 0) (by omega) ?_⟩
  have hin4 := pTk_in (T := X 1) (n := n) (w := six6 13 5 14 0 0 0) hin3
  generalize pTk (X 1) n (six6 13 5 14 0 0 0) r3.2 = r4 at hΦ4 hin4 ⊢
  show (r4.1 = 0 → True ∧ mCal l g d k_X12_knownHere Φ 0 0 _ 102 k_X12_takes false [.ref 0, .int (23 : Int32), .int (1 : Int32), .int (12 : Int32), .int (11 : Int32), .int (19 : Int32), .int (0 : Int32)] [] [.ref 0] (mPS X r4.2) o 0 0 1) ∧ (¬ r4.1 = 0 → Φ (.inl (some (.int (4 : Int32)))) (mPS X r4.2) o ∧ 0 ≤ 0 ∧ 0 ≤ 0)
  refine ⟨fun q4 => ?_, fun q4 => by rw [if_neg q4] at hΦ4; exact eR hΦ4⟩
  have hN4 := hΦ4
  rw [if_pos q4] at hN4
  have hΦ5 : Φ (.inl (some (.int (if (pTk (X 1) n (six6 23 1 12 11 19 0) r4.2).1 = 0 then pKn (X 1) n [six6 14 9 7 8 20 0, six6 8 5 1 18 4 0] 6 (pTk (X 1) n (six6 23 1 12 11 19 0) r4.2).2 else (nI 5, (pTk (X 1) n (six6 23 1 12 11 19 0) r4.2).2)).1))) (mPS X (if (pTk (X 1) n (six6 23 1 12 11 19 0) r4.2).1 = 0 then pKn (X 1) n [six6 14 9 7 8 20 0, six6 8 5 1 18 4 0] 6 (pTk (X 1) n (six6 23 1 12 11 19 0) r4.2).2 else (nI 5, (pTk (X 1) n (six6 23 1 12 11 19 0) r4.2).2)).2) o := hN4
  refine ⟨trivial, fCi htr (r_takes X r4.2 hs hn hin4 (by omega) 23 1 12 11 19 0) (by omega) ?_⟩
  have hin5 := pTk_in (T := X 1) (n := n) (w := six6 23 1 12 11 19 0) hin4
  generalize pTk (X 1) n (six6 23 1 12 11 19 0) r4.2 = r5 at hΦ5 hin5 ⊢
  show (r5.1 = 0 → True ∧ mCal l g d k_X12_knownHere Φ 0 0 _ 122 k_X12_takes false [.ref 0, .int (14 : Int32), .int (9 : Int32), .int (7 : Int32), .int (8 : Int32), .int (20 : Int32), .int (0 : Int32)] [] [.ref 0] (mPS X r5.2) o 0 0 1) ∧ (¬ r5.1 = 0 → Φ (.inl (some (.int (5 : Int32)))) (mPS X r5.2) o ∧ 0 ≤ 0 ∧ 0 ≤ 0)
  refine ⟨fun q5 => ?_, fun q5 => by rw [if_neg q5] at hΦ5; exact eR hΦ5⟩
  have hN5 := hΦ5
  rw [if_pos q5] at hN5
  have hΦ6 : Φ (.inl (some (.int (if (pTk (X 1) n (six6 14 9 7 8 20 0) r5.2).1 = 0 then pKn (X 1) n [six6 8 5 1 18 4 0] 7 (pTk (X 1) n (six6 14 9 7 8 20 0) r5.2).2 else (nI 6, (pTk (X 1) n (six6 14 9 7 8 20 0) r5.2).2)).1))) (mPS X (if (pTk (X 1) n (six6 14 9 7 8 20 0) r5.2).1 = 0 then pKn (X 1) n [six6 8 5 1 18 4 0] 7 (pTk (X 1) n (six6 14 9 7 8 20 0) r5.2).2 else (nI 6, (pTk (X 1) n (six6 14 9 7 8 20 0) r5.2).2)).2) o := hN5
  refine ⟨trivial, fCi htr (r_takes X r5.2 hs hn hin5 (by omega) 14 9 7 8 20 0) (by omega) ?_⟩
  have hin6 := pTk_in (T := X 1) (n := n) (w := six6 14 9 7 8 20 0) hin5
  generalize pTk (X 1) n (six6 14 9 7 8 20 0) r5.2 = r6 at hΦ6 hin6 ⊢
  show (r6.1 = 0 → True ∧ mCal l g d k_X12_knownHere Φ 0 0 _ 140 k_X12_takes false [.ref 0, .int (8 : Int32), .int (5 : Int32), .int (1 : Int32), .int (18 : Int32), .int (4 : Int32), .int (0 : Int32)] [] [.ref 0] (mPS X r6.2) o 0 0 1) ∧ (¬ r6.1 = 0 → Φ (.inl (some (.int (6 : Int32)))) (mPS X r6.2) o ∧ 0 ≤ 0 ∧ 0 ≤ 0)
  refine ⟨fun q6 => ?_, fun q6 => by rw [if_neg q6] at hΦ6; exact eR hΦ6⟩
  have hN6 := hΦ6
  rw [if_pos q6] at hN6
  have hΦ7 : Φ (.inl (some (.int (if (pTk (X 1) n (six6 8 5 1 18 4 0) r6.2).1 = 0 then pKn (X 1) n [] 8 (pTk (X 1) n (six6 8 5 1 18 4 0) r6.2).2 else (nI 7, (pTk (X 1) n (six6 8 5 1 18 4 0) r6.2).2)).1))) (mPS X (if (pTk (X 1) n (six6 8 5 1 18 4 0) r6.2).1 = 0 then pKn (X 1) n [] 8 (pTk (X 1) n (six6 8 5 1 18 4 0) r6.2).2 else (nI 7, (pTk (X 1) n (six6 8 5 1 18 4 0) r6.2).2)).2) o := hN6
  refine ⟨trivial, fCi htr (r_takes X r6.2 hs hn hin6 (by omega) 8 5 1 18 4 0) (by omega) ?_⟩
  have hin7 := pTk_in (T := X 1) (n := n) (w := six6 8 5 1 18 4 0) hin6
  generalize pTk (X 1) n (six6 8 5 1 18 4 0) r6.2 = r7 at hΦ7 hin7 ⊢
  show (r7.1 = 0 → Φ (.inl (some (.int (-1 : Int32)))) (mPS X r7.2) o ∧ 0 ≤ 0 ∧ 0 ≤ 0) ∧ (¬ r7.1 = 0 → Φ (.inl (some (.int (7 : Int32)))) (mPS X r7.2) o ∧ 0 ≤ 0 ∧ 0 ≤ 0)
  exact ⟨fun q => by rw [if_pos q] at hΦ7; exact eR hΦ7, fun q => by rw [if_neg q] at hΦ7; exact eR hΦ7⟩
end R31
