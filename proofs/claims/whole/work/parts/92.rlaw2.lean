set_option maxRecDepth 100000
/-- what the reference's reading of a piece owes -/
def rC (l : Launch) (g : mG) (n : Nat) (X0 : Mm) (km md D N : Nat) : Prop := ∀ (d k : Nat) (s : QS) (X : Mm), 3 * (6 - k) + D ≤ d → k ≤ 6 → (s.1.2.1 = 0 → 5 * (n - s.1.1) + md < N) → s.1.1 ≤ n → s.2.length ≤ s.1.1 → okL s.2 0 → RLw X0 k s.2 X → mHv l g d km [.ref 0] (mPS X s.1) (fun m2 => ∃ s' X', Lw (X0 1) n N md k s s' ∧ m2 = mPS X' s'.1 ∧ RLw X0 k s'.2 X')
theorem nI_nm {a : Nat} (h : a < 2 ^ 31) : nI a ≠ -1 := by
  intro z
  have e := congrArg Int32.toInt z
  rw [nI_toInt h] at e
  have e2 : (-1 : Int32).toInt = -1 := rfl
  omega
section R33
variable {l : Launch} {g : mG} {n : Nat} {X0 : Mm}
theorem r_oneN (hn : n ≤ 150) (h2 : X0 0 2 = nI n) {N : Nat} (IH : rC l g n X0 k_X12_sum 4 10 N) : rC l g n X0 k_X12_one 0 8 (N + 1) := by
  intro d k s X hd hk6 hN hs hlen hok hR
  have eX2 : X 0 2 = nI n := by rw [hR.2.1 2 (by decide) (by decide)]; exact h2
  have eX1 : X 1 = X0 1 := hR.1 1 (by decide) (by omega)
  by_cases hf : s.1.2.1 = 0
  · have hN0 := hN hf
    have hqn := skp_in (T := X0 1) hs
    have hqq := skp_skp (T := X0 1) hs
    have hge := skp_ge (T := X0 1) hs
    refine nBv 2 rfl rfl rfl (by decide) rfl (fun htr o Φ hΦ => mGoOn (mOk (by decide)) rfl [56] 400 ?_)
    show (((mPS X s.1) 0 5) = 0 → True ∧ mCal l g d k_X12_one Φ 0 0 _ 9 k_X12_blanks false [.ref 0] [] [.ref 0, mJ, mJ] (mPS X s.1) o 0 0 0) ∧ (¬ ((mPS X s.1) 0 5) = 0 → Φ (.inl none) (mPS X s.1) o ∧ 0 ≤ 0 ∧ 0 ≤ 0)
    rw [mPS_5]
    refine ⟨fun _ => ?_, fun z => absurd hf z⟩
    have hbl := q_blanks (l := l) (g := g) (d := d - 1) X s.1 eX2 (by omega) (by omega) (by omega)
    rw [eX1] at hbl
    refine ⟨trivial, fCv htr hbl (by omega) ?_⟩
    have hΦ' : ∀ s' X', LO (X0 1) n (Lw (X0 1) n N 4) k s s' → RLw X0 k s'.2 X' → Φ (.inl none) (mPS X' s'.1) o := fun s' X' a b => hΦ _ ⟨s', X', Or.inr ⟨hf, Or.inl ⟨rfl, a⟩⟩, rfl, b⟩
    have hle := r_isWord (l := l) (g := g) (d := d - 1) X (skp (X0 1) n s.1.1, s.1.2) eX2 (by omega) hqn (by omega) 12 5 1 19 20 0
    have hmo := r_isWord (l := l) (g := g) (d := d - 1) X (skp (X0 1) n s.1.1, s.1.2) eX2 (by omega) hqn (by omega) 13 15 19 20 0 0
    rw [eX1, pIsW_at (p := (skp (X0 1) n s.1.1, s.1.2)) hf hqq] at hle hmo
    have hop := r_opensOne (l := l) (g := g) (d := d - 1) (X := X) (p := (skp (X0 1) n s.1.1, s.1.2)) hR.2.2.1 hk6 (by omega)
    show True ∧ mCal l g d k_X12_one Φ 0 0 _ 22 k_X12_isWord false [.ref 0, .int (12 : Int32), .int (5 : Int32), .int (1 : Int32), .int (19 : Int32), .int (20 : Int32), .int (0 : Int32)] [] [.ref 0, mJ, mJ] (mPS X (skp (X0 1) n s.1.1, s.1.2)) o 0 0 1
    have k56 : ∀ b, ((b = 7 ∧ wHere (X0 1) n (skp (X0 1) n s.1.1) = wLe) ∨ (b = 8 ∧ wHere (X0 1) n (skp (X0 1) n s.1.1) = wMo)) → mWB l g d k_X12_one Φ 0 0 56 [.ref 0, mJ, mJ] [.int (nI b)] (mPS X (skp (X0 1) n s.1.1, s.1.2)) o 0 0 := by
      intro b hb
      have hb2 : 2 ≤ b ∧ b ≤ 8 := by rcases hb with ⟨e, _⟩ | ⟨e, _⟩ <;> omega
      have hw0 : wHere (X0 1) n (skp (X0 1) n s.1.1) ≠ 0 := by
        rcases hb with ⟨_, e⟩ | ⟨_, e⟩
        · rw [e]; exact wLe_0.1
        · rw [e]; exact wLe_0.2.1
      obtain ⟨_, p1, p2, p3⟩ := wH_pos hqn hw0
      refine mGoOn (mOk (by decide)) rfl [] 400 ?_
      show ((nI b) = (-1 : Int32) → True ∧ mCal l g d k_X12_one Φ 0 0 _ 122 k_X12_byteAt false [.ref 0, .int ((mPS X (skp (X0 1) n s.1.1, s.1.2)) 0 4)] [] [.ref 0, .int (nI b), mJ] (mPS X (skp (X0 1) n s.1.1, s.1.2)) o 0 0 1) ∧ (¬ (nI b) = (-1 : Int32) → True ∧ mCal l g d k_X12_one Φ 0 0 _ 63 k_X12_opensOne false [.ref 0] [] [.ref 0, .int (nI b), mJ] (mPS X (skp (X0 1) n s.1.1, s.1.2)) o 0 0 1)
      refine ⟨fun z => absurd z (nI_nm (by omega)), fun _ => ⟨trivial, ?_⟩⟩
      by_cases hk : k < 6
      · rw [if_pos ⟨hf, hk⟩, if_pos hf, if_pos hk] at hop
        refine fCi htr hop (by omega) ?_
        have R1 := RLw_k (k' := k + 1) hR
        generalize mset X 0 8 (nI (k + 1)) = X1 at R1 ⊢
        have f2 : X1 0 2 = nI n := by rw [R1.2.1 2 (by decide) (by decide)]; exact h2
        have f1 : X1 1 = X0 1 := R1.1 1 (by decide) (by omega)
        show (¬ (1 : Int32) = 0 → True ∧ mCal l g d k_X12_one Φ 0 0 _ 71 k_X12_skipWord false [.ref 0] [] [.ref 0, .int (nI b), mJ] (mPS X1 (skp (X0 1) n s.1.1, s.1.2)) o 0 0 0) ∧ ((1 : Int32) = 0 → Φ (.inl none) (mPS X1 (skp (X0 1) n s.1.1, s.1.2)) o ∧ 0 ≤ 0 ∧ 0 ≤ 0)
        refine ⟨fun _ => ?_, fun z => absurd z (by decide)⟩
        have hsw := r_skipWord (l := l) (g := g) (d := d - 1) X1 (skp (X0 1) n s.1.1, s.1.2) f2 (by omega) hqn (by omega)
        rw [f1] at hsw
        refine ⟨trivial, fCv htr hsw (by omega) ?_⟩
        have B0 := Aft_sg (T := X0 1) (n := n) (c := 91) (by decide) (s := ((swd (X0 1) n (n - skp (X0 1) n s.1.1) (skp (X0 1) n s.1.1), s.1.2), s.2)) p3 hok
        show True ∧ mCal l g d k_X12_one Φ 0 0 _ 77 k_X12_sign false [.ref 0, .int (91 : Int32)] [] [.ref 0, .int (nI b), mJ] (mPS X1 (swd (X0 1) n (n - skp (X0 1) n s.1.1) (skp (X0 1) n s.1.1), s.1.2)) o 0 0 0
        have hs1 := r_sign (l := l) (g := g) (d := d - 1) X1 (swd (X0 1) n (n - skp (X0 1) n s.1.1) (skp (X0 1) n s.1.1), s.1.2) f2 (by omega) p3 (by omega) 91
        rw [f1] at hs1
        refine ⟨trivial, fCv htr hs1 (by omega) ?_⟩
        have c1 : s.2.length + swd (X0 1) n (n - skp (X0 1) n s.1.1) (skp (X0 1) n s.1.1) ≤ (lSg (X0 1) n 91 ((swd (X0 1) n (n - skp (X0 1) n s.1.1) (skp (X0 1) n s.1.1), s.1.2), s.2)).1.1 + s.2.length := B0.2.2.1
        have c1n : (lSg (X0 1) n 91 ((swd (X0 1) n (n - skp (X0 1) n s.1.1) (skp (X0 1) n s.1.1), s.1.2), s.2)).1.1 ≤ n := B0.1.1
        show True ∧ mCal l g d k_X12_one Φ 0 0 _ 81 k_X12_sum false [.ref 0] [] [.ref 0, .int (nI b), mJ] (mPS X1 (lSg (X0 1) n 91 ((swd (X0 1) n (n - skp (X0 1) n s.1.1) (skp (X0 1) n s.1.1), s.1.2), s.2)).1) o 0 0 0
        refine ⟨trivial, nCv htr (IH (d - 1) (k + 1) (lSg (X0 1) n 91 ((swd (X0 1) n (n - skp (X0 1) n s.1.1) (skp (X0 1) n s.1.1), s.1.2), s.2)) X1 (by omega) (by omega) (fun _ => by omega) B0.1.1 (by show s.2.length ≤ _; omega) hok R1) (by omega) ?_⟩
        rintro _ ⟨s1, X2, L1, rfl, R2⟩
        have g2 : X2 0 2 = nI n := by rw [R2.2.1 2 (by decide) (by decide)]; exact h2
        have g1 : X2 1 = X0 1 := R2.1 1 (by decide) (by omega)
        have B1 := Lw_ok _ _ _ _ _ L1 B0.1.1 hok (fun z => by omega)
        have B2 := Aft_sg (T := X0 1) (n := n) (c := 44) (by decide) (s := s1) B1.1.1 B1.2.2.2.1
        show True ∧ mCal l g d k_X12_one Φ 0 0 _ 87 k_X12_sign false [.ref 0, .int (44 : Int32)] [] [.ref 0, .int (nI b), mJ] (mPS X2 s1.1) o 0 0 0
        have hs2 := r_sign (l := l) (g := g) (d := d - 1) X2 s1.1 g2 (by omega) B1.1.1 (by omega) 44
        rw [g1] at hs2
        refine ⟨trivial, fCv htr hs2 (by omega) ?_⟩
        have c2 : s1.2.length + (lSg (X0 1) n 91 ((swd (X0 1) n (n - skp (X0 1) n s.1.1) (skp (X0 1) n s.1.1), s.1.2), s.2)).1.1 ≤ s1.1.1 + s.2.length := B1.2.2.1
        have c2n : (lSg (X0 1) n 91 ((swd (X0 1) n (n - skp (X0 1) n s.1.1) (skp (X0 1) n s.1.1), s.1.2), s.2)).1.1 ≤ s1.1.1 := B1.1.2
        have c3 : s1.1.1 ≤ (lSg (X0 1) n 44 s1).1.1 := B2.1.2
        show True ∧ mCal l g d k_X12_one Φ 0 0 _ 91 k_X12_sum false [.ref 0] [] [.ref 0, .int (nI b), mJ] (mPS X2 (lSg (X0 1) n 44 s1).1) o 0 0 0
        refine ⟨trivial, nCv htr (IH (d - 1) (k + 1) (lSg (X0 1) n 44 s1) X2 (by omega) (by omega) (fun _ => by omega) B2.1.1 (by show s1.2.length ≤ _; omega) B1.2.2.2.1 R2) (by omega) ?_⟩
        rintro _ ⟨s2, X3, L2, rfl, R3⟩
        have i2 : X3 0 2 = nI n := by rw [R3.2.1 2 (by decide) (by decide)]; exact h2
        have i1 : X3 1 = X0 1 := R3.1 1 (by decide) (by omega)
        have B3 := Lw_ok _ _ _ _ _ L2 B2.1.1 B1.2.2.2.1 (fun z => by omega)
        show True ∧ mCal l g d k_X12_one Φ 0 0 _ 97 k_X12_sign false [.ref 0, .int (93 : Int32)] [] [.ref 0, .int (nI b), mJ] (mPS X3 s2.1) o 0 0 0
        have hs3 := r_sign (l := l) (g := g) (d := d - 1) X3 s2.1 i2 (by omega) B3.1.1 (by omega) 93
        rw [i1] at hs3
        refine ⟨trivial, fCv htr hs3 (by omega) ?_⟩
        have c4 : s2.2.length + (lSg (X0 1) n 44 s1).1.1 ≤ s2.1.1 + s1.2.length := B3.2.2.1
        have c4n : s2.1.1 ≤ n := B3.1.1
        have hl160 : s2.2.length < 160 := by omega
        show True ∧ mCal l g d k_X12_one Φ 0 0 _ 103 k_X12_notes false [.ref 0, .int (nI b), .int (0 : Int32)] [] [.ref 0, .int (nI b), mJ] (mPS X3 (lSg (X0 1) n 93 s2).1) o 0 0 0
        refine ⟨trivial, fCv htr (r_notes R3.2.2.2.1 hl160 (nI b) 0) (by omega) ?_⟩
        have R4 := RLw_nt (a := b) (b := 0) (s := lSg (X0 1) n 93 s2) R3 hl160
        have e0 : (nI 0 : Int32) = 0 := rfl
        rw [e0] at R4
        have R4' : RLw X0 (k + 1) (lNt b 0 (lSg (X0 1) n 93 s2)).2 (if (lSg (X0 1) n 93 s2).1.2.1 = 0 then lNote X3 s2.2.length (nI b) 0 else X3) := R4
        generalize (if (lSg (X0 1) n 93 s2).1.2.1 = 0 then lNote X3 s2.2.length (nI b) 0 else X3) = X4 at R4' ⊢
        show (Value.ref 0).category = 1 ∧ (Φ (.inl none) (mset (mPS X4 (lSg (X0 1) n 93 s2).1) 0 8 (((mPS X4 (lSg (X0 1) n 93 s2).1) 0 8) - (1 : Int32))) o ∧ 0 ≤ 0 ∧ 0 ≤ 0)
        rw [mPS_f _ _ (by decide) (by decide) (by decide), R4'.2.2.1, nI_pred, mPS_set0 _ _ (by decide) (by decide) (by decide)]
        have hfin := hΦ' (lNt b 0 (lSg (X0 1) n 93 s2)) (mset X4 0 8 (nI k)) (Or.inl ⟨b, hb, Or.inl ⟨hk, s1, s2, L1, L2, rfl⟩⟩) (RLw_k R4')
        rw [lNt_1] at hfin
        exact ⟨rfl, eR hfin⟩
      · rw [if_neg (fun z => hk z.2), if_pos hf, if_neg hk] at hop
        have e : pWr 3 (nI (skp (X0 1) n s.1.1)) (skp (X0 1) n s.1.1, s.1.2) = (skp (X0 1) n s.1.1, 3, nI (skp (X0 1) n s.1.1)) := if_pos hf
        have e' : pWr 3 (nI ((skp (X0 1) n s.1.1, s.1.2) : PS).1) (skp (X0 1) n s.1.1, s.1.2) = (skp (X0 1) n s.1.1, 3, nI (skp (X0 1) n s.1.1)) := e
        rw [e'] at hop
        refine fCi htr hop (by omega) ?_
        show (¬ (0 : Int32) = 0 → True ∧ mCal l g d k_X12_one Φ 0 0 _ 71 k_X12_skipWord false [.ref 0] [] [.ref 0, .int (nI b), mJ] (mPS X (skp (X0 1) n s.1.1, 3, nI (skp (X0 1) n s.1.1))) o 0 0 0) ∧ ((0 : Int32) = 0 → Φ (.inl none) (mPS X (skp (X0 1) n s.1.1, 3, nI (skp (X0 1) n s.1.1))) o ∧ 0 ≤ 0 ∧ 0 ≤ 0)
        exact ⟨fun z => absurd rfl z, fun _ => eR (hΦ' ((skp (X0 1) n s.1.1, 3, nI (skp (X0 1) n s.1.1)), s.2) X (Or.inl ⟨b, hb, Or.inr ⟨hk, rfl⟩⟩) hR)⟩
    refine ⟨trivial, fCi htr hle (by omega) ?_⟩
    show ((pI (wHere (X0 1) n (skp (X0 1) n s.1.1) = wLe)) = 0 → True ∧ mCal l g d k_X12_one Φ 0 0 _ 44 k_X12_isWord false [.ref 0, .int (13 : Int32), .int (15 : Int32), .int (19 : Int32), .int (20 : Int32), .int (0 : Int32), .int (0 : Int32)] [] [.ref 0, mJ, mJ] (mPS X (skp (X0 1) n s.1.1, s.1.2)) o 0 0 1) ∧ (¬ (pI (wHere (X0 1) n (skp (X0 1) n s.1.1) = wLe)) = 0 → mWB l g d k_X12_one Φ 0 0 56 [.ref 0, mJ, mJ] [.int (7 : Int32)] (mPS X (skp (X0 1) n s.1.1, s.1.2)) o 0 0)
    refine ⟨fun n1 => ?_, fun y => k56 7 (Or.inl ⟨rfl, pI_1.mp y⟩)⟩
    replace n1 := pI_0.mp n1
    refine ⟨trivial, fCi htr hmo (by omega) ?_⟩
    show ((pI (wHere (X0 1) n (skp (X0 1) n s.1.1) = wMo)) = 0 → mWB l g d k_X12_one Φ 0 0 56 [.ref 0, mJ, mJ] [.int (-1 : Int32)] (mPS X (skp (X0 1) n s.1.1, s.1.2)) o 0 0) ∧ (¬ (pI (wHere (X0 1) n (skp (X0 1) n s.1.1) = wMo)) = 0 → mWB l g d k_X12_one Φ 0 0 56 [.ref 0, mJ, mJ] [.int (8 : Int32)] (mPS X (skp (X0 1) n s.1.1, s.1.2)) o 0 0)
    refine ⟨fun n2 => ?_, fun y => k56 8 (Or.inr ⟨rfl, pI_1.mp y⟩)⟩
    replace n2 := pI_0.mp n2
    have hΦ2 : ∀ s' X', (LB (X0 1) n (Lw (X0 1) n N 4) k s s' ∨ (bAt (X0 1) n (skp (X0 1) n s.1.1) ≠ 40 ∧ (LC (X0 1) n s s' ∨ LD (X0 1) n s s'))) → RLw X0 k s'.2 X' → Φ (.inl none) (mPS X' s'.1) o := fun s' X' a b => hΦ' s' X' (Or.inr ⟨⟨n1, n2⟩, a⟩) b
    refine mGoOn (mOk (by decide)) rfl [] 400 ?_
    show ((-1 : Int32) = (-1 : Int32) → True ∧ mCal l g d k_X12_one Φ 0 0 _ 122 k_X12_byteAt false [.ref 0, .int ((mPS X (skp (X0 1) n s.1.1, s.1.2)) 0 4)] [] [.ref 0, .int (-1 : Int32), mJ] (mPS X (skp (X0 1) n s.1.1, s.1.2)) o 0 0 1) ∧ (¬ (-1 : Int32) = (-1 : Int32) → True ∧ mCal l g d k_X12_one Φ 0 0 _ 63 k_X12_opensOne false [.ref 0] [] [.ref 0, .int (-1 : Int32), mJ] (mPS X (skp (X0 1) n s.1.1, s.1.2)) o 0 0 1)
    rw [mPS_4]
    refine ⟨fun _ => ⟨trivial, ?_⟩, fun y => absurd rfl y⟩
    have hby := q_byteAt (l := l) (g := g) (d := d - 1) (i := skp (X0 1) n s.1.1) X (skp (X0 1) n s.1.1, s.1.2) eX2 (by omega) (by omega)
    rw [eX1] at hby
    refine fCi htr hby (by omega) ?_
    show (¬ (bAt (X0 1) n (skp (X0 1) n s.1.1)) = (40 : Int32) → True ∧ mCal l g d k_X12_one Φ 0 0 _ 170 k_X12_knownHere false [.ref 0] [] [.ref 0, .int (-1 : Int32), mJ] (mPS X (skp (X0 1) n s.1.1, s.1.2)) o 0 0 1) ∧ ((bAt (X0 1) n (skp (X0 1) n s.1.1)) = (40 : Int32) → True ∧ mCal l g d k_X12_one Φ 0 0 _ 131 k_X12_opensOne false [.ref 0] [] [.ref 0, .int (-1 : Int32), mJ] (mPS X (skp (X0 1) n s.1.1, s.1.2)) o 0 0 1)
    refine ⟨fun n40 => ?_, fun y40 => ⟨trivial, ?_⟩⟩
    · have hkn := r_knownHere (l := l) (g := g) (d := d - 1) X (skp (X0 1) n s.1.1, s.1.2) eX2 (by omega) hqn (by omega)
      rw [eX1] at hkn
      refine ⟨trivial, ?_⟩
      have hl160 : s.2.length < 160 := by omega
      rcases pKn_at (T := X0 1) (n := n) (p := (skp (X0 1) n s.1.1, s.1.2)) hf hqq knW 0 with ⟨j, hj, hw, ek⟩ | ⟨hno, ek⟩
      · rw [ek] at hkn
        have hw' : wHere (X0 1) n (skp (X0 1) n s.1.1) = kwA j := hw
        have hj8 : j < 8 := hj
        refine fCi htr hkn (by omega) ?_
        rw [Nat.zero_add]
        show ((nI j) = (-1 : Int32) → True ∧ mCal l g d k_X12_one Φ 0 0 _ 195 k_X12_number false [.ref 0, .int (0 : Int32), .int (999 : Int32)] [.int (0 : Int32), .ref 0] [.ref 0, .int (-1 : Int32), .int (nI j)] (mPS X (swd (X0 1) n (n - skp (X0 1) n s.1.1) (skp (X0 1) n s.1.1), s.1.2)) o 0 0 1) ∧ (¬ (nI j) = (-1 : Int32) → True ∧ mCal l g d k_X12_one Φ 0 0 _ 182 k_X12_notes false [.ref 0, .int (1 : Int32), .int (nI j)] [] [.ref 0, .int (-1 : Int32), .int (nI j)] (mPS X (swd (X0 1) n (n - skp (X0 1) n s.1.1) (skp (X0 1) n s.1.1), s.1.2)) o 0 0 0)
        refine ⟨fun y => absurd y (nI_nm (by omega)), fun _ => ⟨trivial, fCv htr (r_notes hR.2.2.2.1 hl160 1 (nI j)) (by omega) ?_⟩⟩
        have R4 := RLw_nt (a := 1) (b := j) (s := ((swd (X0 1) n (n - skp (X0 1) n s.1.1) (skp (X0 1) n s.1.1), s.1.2), s.2)) hR hl160
        have e1 : (nI 1 : Int32) = 1 := rfl
        have el : lNt 1 j ((swd (X0 1) n (n - skp (X0 1) n s.1.1) (skp (X0 1) n s.1.1), s.1.2), s.2) = ((swd (X0 1) n (n - skp (X0 1) n s.1.1) (skp (X0 1) n s.1.1), s.1.2), s.2 ++ [(1, j)]) := ifp_t hf
        rw [e1, el] at R4
        exact eR (hΦ2 ((swd (X0 1) n (n - skp (X0 1) n s.1.1) (skp (X0 1) n s.1.1), s.1.2), s.2 ++ [(1, j)]) _ (Or.inr ⟨n40, Or.inl ⟨j, hj8, hw', rfl⟩⟩) R4)
      · rw [ek] at hkn
        refine fCi htr hkn (by omega) ?_
        show ((-1 : Int32) = (-1 : Int32) → True ∧ mCal l g d k_X12_one Φ 0 0 _ 195 k_X12_number false [.ref 0, .int (0 : Int32), .int (999 : Int32)] [.int (0 : Int32), .ref 0] [.ref 0, .int (-1 : Int32), .int (-1 : Int32)] (mPS X (skp (X0 1) n s.1.1, s.1.2)) o 0 0 1) ∧ (¬ (-1 : Int32) = (-1 : Int32) → True ∧ mCal l g d k_X12_one Φ 0 0 _ 182 k_X12_notes false [.ref 0, .int (1 : Int32), .int (-1 : Int32)] [] [.ref 0, .int (-1 : Int32), .int (-1 : Int32)] (mPS X (skp (X0 1) n s.1.1, s.1.2)) o 0 0 0)
        refine ⟨fun _ => ⟨trivial, ?_⟩, fun y => absurd rfl y⟩
        have hnum := r_number (l := l) (g := g) (d := d - 1) X (skp (X0 1) n s.1.1, s.1.2) eX2 (by omega) hqn (by omega) 0 999
        rw [eX1] at hnum
        have hok1 := pNum_ok (T := X0 1) (n := n) (lo := 0) (hi := 999) (p := (skp (X0 1) n s.1.1, s.1.2)) hqn
        obtain ⟨j, hj, ej⟩ : ∃ j, j ≤ 999 ∧ (pNum (X0 1) n 0 999 (skp (X0 1) n s.1.1, s.1.2)).1 = nI j := by
          by_cases q : (pNum (X0 1) n 0 999 (skp (X0 1) n s.1.1, s.1.2)).2.2.1 = 0
          · obtain ⟨v, hv, e⟩ := bound_in (N := 1000) (by decide) (hok1.2.1 q).2.1
            exact ⟨v, by omega, e⟩
          · exact ⟨0, by decide, hok1.2.2 q⟩
        refine fCi htr hnum (by omega) ?_
        rw [ej]
        show True ∧ mCal l g d k_X12_one Φ 0 0 _ 198 k_X12_notes false [.ref 0, .int (0 : Int32), .int (nI j)] [] [.ref 0, .int (-1 : Int32), .int (-1 : Int32)] (mPS X (pNum (X0 1) n 0 999 (skp (X0 1) n s.1.1, s.1.2)).2) o 0 0 0
        refine ⟨trivial, fCv htr (r_notes hR.2.2.2.1 hl160 0 (nI j)) (by omega) ?_⟩
        have R4 := RLw_nt (a := 0) (b := j) (s := ((pNum (X0 1) n 0 999 (skp (X0 1) n s.1.1, s.1.2)).2, s.2)) hR hl160
        have e0 : (nI 0 : Int32) = 0 := rfl
        rw [e0] at R4
        have hfin := hΦ2 _ _ (Or.inr ⟨n40, Or.inr ⟨hno, j, hj, ej, rfl⟩⟩) R4
        rw [lNt_1] at hfin
        exact eR hfin
    · have hlt := bAt_lt (T := X0 1) y40 (by decide)
      by_cases hk : k < 6
      · rw [if_pos ⟨hf, hk⟩, if_pos hf, if_pos hk] at hop
        refine fCi htr hop (by omega) ?_
        have R1 := RLw_k (k' := k + 1) hR
        generalize mset X 0 8 (nI (k + 1)) = X1 at R1 ⊢
        show (¬ (1 : Int32) = 0 → (Value.ref 0).category = 1 ∧ (True ∧ mCal l g d k_X12_one Φ 0 0 _ 149 k_X12_sum false [.ref 0] [] [.ref 0, .int (-1 : Int32), mJ] (mset (mPS X1 (skp (X0 1) n s.1.1, s.1.2)) 0 4 (((mPS X1 (skp (X0 1) n s.1.1, s.1.2)) 0 4) + (1 : Int32))) o 0 0 0)) ∧ ((1 : Int32) = 0 → Φ (.inl none) (mPS X1 (skp (X0 1) n s.1.1, s.1.2)) o ∧ 0 ≤ 0 ∧ 0 ≤ 0)
        refine ⟨fun _ => ?_, fun z => absurd z (by decide)⟩
        rw [mPS_4, nI_1, mPS_s4]
        refine ⟨rfl, trivial, nCv htr (IH (d - 1) (k + 1) ((skp (X0 1) n s.1.1 + 1, s.1.2), s.2) X1 (by omega) (by omega) (fun _ => by show 5 * (n - (skp (X0 1) n s.1.1 + 1)) + 4 < N; omega) hlt (by show s.2.length ≤ skp (X0 1) n s.1.1 + 1; omega) hok R1) (by omega) ?_⟩
        rintro _ ⟨s1, X2, L1, rfl, R2⟩
        have g2 : X2 0 2 = nI n := by rw [R2.2.1 2 (by decide) (by decide)]; exact h2
        have g1 : X2 1 = X0 1 := R2.1 1 (by decide) (by omega)
        have B1 := Lw_ok _ _ _ _ _ L1 hlt hok (fun z => by omega)
        show True ∧ mCal l g d k_X12_one Φ 0 0 _ 155 k_X12_sign false [.ref 0, .int (41 : Int32)] [] [.ref 0, .int (-1 : Int32), mJ] (mPS X2 s1.1) o 0 0 0
        have hs2 := r_sign (l := l) (g := g) (d := d - 1) X2 s1.1 g2 (by omega) B1.1.1 (by omega) 41
        rw [g1] at hs2
        refine ⟨trivial, fCv htr hs2 (by omega) ?_⟩
        show (Value.ref 0).category = 1 ∧ (Φ (.inl none) (mset (mPS X2 (lSg (X0 1) n 41 s1).1) 0 8 (((mPS X2 (lSg (X0 1) n 41 s1).1) 0 8) - (1 : Int32))) o ∧ 0 ≤ 0 ∧ 0 ≤ 0)
        rw [mPS_f _ _ (by decide) (by decide) (by decide), R2.2.2.1, nI_pred, mPS_set0 _ _ (by decide) (by decide) (by decide)]
        refine ⟨rfl, eR ?_⟩
        exact (hΦ2 (lSg (X0 1) n 41 s1) (mset X2 0 8 (nI k)) (Or.inl ⟨y40, Or.inl ⟨hk, s1, L1, rfl⟩⟩) (RLw_k R2))
      · rw [if_neg (fun z => hk z.2), if_pos hf, if_neg hk] at hop
        have e : pWr 3 (nI (skp (X0 1) n s.1.1)) (skp (X0 1) n s.1.1, s.1.2) = (skp (X0 1) n s.1.1, 3, nI (skp (X0 1) n s.1.1)) := if_pos hf
        have e' : pWr 3 (nI ((skp (X0 1) n s.1.1, s.1.2) : PS).1) (skp (X0 1) n s.1.1, s.1.2) = (skp (X0 1) n s.1.1, 3, nI (skp (X0 1) n s.1.1)) := e
        rw [e'] at hop
        refine fCi htr hop (by omega) ?_
        show (¬ (0 : Int32) = 0 → (Value.ref 0).category = 1 ∧ (True ∧ mCal l g d k_X12_one Φ 0 0 _ 149 k_X12_sum false [.ref 0] [] [.ref 0, .int (-1 : Int32), mJ] (mset (mPS X (skp (X0 1) n s.1.1, 3, nI (skp (X0 1) n s.1.1))) 0 4 (((mPS X (skp (X0 1) n s.1.1, 3, nI (skp (X0 1) n s.1.1))) 0 4) + (1 : Int32))) o 0 0 0)) ∧ ((0 : Int32) = 0 → Φ (.inl none) (mPS X (skp (X0 1) n s.1.1, 3, nI (skp (X0 1) n s.1.1))) o ∧ 0 ≤ 0 ∧ 0 ≤ 0)
        exact ⟨fun z => absurd rfl z, fun _ => eR (hΦ2 ((skp (X0 1) n s.1.1, 3, nI (skp (X0 1) n s.1.1)), s.2) X (Or.inl ⟨y40, Or.inr ⟨hk, rfl⟩⟩) hR)⟩
  · exact r_one_f ⟨s, X, Lw_f hf, rfl, hR⟩ hf
end R33
