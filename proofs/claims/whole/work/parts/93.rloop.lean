set_option maxRecDepth 100000
def rLP (l : Launch) (g : mG) (n : Nat) (X0 : Mm) (N : Nat) : Prop := l.stackTraces = false → ∀ (d k : Nat) (s : QS) (X : Mm) (o : Int64) (Φ : mR → Mm → Int64 → Prop), 3 * (6 - k) + 9 ≤ d → k ≤ 6 → (s.1.2.1 = 0 → 5 * (n - s.1.1) + 1 < N) → s.1.1 ≤ n → s.2.length ≤ s.1.1 → okL s.2 0 → (s.1.2.1 = 0 → 1 ≤ hg s.2 0) → RLw X0 k s.2 X → (∀ s' X', Lw (X0 1) n N 1 k s s' → RLw X0 k s'.2 X' → Φ (.inl none) (mPS X' s'.1) o) → mWB l g d k_X12_product Φ 0 0 4 [.ref 0, mJ] [] (mPS X s.1) o 0 0
def rLS (l : Launch) (g : mG) (n : Nat) (X0 : Mm) (N : Nat) : Prop := l.stackTraces = false → ∀ (d k : Nat) (s : QS) (X : Mm) (o : Int64) (Φ : mR → Mm → Int64 → Prop), 3 * (6 - k) + 10 ≤ d → k ≤ 6 → (s.1.2.1 = 0 → 5 * (n - s.1.1) + 3 < N) → s.1.1 ≤ n → s.2.length ≤ s.1.1 → okL s.2 0 → (s.1.2.1 = 0 → 1 ≤ hg s.2 0) → RLw X0 k s.2 X → (∀ s' X', Lw (X0 1) n N 3 k s s' → RLw X0 k s'.2 X' → Φ (.inl none) (mPS X' s'.1) o) → mWB l g d k_X12_sum Φ 0 0 4 [.ref 0, mJ] [] (mPS X s.1) o 0 0
section R34
variable {l : Launch} {g : mG} {n : Nat} {X0 : Mm}
theorem r_prodL (hn : n ≤ 150) (h2 : X0 0 2 = nI n) {N : Nat} (IH0 : rC l g n X0 k_X12_one 0 8 N) (IH1 : rLP l g n X0 N) : rLP l g n X0 (N + 1) := by
  intro htr d k s X o Φ hd hk6 hN hs hlen hok hhg hR hΦ
  have eX2 : X 0 2 = nI n := by rw [hR.2.1 2 (by decide) (by decide)]; exact h2
  have eX1 : X 1 = X0 1 := hR.1 1 (by decide) (by omega)
  refine mGoOn (mOk (by decide)) rfl [52] 400 ?_
  show (¬ ((mPS X s.1) 0 5) = 0 → Φ (.inl none) (mPS X s.1) o ∧ 0 ≤ 0 ∧ 0 ≤ 0) ∧ (((mPS X s.1) 0 5) = 0 → True ∧ mCal l g d k_X12_product Φ 0 0 _ 14 k_X12_takesSign false [.ref 0, .int (42 : Int32)] [] [.ref 0, mJ] (mPS X s.1) o 0 0 1)
  rw [mPS_5]
  refine ⟨fun z => eR (hΦ s X (Lw_f z) hR), fun hf => ?_⟩
  have hN0 := hN hf
  have hqn := skp_in (T := X0 1) hs
  have hqq := skp_skp (T := X0 1) hs
  have hge := skp_ge (T := X0 1) hs
  have hpq : pBl (X0 1) n s.1 = (skp (X0 1) n s.1.1, s.1.2) := rfl
  have kj : ∀ a, 2 ≤ a → a ≤ 8 → opP a (bAt (X0 1) n (skp (X0 1) n s.1.1)) → mWB l g d k_X12_product Φ 0 0 52 [.ref 0, mJ] [.int (nI a)] (mPS X (skp (X0 1) n s.1.1 + 1, s.1.2)) o 0 0 := by
    intro a ha2 ha8 hop
    have hlt := bAt_lt (T := X0 1) rfl (opP_n hop).1
    refine mGoOn (mOk (by decide)) rfl [4] 400 ?_
    show (¬ (nI a) = (-1 : Int32) → True ∧ mCal l g d k_X12_product Φ 0 0 _ 60 k_X12_one false [.ref 0] [] [.ref 0, .int (nI a)] (mPS X (skp (X0 1) n s.1.1 + 1, s.1.2)) o 0 0 0) ∧ ((nI a) = (-1 : Int32) → Φ (.inl none) (mPS X (skp (X0 1) n s.1.1 + 1, s.1.2)) o ∧ 0 ≤ 0 ∧ 0 ≤ 0)
    refine ⟨fun _ => ?_, fun z => absurd z (nI_nm (by omega))⟩
    refine ⟨trivial, nCv htr (IH0 (d - 1) k ((skp (X0 1) n s.1.1 + 1, s.1.2), s.2) X (by omega) hk6 (fun _ => by show 5 * (n - (skp (X0 1) n s.1.1 + 1)) + 0 < N; omega) hlt (by show s.2.length ≤ skp (X0 1) n s.1.1 + 1; omega) hok hR) (by omega) ?_⟩
    rintro _ ⟨s1, X1, L1, rfl, R1⟩
    show True ∧ mCal l g d k_X12_product Φ 0 0 _ 66 k_X12_notes false [.ref 0, .int (nI a), .int (0 : Int32)] [] [.ref 0, .int (nI a)] (mPS X1 s1.1) o 0 0 0
    have B := Lw_ok _ _ _ _ _ L1 hlt hok (fun z => by omega)
    have B3 : s1.2.length + (skp (X0 1) n s.1.1 + 1) ≤ s1.1.1 + s.2.length := B.2.2.1
    have B1 : s1.1.1 ≤ n := B.1.1
    have hl160 : s1.2.length < 160 := by omega
    refine ⟨trivial, fCv htr (r_notes R1.2.2.2.1 hl160 (nI a) 0) (by omega) ?_⟩
    have R2 := RLw_nt (a := a) (b := 0) R1 hl160
    have e0 : (nI 0 : Int32) = 0 := rfl
    rw [e0] at R2
    generalize (if s1.1.2.1 = 0 then lNote X1 s1.2.length (nI a) 0 else X1) = X2 at R2 ⊢
    have C : Aft n 0 s (lNt a 0 s1) := by
      refine Aft_nt (v := 1) (Aft_up (s := s) B (by show s.1.1 ≤ skp (X0 1) n s.1.1 + 1; omega) rfl rfl) (fun q => ?_) (fun q => ?_) (fun q => ?_)
      · omega
      · have e : hg s1.2 0 = hg s.2 0 + 1 := B.2.2.2.2 q
        have := hhg hf
        exact ⟨ha8, (by decide : (0 : Nat) ≤ 999), fun z => absurd z (by show ¬ a = 1; omega), fun _ => by rw [e]; omega⟩
      · rw [if_neg (by omega)]; omega
    have hlen2 : (lNt a 0 s1).2.length ≤ (lNt a 0 s1).1.1 := by have := C.2.2.1; omega
    have kk := IH1 htr d k (lNt a 0 s1) X2 o Φ hd hk6 (fun q => by rw [lNt_1]; have : (skp (X0 1) n s.1.1 + 1) ≤ s1.1.1 := B.1.2; omega) C.1.1 hlen2 C.2.2.2.1 (fun q => by rw [C.2.2.2.2 q]; exact hhg hf) R2 (fun s' X' L' R' => hΦ s' X' (Or.inr ⟨hf, Or.inr (Or.inl ⟨rfl, Or.inl ⟨a, hop, s1, L1, L'⟩⟩)⟩) R')
    rw [lNt_1] at kk
    exact mWB_wk kk ⟨Or.inr rfl, Or.inl rfl, trivial⟩
  have ht42 := r_takesSign (l := l) (g := g) (d := d - 1) X s.1 eX2 (by omega) hs (by omega) 42
  rw [eX1, pTks_at hf] at ht42
  refine ⟨trivial, ?_⟩
  by_cases c42 : bAt (X0 1) n (skp (X0 1) n s.1.1) = 42
  · rw [if_pos c42] at ht42
    refine fCi htr ht42 (by omega) ?_
    show ((1 : Int32) = 0 → True ∧ mCal l g d k_X12_product Φ 0 0 _ 27 k_X12_takesSign false [.ref 0, .int (47 : Int32)] [] [.ref 0, mJ] (mPS X (skp (X0 1) n s.1.1 + 1, s.1.2)) o 0 0 1) ∧ (¬ (1 : Int32) = 0 → mWB l g d k_X12_product Φ 0 0 52 [.ref 0, mJ] [.int (4 : Int32)] (mPS X (skp (X0 1) n s.1.1 + 1, s.1.2)) o 0 0)
    exact ⟨fun z => absurd z (by decide), fun _ => kj 4 (by decide) (by decide) (by rw [c42]; unfold opP; decide)⟩
  rw [if_neg c42] at ht42
  refine fCi htr ht42 (by omega) ?_
  show ((0 : Int32) = 0 → True ∧ mCal l g d k_X12_product Φ 0 0 _ 27 k_X12_takesSign false [.ref 0, .int (47 : Int32)] [] [.ref 0, mJ] (mPS X (skp (X0 1) n s.1.1, s.1.2)) o 0 0 1) ∧ (¬ (0 : Int32) = 0 → mWB l g d k_X12_product Φ 0 0 52 [.ref 0, mJ] [.int (4 : Int32)] (mPS X (skp (X0 1) n s.1.1, s.1.2)) o 0 0)
  refine ⟨fun _ => ?_, fun z => absurd rfl z⟩
  have ht47 := r_takesSign (l := l) (g := g) (d := d - 1) X (skp (X0 1) n s.1.1, s.1.2) eX2 (by omega) hqn (by omega) 47
  rw [eX1, pTks_at (p := (skp (X0 1) n s.1.1, s.1.2)) hf, hqq] at ht47
  refine ⟨trivial, ?_⟩
  by_cases c47 : bAt (X0 1) n (skp (X0 1) n s.1.1) = 47
  · rw [if_pos c47] at ht47
    refine fCi htr ht47 (by omega) ?_
    show ((1 : Int32) = 0 → True ∧ mCal l g d k_X12_product Φ 0 0 _ 40 k_X12_takesSign false [.ref 0, .int (37 : Int32)] [] [.ref 0, mJ] (mPS X (skp (X0 1) n s.1.1 + 1, s.1.2)) o 0 0 1) ∧ (¬ (1 : Int32) = 0 → mWB l g d k_X12_product Φ 0 0 52 [.ref 0, mJ] [.int (5 : Int32)] (mPS X (skp (X0 1) n s.1.1 + 1, s.1.2)) o 0 0)
    exact ⟨fun z => absurd z (by decide), fun _ => kj 5 (by decide) (by decide) (by rw [c47]; unfold opP; decide)⟩
  rw [if_neg c47] at ht47
  refine fCi htr ht47 (by omega) ?_
  generalize hpp : pBl (X0 1) n (skp (X0 1) n s.1.1, s.1.2) = pp
  have hpp2 : pp = (skp (X0 1) n s.1.1, s.1.2) := by rw [← hpp]; unfold pBl; rw [hqq]
  subst hpp2
  show ((0 : Int32) = 0 → True ∧ mCal l g d k_X12_product Φ 0 0 _ 40 k_X12_takesSign false [.ref 0, .int (37 : Int32)] [] [.ref 0, mJ] (mPS X (skp (X0 1) n s.1.1, s.1.2)) o 0 0 1) ∧ (¬ (0 : Int32) = 0 → mWB l g d k_X12_product Φ 0 0 52 [.ref 0, mJ] [.int (5 : Int32)] (mPS X (skp (X0 1) n s.1.1, s.1.2)) o 0 0)
  refine ⟨fun _ => ?_, fun z => absurd rfl z⟩
  have ht37 := r_takesSign (l := l) (g := g) (d := d - 1) X (skp (X0 1) n s.1.1, s.1.2) eX2 (by omega) hqn (by omega) 37
  rw [eX1, pTks_at (p := (skp (X0 1) n s.1.1, s.1.2)) hf, hqq] at ht37
  refine ⟨trivial, ?_⟩
  by_cases c37 : bAt (X0 1) n (skp (X0 1) n s.1.1) = 37
  · rw [if_pos c37] at ht37
    refine fCi htr ht37 (by omega) ?_
    show ((1 : Int32) = 0 → mWB l g d k_X12_product Φ 0 0 52 [.ref 0, mJ] [.int (-1 : Int32)] (mPS X (skp (X0 1) n s.1.1 + 1, s.1.2)) o 0 0) ∧ (¬ (1 : Int32) = 0 → mWB l g d k_X12_product Φ 0 0 52 [.ref 0, mJ] [.int (6 : Int32)] (mPS X (skp (X0 1) n s.1.1 + 1, s.1.2)) o 0 0)
    exact ⟨fun z => absurd z (by decide), fun _ => kj 6 (by decide) (by decide) (by rw [c37]; unfold opP; decide)⟩
  rw [if_neg c37] at ht37
  refine fCi htr ht37 (by omega) ?_
  generalize hpp : pBl (X0 1) n (skp (X0 1) n s.1.1, s.1.2) = pp
  have hpp2 : pp = (skp (X0 1) n s.1.1, s.1.2) := by rw [← hpp]; unfold pBl; rw [hqq]
  subst hpp2
  show ((0 : Int32) = 0 → mWB l g d k_X12_product Φ 0 0 52 [.ref 0, mJ] [.int (-1 : Int32)] (mPS X (skp (X0 1) n s.1.1, s.1.2)) o 0 0) ∧ (¬ (0 : Int32) = 0 → mWB l g d k_X12_product Φ 0 0 52 [.ref 0, mJ] [.int (6 : Int32)] (mPS X (skp (X0 1) n s.1.1, s.1.2)) o 0 0)
  refine ⟨fun _ => ?_, fun z => absurd rfl z⟩
  refine mGoOn (mOk (by decide)) rfl [4] 400 ?_
  show (¬ (-1 : Int32) = (-1 : Int32) → True ∧ mCal l g d k_X12_product Φ 0 0 _ 60 k_X12_one false [.ref 0] [] [.ref 0, .int (-1 : Int32)] (mPS X (skp (X0 1) n s.1.1, s.1.2)) o 0 0 0) ∧ ((-1 : Int32) = (-1 : Int32) → Φ (.inl none) (mPS X (skp (X0 1) n s.1.1, s.1.2)) o ∧ 0 ≤ 0 ∧ 0 ≤ 0)
  refine ⟨fun z => absurd rfl z, fun _ => eR (hΦ ((skp (X0 1) n s.1.1, s.1.2), s.2) X (Or.inr ⟨hf, Or.inr (Or.inl ⟨rfl, Or.inr ⟨?_, rfl⟩⟩)⟩) hR)⟩
  intro a ho
  rcases ho with ⟨_, e⟩ | ⟨_, e⟩ | ⟨_, e⟩
  · exact c42 e
  · exact c47 e
  · exact c37 e
theorem r_sumL (hn : n ≤ 150) (h2 : X0 0 2 = nI n) {N : Nat} (IH0 : rC l g n X0 k_X12_product 2 9 N) (IH1 : rLS l g n X0 N) : rLS l g n X0 (N + 1) := by
  intro htr d k s X o Φ hd hk6 hN hs hlen hok hhg hR hΦ
  have eX2 : X 0 2 = nI n := by rw [hR.2.1 2 (by decide) (by decide)]; exact h2
  have eX1 : X 1 = X0 1 := hR.1 1 (by decide) (by omega)
  refine mGoOn (mOk (by decide)) rfl [38] 400 ?_
  show (¬ ((mPS X s.1) 0 5) = 0 → Φ (.inl none) (mPS X s.1) o ∧ 0 ≤ 0 ∧ 0 ≤ 0) ∧ (((mPS X s.1) 0 5) = 0 → True ∧ mCal l g d k_X12_sum Φ 0 0 _ 14 k_X12_takesSign false [.ref 0, .int (43 : Int32)] [] [.ref 0, mJ] (mPS X s.1) o 0 0 1)
  rw [mPS_5]
  refine ⟨fun z => eR (hΦ s X (Lw_f z) hR), fun hf => ?_⟩
  have hN0 := hN hf
  have hqn := skp_in (T := X0 1) hs
  have hqq := skp_skp (T := X0 1) hs
  have hge := skp_ge (T := X0 1) hs
  have hpq : pBl (X0 1) n s.1 = (skp (X0 1) n s.1.1, s.1.2) := rfl
  have kj : ∀ a, 2 ≤ a → a ≤ 8 → opS a (bAt (X0 1) n (skp (X0 1) n s.1.1)) → mWB l g d k_X12_sum Φ 0 0 38 [.ref 0, mJ] [.int (nI a)] (mPS X (skp (X0 1) n s.1.1 + 1, s.1.2)) o 0 0 := by
    intro a ha2 ha8 hop
    have hlt := bAt_lt (T := X0 1) rfl (opS_n hop).1
    refine mGoOn (mOk (by decide)) rfl [4] 400 ?_
    show (¬ (nI a) = (-1 : Int32) → True ∧ mCal l g d k_X12_sum Φ 0 0 _ 46 k_X12_product false [.ref 0] [] [.ref 0, .int (nI a)] (mPS X (skp (X0 1) n s.1.1 + 1, s.1.2)) o 0 0 0) ∧ ((nI a) = (-1 : Int32) → Φ (.inl none) (mPS X (skp (X0 1) n s.1.1 + 1, s.1.2)) o ∧ 0 ≤ 0 ∧ 0 ≤ 0)
    refine ⟨fun _ => ?_, fun z => absurd z (nI_nm (by omega))⟩
    refine ⟨trivial, nCv htr (IH0 (d - 1) k ((skp (X0 1) n s.1.1 + 1, s.1.2), s.2) X (by omega) hk6 (fun _ => by show 5 * (n - (skp (X0 1) n s.1.1 + 1)) + 2 < N; omega) hlt (by show s.2.length ≤ skp (X0 1) n s.1.1 + 1; omega) hok hR) (by omega) ?_⟩
    rintro _ ⟨s1, X1, L1, rfl, R1⟩
    show True ∧ mCal l g d k_X12_sum Φ 0 0 _ 52 k_X12_notes false [.ref 0, .int (nI a), .int (0 : Int32)] [] [.ref 0, .int (nI a)] (mPS X1 s1.1) o 0 0 0
    have B := Lw_ok _ _ _ _ _ L1 hlt hok (fun z => by omega)
    have B3 : s1.2.length + (skp (X0 1) n s.1.1 + 1) ≤ s1.1.1 + s.2.length := B.2.2.1
    have B1 : s1.1.1 ≤ n := B.1.1
    have hl160 : s1.2.length < 160 := by omega
    refine ⟨trivial, fCv htr (r_notes R1.2.2.2.1 hl160 (nI a) 0) (by omega) ?_⟩
    have R2 := RLw_nt (a := a) (b := 0) R1 hl160
    have e0 : (nI 0 : Int32) = 0 := rfl
    rw [e0] at R2
    generalize (if s1.1.2.1 = 0 then lNote X1 s1.2.length (nI a) 0 else X1) = X2 at R2 ⊢
    have C : Aft n 0 s (lNt a 0 s1) := by
      refine Aft_nt (v := 1) (Aft_up (s := s) B (by show s.1.1 ≤ skp (X0 1) n s.1.1 + 1; omega) rfl rfl) (fun q => ?_) (fun q => ?_) (fun q => ?_)
      · omega
      · have e : hg s1.2 0 = hg s.2 0 + 1 := B.2.2.2.2 q
        have := hhg hf
        exact ⟨ha8, (by decide : (0 : Nat) ≤ 999), fun z => absurd z (by show ¬ a = 1; omega), fun _ => by rw [e]; omega⟩
      · rw [if_neg (by omega)]; omega
    have hlen2 : (lNt a 0 s1).2.length ≤ (lNt a 0 s1).1.1 := by have := C.2.2.1; omega
    have kk := IH1 htr d k (lNt a 0 s1) X2 o Φ hd hk6 (fun q => by rw [lNt_1]; have : (skp (X0 1) n s.1.1 + 1) ≤ s1.1.1 := B.1.2; omega) C.1.1 hlen2 C.2.2.2.1 (fun q => by rw [C.2.2.2.2 q]; exact hhg hf) R2 (fun s' X' L' R' => hΦ s' X' (Or.inr ⟨hf, Or.inr (Or.inr (Or.inr (Or.inl ⟨rfl, Or.inl ⟨a, hop, s1, L1, L'⟩⟩)))⟩) R')
    rw [lNt_1] at kk
    exact mWB_wk kk ⟨Or.inr rfl, Or.inl rfl, trivial⟩
  have ht43 := r_takesSign (l := l) (g := g) (d := d - 1) X s.1 eX2 (by omega) hs (by omega) 43
  rw [eX1, pTks_at hf] at ht43
  refine ⟨trivial, ?_⟩
  by_cases c43 : bAt (X0 1) n (skp (X0 1) n s.1.1) = 43
  · rw [if_pos c43] at ht43
    refine fCi htr ht43 (by omega) ?_
    show ((1 : Int32) = 0 → True ∧ mCal l g d k_X12_sum Φ 0 0 _ 27 k_X12_takesSign false [.ref 0, .int (45 : Int32)] [] [.ref 0, mJ] (mPS X (skp (X0 1) n s.1.1 + 1, s.1.2)) o 0 0 1) ∧ (¬ (1 : Int32) = 0 → mWB l g d k_X12_sum Φ 0 0 38 [.ref 0, mJ] [.int (2 : Int32)] (mPS X (skp (X0 1) n s.1.1 + 1, s.1.2)) o 0 0)
    exact ⟨fun z => absurd z (by decide), fun _ => kj 2 (by decide) (by decide) (by rw [c43]; unfold opS; decide)⟩
  rw [if_neg c43] at ht43
  refine fCi htr ht43 (by omega) ?_
  show ((0 : Int32) = 0 → True ∧ mCal l g d k_X12_sum Φ 0 0 _ 27 k_X12_takesSign false [.ref 0, .int (45 : Int32)] [] [.ref 0, mJ] (mPS X (skp (X0 1) n s.1.1, s.1.2)) o 0 0 1) ∧ (¬ (0 : Int32) = 0 → mWB l g d k_X12_sum Φ 0 0 38 [.ref 0, mJ] [.int (2 : Int32)] (mPS X (skp (X0 1) n s.1.1, s.1.2)) o 0 0)
  refine ⟨fun _ => ?_, fun z => absurd rfl z⟩
  have ht45 := r_takesSign (l := l) (g := g) (d := d - 1) X (skp (X0 1) n s.1.1, s.1.2) eX2 (by omega) hqn (by omega) 45
  rw [eX1, pTks_at (p := (skp (X0 1) n s.1.1, s.1.2)) hf, hqq] at ht45
  refine ⟨trivial, ?_⟩
  by_cases c45 : bAt (X0 1) n (skp (X0 1) n s.1.1) = 45
  · rw [if_pos c45] at ht45
    refine fCi htr ht45 (by omega) ?_
    show ((1 : Int32) = 0 → mWB l g d k_X12_sum Φ 0 0 38 [.ref 0, mJ] [.int (-1 : Int32)] (mPS X (skp (X0 1) n s.1.1 + 1, s.1.2)) o 0 0) ∧ (¬ (1 : Int32) = 0 → mWB l g d k_X12_sum Φ 0 0 38 [.ref 0, mJ] [.int (3 : Int32)] (mPS X (skp (X0 1) n s.1.1 + 1, s.1.2)) o 0 0)
    exact ⟨fun z => absurd z (by decide), fun _ => kj 3 (by decide) (by decide) (by rw [c45]; unfold opS; decide)⟩
  rw [if_neg c45] at ht45
  refine fCi htr ht45 (by omega) ?_
  generalize hpp : pBl (X0 1) n (skp (X0 1) n s.1.1, s.1.2) = pp
  have hpp2 : pp = (skp (X0 1) n s.1.1, s.1.2) := by rw [← hpp]; unfold pBl; rw [hqq]
  subst hpp2
  show ((0 : Int32) = 0 → mWB l g d k_X12_sum Φ 0 0 38 [.ref 0, mJ] [.int (-1 : Int32)] (mPS X (skp (X0 1) n s.1.1, s.1.2)) o 0 0) ∧ (¬ (0 : Int32) = 0 → mWB l g d k_X12_sum Φ 0 0 38 [.ref 0, mJ] [.int (3 : Int32)] (mPS X (skp (X0 1) n s.1.1, s.1.2)) o 0 0)
  refine ⟨fun _ => ?_, fun z => absurd rfl z⟩
  refine mGoOn (mOk (by decide)) rfl [4] 400 ?_
  show (¬ (-1 : Int32) = (-1 : Int32) → True ∧ mCal l g d k_X12_sum Φ 0 0 _ 46 k_X12_product false [.ref 0] [] [.ref 0, .int (-1 : Int32)] (mPS X (skp (X0 1) n s.1.1, s.1.2)) o 0 0 0) ∧ ((-1 : Int32) = (-1 : Int32) → Φ (.inl none) (mPS X (skp (X0 1) n s.1.1, s.1.2)) o ∧ 0 ≤ 0 ∧ 0 ≤ 0)
  refine ⟨fun z => absurd rfl z, fun _ => eR (hΦ ((skp (X0 1) n s.1.1, s.1.2), s.2) X (Or.inr ⟨hf, Or.inr (Or.inr (Or.inr (Or.inl ⟨rfl, Or.inr ⟨?_, rfl⟩⟩)))⟩) hR)⟩
  intro a ho
  rcases ho with ⟨_, e⟩ | ⟨_, e⟩
  · exact c43 e
  · exact c45 e
end R34
