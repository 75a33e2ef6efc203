set_option maxRecDepth 100000
def cStp (l : Launch) (g : mG) (n : Nat) (X0 : Mm) (M S N : Nat) : Prop := ∀ (d k : Nat) (s : QW) (X : Mm), (6 - k) + 8 ≤ d → k ≤ 6 → s.1.2.1 = 0 → 2 * (n - s.1.1) < N → s.1.1 ≤ n → skp (X0 1) n s.1.1 = s.1.1 → 2 * s.2.1 ≤ s.1.1 → RWk X0 k s.2 True X → mHv l g d k_X12_readsStep [.ref 0] (mPS X s.1) (fun m2 => ∃ s' X', Wk (X0 1) n M S N 0 k s s' ∧ m2 = mPS X' s'.1 ∧ RWk X0 k s'.2 (s'.1.2.1 = 0) X')
def cSq (l : Launch) (g : mG) (n : Nat) (X0 : Mm) (M S N : Nat) : Prop := l.stackTraces = false → ∀ (d k : Nat) (s : QW) (X : Mm) (r : Nat) (v : Int32) (o : Int64) (Φ : mR → Mm → Int64 → Prop), (6 - k) + 9 ≤ d → 1 ≤ k → k ≤ 6 → (s.1.2.1 = 0 → 2 * (n - s.1.1) + 1 < N) → s.1.1 ≤ n → (s.1.2.1 = 0 → 2 * s.2.1 ≤ s.1.1) → RWk X0 k s.2 (s.1.2.1 = 0) X → (∀ s' X', Wk (X0 1) n M S N 1 k s s' → RWk X0 k s'.2 (s'.1.2.1 = 0) X' → mWB l g d k_X12_readsStep Φ 0 0 165 [.ref 0, .int v, .ref r] [] (mPS X' s'.1) o 0 0) → mWB l g d k_X12_readsStep Φ 0 0 134 [.ref 0, .int v, .ref r] [] (mPS X (pBl (X0 1) n s.1)) o 0 0
theorem RWk_g {X0 : Mm} {k : Nat} {a : WA} {g g' : Prop} {X : Mm} (h : RWk X0 k a g X) (hg : g' → g) : RWk X0 k a g' X := ⟨h.1, h.2.1, h.2.2.1, fun q => h.2.2.2 (hg q)⟩
section R46
variable {l : Launch} {g : mG} {n : Nat} {X0 : Mm} {M S : Nat}
theorem r_sq (hn : n ≤ 150) (h2 : X0 0 2 = nI n) (hM : M ≤ 6) (hS : S ≤ 9) {N : Nat} (IH0 : cStp l g n X0 M S N) (IH1 : cSq l g n X0 M S N) : cSq l g n X0 M S (N + 1) := by
  intro htr d k s X r v o Φ hd hk1 hk6 hN hs hc hR kk
  have eX2 : X 0 2 = nI n := by rw [hR.2.1 2 (by decide) (by decide)]; exact h2
  have eX1 : X 1 = X0 1 := hR.1 1 (by decide) (by omega)
  have hqn := skp_in (T := X0 1) hs
  have hqq := skp_skp (T := X0 1) hs
  have hge := skp_ge (T := X0 1) hs
  refine mGoOn (mOk (by decide)) rfl [134,165] 400 ?_
  show (¬ ((mPS X (pBl (X0 1) n s.1)) 0 5) = 0 → mWB l g d k_X12_readsStep Φ 0 0 165 [.ref 0, .int v, .ref r] [] (mPS X (pBl (X0 1) n s.1)) o 0 0) ∧ (((mPS X (pBl (X0 1) n s.1)) 0 5) = 0 → True ∧ mCal l g d k_X12_readsStep Φ 0 0 _ 146 k_X12_byteAt false [.ref 0, .int ((mPS X (pBl (X0 1) n s.1)) 0 4)] [] [.ref 0, .int v, .ref r] (mPS X (pBl (X0 1) n s.1)) o 0 0 1)
  rw [mPS_5, mPS_4]
  refine ⟨fun z => ?_, fun hf => ⟨trivial, ?_⟩⟩
  · exact kk (pBl (X0 1) n s.1, s.2) X (Wk_f ⟨z, rfl, hqn⟩) (RWk_g hR (fun q => absurd q z))
  have hf : s.1.2.1 = 0 := hf
  have hN0 := hN hf
  have hby := q_byteAt (l := l) (g := g) (d := d - 1) (i := skp (X0 1) n s.1.1) X (pBl (X0 1) n s.1) eX2 (by omega) (by omega)
  rw [eX1] at hby
  refine fCi htr hby (by omega) ?_
  show ((bAt (X0 1) n (skp (X0 1) n s.1.1)) = (93 : Int32) → mWB l g d k_X12_readsStep Φ 0 0 165 [.ref 0, .int v, .ref r] [] (mPS X (pBl (X0 1) n s.1)) o 0 0) ∧ (¬ (bAt (X0 1) n (skp (X0 1) n s.1.1)) = (93 : Int32) → True ∧ mCal l g d k_X12_readsStep Φ 0 0 _ 155 k_X12_readsStep false [.ref 0] [] [.ref 0, .int v, .ref r] (mPS X (pBl (X0 1) n s.1)) o 0 0 0)
  have hst : stp k (bAt (X0 1) n (skp (X0 1) n s.1.1)) ↔ bAt (X0 1) n (skp (X0 1) n s.1.1) = 93 := by unfold stp; rw [if_neg (by omega)]
  refine ⟨fun y => kk ((skp (X0 1) n s.1.1, s.1.2), s.2) X (Or.inr ⟨hf, Or.inr ⟨rfl, Or.inl ⟨hst.mpr y, rfl⟩⟩⟩) hR, fun y => ?_⟩
  have hc0 := hc hf
  refine ⟨trivial, nCv htr (IH0 (d - 1) k ((skp (X0 1) n s.1.1, s.1.2), s.2) X (by omega) hk6 hf (by show 2 * (n - skp (X0 1) n s.1.1) < N; omega) hqn hqq (by show 2 * s.2.1 ≤ skp (X0 1) n s.1.1; omega) (RWk_g hR (fun _ => hf))) (by omega) ?_⟩
  rintro _ ⟨s1, X1, L1, rfl, R1⟩
  have B := Wk_ok hM hS _ _ _ _ _ L1 hqn hk6
  rw [if_pos rfl] at B
  have g2 : X1 0 2 = nI n := by rw [R1.2.1 2 (by decide) (by decide)]; exact h2
  have g1 : X1 1 = X0 1 := R1.1 1 (by decide) (by omega)
  show True ∧ mCal l g d k_X12_readsStep Φ 0 0 _ 159 k_X12_blanks false [.ref 0] [] [.ref 0, .int v, .ref r] (mPS X1 s1.1) o 0 0 0
  have hB1 := B.1
  have hbl := q_blanks (l := l) (g := g) (d := d - 1) X1 s1.1 g2 (by omega) (by omega) (by omega)
  rw [g1] at hbl
  refine ⟨trivial, fCv htr hbl (by omega) ?_⟩
  refine IH1 htr d k s1 X1 r v o Φ hd hk1 hk6 (fun q => ?_) B.1 (fun q => ?_) R1 (fun s' X' L' R' => kk s' X' (Or.inr ⟨hf, Or.inr ⟨rfl, Or.inr ⟨fun z => y (hst.mp z), s1, L1, L'⟩⟩⟩) R')
  · have b2 : skp (X0 1) n s.1.1 + 1 ≤ s1.1.1 := (B.2 q).2.1
    omega
  · have b3 : 2 * s1.2.1 + skp (X0 1) n s.1.1 ≤ s1.1.1 + 2 * s.2.1 := (B.2 q).2.2.1
    omega
theorem r_stp (hn : n ≤ 150) (h2 : X0 0 2 = nI n) (h42 : X0 4 2 = nI M) (h40 : X0 4 0 = nI S) (hM : M ≤ 6) (hS : S ≤ 9) {N : Nat} (IH1 : cSq l g n X0 M S N) : cStp l g n X0 M S (N + 1) := by
  intro d k s X hd hk6 hf hN hs hq hc hR
  have eX2 : X 0 2 = nI n := by rw [hR.2.1 2 (by decide) (by decide)]; exact h2
  have eX1 : X 1 = X0 1 := hR.1 1 (by decide) (by omega)
  refine nBv 2 rfl rfl rfl (by decide) rfl (fun htr o Φ hΦ => mGoOn (mOk (by decide)) rfl [19,32] 400 ?_)
  show True ∧ mCal l g d k_X12_readsStep Φ 0 0 _ 1 k_X12_stepHere false [.ref 0] [] [.ref 0, mJ, mJ] (mPS X s.1) o 0 0 1
  have hsh := r_stepHere (l := l) (g := g) (d := d - 1) (X := X) (p := s.1) eX2 (by omega) hs hf (by rw [eX1]; exact hq) (by omega)
  rw [eX1] at hsh
  refine ⟨trivial, fCi htr hsh (by omega) ?_⟩
  have hle := stH_le (T := X0 1) (n := n) s.1.1
  have hpos := stH_pos (T := X0 1) (n := n) hs
  have hΦ2 : ∀ s' X', WS1 (X0 1) n M S (Wk (X0 1) n M S N 1) k s s' → RWk X0 k s'.2 (s'.1.2.1 = 0) X' → Φ (.inl none) (mPS X' s'.1) o := fun s' X' a b => hΦ _ ⟨s', X', Or.inr ⟨hf, Or.inl ⟨rfl, a⟩⟩, rfl, b⟩
  unfold WS1 at hΦ2
  clear hΦ
  generalize stH (X0 1) n s.1.1 = kd at hle hpos hΦ2 ⊢
  have ew : ∀ f : Int32, pWr f (nI s.1.1) s.1 = (s.1.1, f, nI s.1.1) := fun f => if_pos hf
  show (¬ (sHI kd) = (-1 : Int32) → mWB l g d k_X12_readsStep Φ 0 0 19 [.ref 0, .int (sHI kd), mJ] [] (mPS X s.1) o 0 0) ∧ ((sHI kd) = (-1 : Int32) → True ∧ mCal l g d k_X12_readsStep Φ 0 0 _ 16 k_X12_wrong false [.ref 0, .int (1 : Int32), .int ((mPS X s.1) 0 4)] [] [.ref 0, .int (sHI kd), mJ] (mPS X s.1) o 0 0 0)
  by_cases q5 : kd = 5
  · rw [q5, show sHI 5 = -1 from rfl]
    refine ⟨fun z => absurd rfl z, fun _ => ?_⟩
    have hw := q_wrong (l := l) (g := g) (d := d - 1) 1 (nI s.1.1) X s.1
    rw [ew 1] at hw
    rw [mPS_4]
    refine ⟨trivial, fCv htr hw (by omega) ?_⟩
    refine mGoOn (mOk (by decide)) rfl [32] 400 ?_
    show (¬ (-1 : Int32) = (4 : Int32) → mWB l g d k_X12_readsStep Φ 0 0 32 [.ref 0, .int (-1 : Int32), mJ] [] (mPS X (s.1.1, 1, nI s.1.1)) o 0 0) ∧ ((-1 : Int32) = (4 : Int32) → True ∧ mCal l g d k_X12_readsStep Φ 0 0 _ 25 k_X12_opensOne false [.ref 0] [] [.ref 0, .int (-1 : Int32), mJ] (mPS X (s.1.1, 1, nI s.1.1)) o 0 0 1)
    refine ⟨fun _ => ?_, fun y => absurd y (by decide)⟩
    refine mGoOn (mOk (by decide)) rfl [40] 400 ?_
    show (((mPS X (s.1.1, 1, nI s.1.1)) 0 5) = 0 → mWB l g d k_X12_readsStep Φ 0 0 40 [.ref 0, .int (-1 : Int32), mJ] [] (mPS X (s.1.1, 1, nI s.1.1)) o 0 0) ∧ (¬ ((mPS X (s.1.1, 1, nI s.1.1)) 0 5) = 0 → Φ (.inl none) (mPS X (s.1.1, 1, nI s.1.1)) o ∧ 0 ≤ 0 ∧ 0 ≤ 0)
    rw [mPS_5]
    exact ⟨fun z => absurd (show (1 : Int32) = 0 from z) (by decide), fun _ => eR (hΦ2 ((s.1.1, 1, nI s.1.1), s.2) X (Or.inr (Or.inr ⟨q5, rfl⟩)) (RWk_g hR (fun _ => trivial)))⟩
  have ek : sHI kd = nI kd := if_neg q5
  obtain ⟨p1, p2⟩ := hpos q5
  rw [ek]
  refine ⟨fun _ => ?_, fun z => absurd z (nI_nm (by omega))⟩
  refine mGoOn (mOk (by decide)) rfl [32] 400 ?_
  show (¬ (nI kd) = (4 : Int32) → mWB l g d k_X12_readsStep Φ 0 0 32 [.ref 0, .int (nI kd), mJ] [] (mPS X s.1) o 0 0) ∧ ((nI kd) = (4 : Int32) → True ∧ mCal l g d k_X12_readsStep Φ 0 0 _ 25 k_X12_opensOne false [.ref 0] [] [.ref 0, .int (nI kd), mJ] (mPS X s.1) o 0 0 1)
  rw [show (4 : Int32) = nI 4 from rfl, nI_eq (by omega) (by decide)]
  refine ⟨fun q4 => ?_, fun q4 => ⟨trivial, ?_⟩⟩
  · refine mGoOn (mOk (by decide)) rfl [40] 400 ?_
    show (((mPS X s.1) 0 5) = 0 → mWB l g d k_X12_readsStep Φ 0 0 40 [.ref 0, .int (nI kd), mJ] [] (mPS X s.1) o 0 0) ∧ (¬ ((mPS X s.1) 0 5) = 0 → Φ (.inl none) (mPS X s.1) o ∧ 0 ≤ 0 ∧ 0 ≤ 0)
    rw [mPS_5]
    refine ⟨fun _ => ?_, fun y => absurd hf y⟩
    exact r_st40 htr o (by omega) hn h2 h42 h40 hM hS (k := k) (kd := kd) (by omega) hf hs ⟨p1, p2⟩ hc hR (fun X' hX' => hΦ2 _ X' (Or.inl ⟨by omega, rfl⟩) hX')
  · subst q4
    have hop := r_opensOne (l := l) (g := g) (d := d - 1) (X := X) (p := s.1) hR.2.2.1 hk6 (by omega)
    by_cases hk : k < 6
    · rw [if_pos ⟨hf, hk⟩, if_pos hf, if_pos hk] at hop
      refine fCi htr hop (by omega) ?_
      have R1 : RWk X0 (k + 1) s.2 True (mset X 0 8 (nI (k + 1))) := ⟨fun x x1 x2 => by rw [mset_ne _ _ _ x1]; exact hR.1 x x1 x2, fun i i1 i2 => by rw [mset_eq, pk_un i1]; exact hR.2.1 i i1 i2, by rw [mset_eq, pk_us], fun _ => ⟨by rw [mset_eq, pk_un (by decide)]; exact (hR.2.2.2 trivial).1, fun i hi => by unfold rowW; rw [mset_ne _ _ _ (by omega)]; exact (hR.2.2.2 trivial).2 i hi⟩⟩
      generalize mset X 0 8 (nI (k + 1)) = X1 at R1 ⊢
      show (¬ (1 : Int32) = 0 → mWB l g d k_X12_readsStep Φ 0 0 32 [.ref 0, .int (nI 4), mJ] [] (mPS X1 s.1) o 0 0) ∧ ((1 : Int32) = 0 → Φ (.inl none) (mPS X1 s.1) o ∧ 0 ≤ 0 ∧ 0 ≤ 0)
      refine ⟨fun _ => ?_, fun z => absurd z (by decide)⟩
      refine mGoOn (mOk (by decide)) rfl [89,134,165] 400 ?_
      show (((mPS X1 s.1) 0 5) = 0 → True ∧ mCal l g d k_X12_readsStep Φ 0 0 _ 41 k_X12_skipWord false [.ref 0] [] [.ref 0, .int (nI 4), mJ] (mPS X1 s.1) o 0 0 0) ∧ (¬ ((mPS X1 s.1) 0 5) = 0 → Φ (.inl none) (mPS X1 s.1) o ∧ 0 ≤ 0 ∧ 0 ≤ 0)
      rw [mPS_5]
      refine ⟨fun _ => ?_, fun y => absurd hf y⟩
      have f2 : X1 0 2 = nI n := by rw [R1.2.1 2 (by decide) (by decide)]; exact h2
      have f1 : X1 1 = X0 1 := R1.1 1 (by decide) (by omega)
      have hsk := r_skipWord (l := l) (g := g) (d := d - 1) X1 s.1 f2 (by omega) hs (by omega)
      rw [f1, show pSkw (X0 1) n s.1 = (swd (X0 1) n (n - s.1.1) s.1.1, s.1.2) from rfl] at hsk
      refine ⟨trivial, fCv htr hsk (by omega) ?_⟩
      have hΦ3 : ∀ s1, Wk (X0 1) n M S N 1 (k + 1) (pSgn (X0 1) n 91 (pNum (X0 1) n 0 60 (swd (X0 1) n (n - s.1.1) s.1.1, s.1.2)).2, wAdd s.2 (4, nv (pNum (X0 1) n 0 60 (swd (X0 1) n (n - s.1.1) s.1.1, s.1.2)).1, 0, 0, k)) s1 → ∀ X', RWk X0 k (wEnd s1.2 s.2.1) ((pSgn (X0 1) n 59 (pSgn (X0 1) n 93 s1.1)).2.1 = 0) X' → Φ (.inl none) (mPS X' (pSgn (X0 1) n 59 (pSgn (X0 1) n 93 s1.1))) o := fun s1 L X' hX' => hΦ2 (pSgn (X0 1) n 59 (pSgn (X0 1) n 93 s1.1), wEnd s1.2 s.2.1) X' (Or.inr (Or.inl ⟨rfl, Or.inl ⟨hk, s1, L, rfl⟩⟩)) hX'
      clear hΦ2
      generalize hP1 : ((swd (X0 1) n (n - s.1.1) s.1.1, s.1.2) : PS) = pp at hΦ3 ⊢
      have hpp : pp.1 ≤ n := by rw [← hP1]; exact p2
      have hpp2 : s.1.1 + 2 ≤ pp.1 := by rw [← hP1]; exact p1
      have e30 : mPS X1 pp 0 30 = nI s.2.1 := by rw [mPS_f _ _ (by decide) (by decide) (by decide)]; exact (R1.2.2.2 trivial).1
      have hc80 : s.2.1 < 80 := by omega
      show mReq (mInB ((mPS X1 pp) 0 30) 80) ((Value.ref 0).category = 1 ∧ (mReq (mIsB (mRF 413 (((mPS X1 pp) 0 30).toNatClampNeg)) 1) (mReq (mInB (0 : Int32) (mLn (mRF 413 (((mPS X1 pp) 0 30).toNatClampNeg)))) (((3 : Int32) ≤ (nI 4) → mWB l g d k_X12_readsStep Φ 0 0 89 [.ref 0, .int (nI 4), .ref (mRF 413 (((mPS X1 pp) 0 30).toNatClampNeg))] [] (mset (mset (mPS X1 pp) 0 30 (((mPS X1 pp) 0 30) + (1 : Int32))) (mRF 413 (((mPS X1 pp) 0 30).toNatClampNeg)) 0 (nI 4)) o 0 0) ∧ (¬ (3 : Int32) ≤ (nI 4) → True ∧ mCal l g d k_X12_readsStep Φ 0 0 _ 85 k_X12_number false [.ref 0, .int (0 : Int32), .int (((mset (mset (mPS X1 pp) 0 30 (((mPS X1 pp) 0 30) + (1 : Int32))) (mRF 413 (((mPS X1 pp) 0 30).toNatClampNeg)) 0 (nI 4)) 4 2) - (1 : Int32))] [.int (1 : Int32), .ref (mRF 413 (((mPS X1 pp) 0 30).toNatClampNeg))] [.ref 0, .int (nI 4), .ref (mRF 413 (((mPS X1 pp) 0 30).toNatClampNeg))] (mset (mset (mPS X1 pp) 0 30 (((mPS X1 pp) 0 30) + (1 : Int32))) (mRF 413 (((mPS X1 pp) 0 30).toNatClampNeg)) 0 (nI 4)) o 0 0 1)))))
      rw [e30, nI_1, mIn_ok hc80 (by decide), nI_cl (by omega), rf_413, sB_5 (by omega), sL_5 (by omega), mPS_set0 _ _ (by decide) (by decide) (by decide), mPS_set _ _ (by omega)]
      refine mReq_i rfl ⟨rfl, mReq_i rfl (mReq_i rfl ⟨fun _ => ?_, fun z => absurd (show (3 : Int32) ≤ nI 4 by decide) z⟩)⟩
      have R2 : RWk X0 (k + 1) s.2 True (mset (mset X1 0 30 (nI (s.2.1 + 1))) (414 + s.2.1) 0 (nI 4)) → True := fun _ => trivial
      have hY : ∀ x, x ≠ 0 → x ≠ 414 + s.2.1 → mset (mset X1 0 30 (nI (s.2.1 + 1))) (414 + s.2.1) 0 (nI 4) x = X1 x := fun x x1 x2 => by rw [mset_ne _ _ _ x2, mset_ne _ _ _ x1]
      have hY0 : ∀ i, i ≠ 30 → mset (mset X1 0 30 (nI (s.2.1 + 1))) (414 + s.2.1) 0 (nI 4) 0 i = X1 0 i := fun i hi => by rw [mset_ne _ _ _ (by omega), mset_eq, pk_un hi]
      have hY30 : mset (mset X1 0 30 (nI (s.2.1 + 1))) (414 + s.2.1) 0 (nI 4) 0 30 = nI (s.2.1 + 1) := by rw [mset_ne _ _ _ (by omega), mset_eq, pk_us]
      have hYr : mset (mset X1 0 30 (nI (s.2.1 + 1))) (414 + s.2.1) 0 (nI 4) (414 + s.2.1) 0 = nI 4 := by rw [mset_eq, pk_us]
      clear R2
      generalize mset (mset X1 0 30 (nI (s.2.1 + 1))) (414 + s.2.1) 0 (nI 4) = Y at hY hY0 hY30 hYr ⊢
      refine mGoOn (mOk (by decide)) rfl [109,134,165] 400 ?_
      show (¬ (nI 4) = 0 → mWB l g d k_X12_readsStep Φ 0 0 109 [.ref 0, .int (nI 4), .ref (414 + s.2.1)] [] (mPS Y pp) o 0 0) ∧ ((nI 4) = 0 → True ∧ mCal l g d k_X12_readsStep Φ 0 0 _ 105 k_X12_number false [.ref 0, .int (0 : Int32), .int (((mPS Y pp) 4 0) - (1 : Int32))] [.int (2 : Int32), .ref (414 + s.2.1)] [.ref 0, .int (nI 4), .ref (414 + s.2.1)] (mPS Y pp) o 0 0 1)
      refine ⟨fun _ => ?_, fun y => absurd y (by decide)⟩
      refine mGoOn (mOk (by decide)) rfl [134,165,181] 400 ?_
      show (¬ (nI 4) = (4 : Int32) → mWB l g d k_X12_readsStep Φ 0 0 181 [.ref 0, .int (nI 4), .ref (414 + s.2.1)] [] (mPS Y pp) o 0 0) ∧ ((nI 4) = (4 : Int32) → True ∧ mCal l g d k_X12_readsStep Φ 0 0 _ 120 k_X12_number false [.ref 0, .int (0 : Int32), .int (60 : Int32)] [.int (1 : Int32), .ref (414 + s.2.1)] [.ref 0, .int (nI 4), .ref (414 + s.2.1)] (mPS Y pp) o 0 0 1)
      refine ⟨fun y => absurd rfl y, fun _ => ?_⟩
      have y2 : Y 0 2 = nI n := by rw [hY0 2 (by decide)]; exact f2
      have y1 : Y 1 = X0 1 := by rw [hY 1 (by decide) (by omega)]; exact f1
      have hnum := r_number (l := l) (g := g) (d := d - 1) Y pp y2 (by omega) hpp (by omega) 0 60
      rw [y1] at hnum
      refine ⟨trivial, fCi htr hnum (by omega) ?_⟩
      have k1 := num_in (T := X0 1) (lo := 0) (hi := 60) hpp
      have v1 := num_60 (T := X0 1) (n := n) hpp
      generalize pNum (X0 1) n 0 60 pp = r1 at k1 v1 hΦ3 ⊢
      show mReq (mIsB (414 + s.2.1) 1) (mReq (mInB (1 : Int32) (mLn (414 + s.2.1))) (True ∧ mCal l g d k_X12_readsStep Φ 0 0 _ 127 k_X12_sign false [.ref 0, .int (91 : Int32)] [] [.ref 0, .int (nI 4), .ref (414 + s.2.1)] (mset (mPS Y r1.2) (414 + s.2.1) 1 r1.1) o 0 0 0))
      rw [sB_5 (by omega), sL_5 (by omega), mPS_set _ _ (by omega), v1.1]
      have hZ : ∀ x, x ≠ 414 + s.2.1 → mset Y (414 + s.2.1) 1 (nI (nv r1.1)) x = Y x := fun x hx => mset_ne _ _ _ hx
      have hZ0 : mset Y (414 + s.2.1) 1 (nI (nv r1.1)) (414 + s.2.1) 0 = nI 4 := by rw [mset_eq, pk_un (by decide)]; exact hYr
      have hZ1 : mset Y (414 + s.2.1) 1 (nI (nv r1.1)) (414 + s.2.1) 1 = nI (nv r1.1) := by rw [mset_eq, pk_us]
      generalize mset Y (414 + s.2.1) 1 (nI (nv r1.1)) = Z at hZ hZ0 hZ1 ⊢
      have z2 : Z 0 2 = nI n := by rw [hZ 0 (by omega)]; exact y2
      have z1 : Z 1 = X0 1 := by rw [hZ 1 (by omega)]; exact y1
      have hsg := r_sign (l := l) (g := g) (d := d - 1) Z r1.2 z2 (by omega) k1.1 (by omega) 91
      rw [z1] at hsg
      refine mReq_i rfl (mReq_i rfl ⟨trivial, fCv htr hsg (by omega) ?_⟩)
      have h91 := pSgn_ok (T := X0 1) (n := n) (c := 91) (by decide) k1.1
      show True ∧ mCal l g d k_X12_readsStep Φ 0 0 _ 131 k_X12_blanks false [.ref 0] [] [.ref 0, .int (nI 4), .ref (414 + s.2.1)] (mPS Z (pSgn (X0 1) n 91 r1.2)) o 0 0 0
      have h91' := h91.1
      have hbl := q_blanks (l := l) (g := g) (d := d - 1) Z (pSgn (X0 1) n 91 r1.2) z2 (by omega) (by omega) (by omega)
      rw [z1] at hbl
      refine ⟨trivial, fCv htr hbl (by omega) ?_⟩
      have RZ : RWk X0 (k + 1) (wAdd s.2 (4, nv r1.1, 0, 0, k)) ((pSgn (X0 1) n 91 r1.2).2.1 = 0) Z := by
        refine ⟨fun x x1 x2 => ?_, fun i i1 i2 => ?_, ?_, fun _ => ⟨?_, fun i hi => ?_⟩⟩
        · rw [hZ x (by omega), hY x x1 (by omega)]; exact R1.1 x x1 x2
        · rw [hZ 0 (by omega), hY0 i i2]; exact R1.2.1 i i1 i2
        · rw [hZ 0 (by omega), hY0 8 (by decide)]; exact R1.2.2.1
        · rw [hZ 0 (by omega)]; exact hY30
        · have hi' : i < s.2.1 + 1 := hi
          by_cases e : i = s.2.1
          · have eF : (wAdd s.2 (4, nv r1.1, 0, 0, k)).2 i = (4, nv r1.1, 0, 0, k) := if_pos e
            rw [eF, e]
            exact ⟨hZ0, fun _ => hZ1, fun z => absurd (show (4 : Nat) = 0 from z) (by decide), fun z => absurd rfl z⟩
          · have eF : (wAdd s.2 (4, nv r1.1, 0, 0, k)).2 i = s.2.2 i := if_neg e
            rw [eF]
            unfold rowW
            rw [hZ (414 + i) (by omega), hY (414 + i) (by omega) (by omega)]
            exact (R1.2.2.2 trivial).2 i (by omega)
      refine IH1 htr d (k + 1) (pSgn (X0 1) n 91 r1.2, wAdd s.2 (4, nv r1.1, 0, 0, k)) Z (414 + s.2.1) (nI 4) o Φ (by omega) (by omega) (by omega) (fun q => ?_) h91.1 (fun q => ?_) RZ ?_
      · have := (h91.2 q).2
        have e1 : pp.1 ≤ r1.2.1 := k1.2.1
        show 2 * (n - (pSgn (X0 1) n 91 r1.2).1) + 1 < N
        omega
      · have := (h91.2 q).2
        have e1 : pp.1 ≤ r1.2.1 := k1.2.1
        show 2 * (s.2.1 + 1) ≤ (pSgn (X0 1) n 91 r1.2).1
        omega
      · intro s1 X2 L1 R2
        have B := Wk_ok hM hS _ _ _ _ _ L1 h91.1 (by omega)
        have g2 : X2 0 2 = nI n := by rw [R2.2.1 2 (by decide) (by decide)]; exact h2
        have g1 : X2 1 = X0 1 := R2.1 1 (by decide) (by omega)
        refine mGoOn (mOk (by decide)) rfl [181] 400 ?_
        show True ∧ mCal l g d k_X12_readsStep Φ 0 0 _ 168 k_X12_sign false [.ref 0, .int (93 : Int32)] [] [.ref 0, .int (nI 4), .ref (414 + s.2.1)] (mPS X2 s1.1) o 0 0 0
        have hsg2 := r_sign (l := l) (g := g) (d := d - 1) X2 s1.1 g2 (by omega) B.1 (by omega) 93
        rw [g1] at hsg2
        refine ⟨trivial, fCv htr hsg2 (by omega) ?_⟩
        show (Value.ref 0).category = 1 ∧ (mWB l g d k_X12_readsStep Φ 0 0 181 [.ref 0, .int (nI 4), .ref (414 + s.2.1)] [] (mset (mPS X2 (pSgn (X0 1) n 93 s1.1)) 0 8 (((mPS X2 (pSgn (X0 1) n 93 s1.1)) 0 8) - (1 : Int32))) o 0 0)
        rw [mPS_f _ _ (by decide) (by decide) (by decide), R2.2.2.1, nI_pred, mPS_set0 _ _ (by decide) (by decide) (by decide)]
        have h93 := pSgn_ok (T := X0 1) (n := n) (c := 93) (by decide) B.1
        refine ⟨rfl, r_st181 htr o (by omega) hn h2 (k := k) (c := s.2.1) (a := wEnd s1.2 s.2.1) hc80 h93.1 _ ⟨fun x x1 x2 => ?_, fun i i1 i2 => ?_, ?_, fun q => ?_⟩ (fun X' hX' => hΦ3 s1 L1 X' hX')⟩
        · rw [mset_ne _ _ _ x1]; exact R2.1 x x1 x2
        · rw [mset_eq, pk_un i1]; exact R2.2.1 i i1 i2
        · rw [mset_eq, pk_us]
        · have q1 := (h93.2 q).1
          obtain ⟨b1, b2, b3, b4, b5, b6⟩ := B.2 q1
          obtain ⟨r30, rr⟩ := R2.2.2.2 q1
          have b4' : s.2.1 + 1 ≤ s1.2.1 := b4
          have bF : s1.2.2 s.2.1 = (4, nv r1.1, 0, 0, k) := by
            rw [b5 s.2.1 (Nat.lt_succ_self _)]
            exact if_pos rfl
          have eN : (wEnd s1.2 s.2.1).2 s.2.1 = (4, nv r1.1, 0, s1.2.1, k) := by
            show (if s.2.1 = s.2.1 then _ else s1.2.2 s.2.1) = _
            rw [if_pos rfl, bF]
          refine ⟨by rw [mset_eq, pk_un (by decide)]; exact r30, fun i hi hne => ?_, ?_, by rw [eN]; rfl⟩
          · have eF : (wEnd s1.2 s.2.1).2 i = s1.2.2 i := if_neg hne
            rw [eF]
            unfold rowW
            rw [mset_ne _ _ _ (by omega)]
            exact rr i hi
          · rw [eN]
            have q3 := rr s.2.1 (by omega)
            rw [bF] at q3
            unfold rowP
            rw [mset_ne _ _ _ (by omega)]
            exact ⟨q3.1, q3.2.1, q3.2.2.1⟩
    · rw [if_neg (fun z => hk z.2), if_pos hf, if_neg hk, ew 3] at hop
      refine fCi htr hop (by omega) ?_
      show (¬ (0 : Int32) = 0 → mWB l g d k_X12_readsStep Φ 0 0 32 [.ref 0, .int (nI 4), mJ] [] (mPS X (s.1.1, 3, nI s.1.1)) o 0 0) ∧ ((0 : Int32) = 0 → Φ (.inl none) (mPS X (s.1.1, 3, nI s.1.1)) o ∧ 0 ≤ 0 ∧ 0 ≤ 0)
      exact ⟨fun z => absurd rfl z, fun _ => eR (hΦ2 ((s.1.1, 3, nI s.1.1), s.2) X (Or.inr (Or.inl ⟨rfl, Or.inr ⟨hk, rfl⟩⟩)) (RWk_g hR (fun _ => trivial)))⟩
theorem r_allW (hn : n ≤ 150) (h2 : X0 0 2 = nI n) (h42 : X0 4 2 = nI M) (h40 : X0 4 0 = nI S) (hM : M ≤ 6) (hS : S ≤ 9) : ∀ N, cStp l g n X0 M S N ∧ cSq l g n X0 M S N
  | 0 => by
    refine ⟨fun d k s X hd hk6 hf hN => absurd hN (Nat.not_lt_zero _), fun htr d k s X r v o Φ hd hk1 hk6 hN hs hc hR kk => ?_⟩
    have hf : s.1.2.1 ≠ 0 := fun z => absurd (hN z) (Nat.not_lt_zero _)
    refine mGoOn (mOk (by decide)) rfl [134,165] 400 ?_
    show (¬ ((mPS X (pBl (X0 1) n s.1)) 0 5) = 0 → mWB l g d k_X12_readsStep Φ 0 0 165 [.ref 0, .int v, .ref r] [] (mPS X (pBl (X0 1) n s.1)) o 0 0) ∧ (((mPS X (pBl (X0 1) n s.1)) 0 5) = 0 → True ∧ mCal l g d k_X12_readsStep Φ 0 0 _ 146 k_X12_byteAt false [.ref 0, .int ((mPS X (pBl (X0 1) n s.1)) 0 4)] [] [.ref 0, .int v, .ref r] (mPS X (pBl (X0 1) n s.1)) o 0 0 1)
    rw [mPS_5]
    exact ⟨fun _ => kk (pBl (X0 1) n s.1, s.2) X (Wk_f ⟨hf, rfl, skp_in hs⟩) (RWk_g hR (fun q => absurd q hf)), fun q => absurd q hf⟩
  | N + 1 => by
    obtain ⟨i0, i1⟩ := r_allW hn h2 h42 h40 hM hS N
    exact ⟨r_stp hn h2 h42 h40 hM hS i1, r_sq hn h2 hM hS i0 i1⟩
end R46
