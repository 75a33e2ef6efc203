set_option maxRecDepth 100000
/-! THE CLASS'S QUERIES: year, span -/
theorem yw_n {A : Mm} (hA : CtB A) (hM : 0 < nM A) (q : Int32) {y : Y4} (h : Nt A y.1) : ∃ j, j ≤ 8 ∧ (stY A q y).2.1 = y.2.1 + nI j := by
  have hS : 0 < nS A := by
    obtain ⟨s, hs, _⟩ := h.1 0 hM
    omega
  have h8 := hA.2.2.2.2
  have hk := (yK_lt hA hM y).2
  rw [stY_2]
  by_cases z : y.1 (12 + yK A y) = 1 ∨ ¬ Ln A (y.1 (yK A y)) (nI (yS A y))
  · have e0 : yN A y = (0, y.1, y.2.1) := ifp_t z
    rw [e0]
    exact ⟨0, by omega, (nI_a0 _).symm⟩
  · have hup : y.1 (12 + yK A y) = 0 := by
      obtain ⟨b, hb, eb⟩ := h.2.1 (yK A y) (by have := hA.2.2.1.2; omega)
      rcases (show b = 0 ∨ b = 1 by omega) with rfl | rfl
      · exact eb
      · exact absurd (Or.inl eb) z
    have e1 := (nWalk_w hA h hk (yS_lt hA hS y).2 y.2.1 z hup).2.1
    exact ⟨_, Nat.le_trans (cnt_le _ _) (by omega), e1⟩
theorem yr_w {A : Mm} (hA : CtB A) (hV : Nt A (A 494)) (seed : Int32) (n : Nat) (q : Int32) : ∃ j, j ≤ 8 * n ∧ (yr A seed n q).2.1 = nI j := by
  unfold yr
  by_cases hz : nM A = 0
  · rw [if_pos hz]; exact ⟨0, by omega, rfl⟩
  · rw [if_neg hz]
    have key : ∀ n, Nt A (foY A q seed n).1 ∧ ∃ j, j ≤ 8 * n ∧ (foY A q seed n).2.1 = nI j := by
      intro n
      induction n with
      | zero => exact ⟨hV, 0, by omega, rfl⟩
      | succ n ih =>
        obtain ⟨h1, j, hj, ej⟩ := ih
        obtain ⟨i, hi, ei⟩ := yw_n hA (by omega) q h1
        refine ⟨(stY_Nt hA (by omega) q h1).2.2, j + i, by omega, ?_⟩
        rw [ej, nI_add] at ei
        exact ei
    exact (key n).2
section X15
variable {l : Launch} {g : mG} {d : Nat} {A : Mm}
theorem x_isYear (m : Mm) (hd : 1 ≤ d) (n q : Int32) : mFi l g d k_X11_isYear [.int n, .int q] m (pI (isY n q)) m := by
  refine nFi 0 rfl rfl rfl (by decide) rfl (fun htr o Φ hΦ => mGoOn (mOk (by decide)) rfl [] 400 ?_)
  show mCal l g d k_X11_isYear Φ 0 0 _ 4 k_X11_within false [.int n, .int (1 : Int32), .int (96 : Int32)] [] [.int n, .int q] m o 0 0 1
  refine fCi htr (x_within m n 1 96) hd ?_
  show ((pI (1 ≤ n ∧ n ≤ 96)) = 0 → ((0 : Int32) = 0 ∨ (0 : Int32) = 1) ∧ Φ (.inl (some (.int (0 : Int32)))) m o ∧ 0 ≤ 0 ∧ 0 ≤ 0) ∧ (¬ (pI (1 ≤ n ∧ n ≤ 96)) = 0 → mCal l g d k_X11_isYear Φ 0 0 _ 14 k_X11_within false [.int q, .int (0 : Int32), .int (16 : Int32)] [] [.int n, .int q] m o 0 0 1)
  have e1 : pI (0 ≤ q ∧ q ≤ 16) = pI (In q 17) := by rw [show (0 ≤ q ∧ q ≤ 16) = In q 17 from propext (in_In (n := 17) (by decide))]
  refine ⟨fun z => ?_, fun z => fCi htr (x_within m q 0 16) hd ?_⟩
  · rw [pI_f (fun y => pI_0.mp z y.1)] at hΦ
    exact ⟨Or.inl rfl, eR hΦ⟩
  · rw [e1]
    show ((pI (In q 17)) = 0 → ((0 : Int32) = 0 ∨ (0 : Int32) = 1) ∧ Φ (.inl (some (.int (0 : Int32)))) m o ∧ 0 ≤ 0 ∧ 0 ≤ 0) ∧ (¬ (pI (In q 17)) = 0 → ((1 : Int32) = 0 ∨ (1 : Int32) = 1) ∧ Φ (.inl (some (.int (1 : Int32)))) m o ∧ 0 ≤ 0 ∧ 0 ≤ 0)
    refine ⟨fun z2 => ?_, fun z2 => ?_⟩
    · rw [pI_f (fun y => pI_0.mp z2 y.2)] at hΦ
      exact ⟨Or.inl rfl, eR hΦ⟩
    · rw [pI_t ⟨pI_1.mp z, pI_1.mp z2⟩] at hΦ
      exact ⟨Or.inr rfl, eR hΦ⟩
theorem YJ_cl {y : Y4} {m m2 : Mm} (h : YJ A y m m2) (hm : cl m = A) : cl m2 = A := eqL_cl (fun a ha i => by
  simp [lY] at ha
  rcases ha with rfl | rfl | rfl | rfl | rfl | rfl | rfl <;> rfl) h.1 hm
theorem x_year (hQ : Qr A) {m : Mm} (hm : cl m = A) (hd : 7 ≤ d) (seed n q w : Int32) : xS l g d k_X11_year [.ref 586, .int seed, .int n, .int q, .int w] m A (qYr A seed n q w) := by
  have hSv : Sv A := ⟨hQ.1.1, hQ.2.1⟩
  refine nBx 0 rfl rfl rfl (by decide) rfl (fun htr o Φ hΦ => mGoOn (mOk (by decide)) rfl [23] 400 ?_)
  show mCal l g d k_X11_year Φ 4 24 _ 3 k_X11_isYear false [.int n, .int q] [.ref 586] [.ref 586, .int seed, .int n, .int q, .int w] m o 0 0 1
  unfold qYr at hΦ
  have key : ∀ v, v = pI (isY n q ∧ In w 4) → mWB l g d k_X11_year Φ 4 24 23 [.ref 586, .int seed, .int n, .int q, .int w] [.int v, .ref 586] m o 0 0 := by
    rintro v rfl
    refine mGoOn (mOk (by decide)) rfl [] 400 ?_
    show True ∧ mCal l g d k_X11_year Φ 4 24 _ 23 k_X11_needArgument false [.ref 586, .int (pI (isY n q ∧ In w 4))] [] [.ref 586, .int seed, .int n, .int q, .int w] m o 0 0 0
    refine ⟨trivial, cNeedA htr rfl (by omega) (by decide) (by decide) (fun h1 => ?_) (fun h1 => by
      replace h1 := pI_0.mp h1
      rw [ifp_f (h1)] at hΦ
      exact hΦ _ _ (xk_a hm (by decide)))⟩
    replace h1 := pI_1.mp h1
    rw [ifp_t (h1)] at hΦ
    obtain ⟨n, hn1, hn2, rfl⟩ := in_1 h1.1.1 (N := 96) rfl (by decide)
    obtain ⟨w, hw, rfl⟩ := h1.2
    rw [nI_cl (by omega), nI_cl (by omega)] at hΦ
    show True ∧ mCal l g d k_X11_year Φ 4 24 _ 44 k_X10_live false [.ref 701, .ref 589, .ref 626, .int seed, .int (nI n), .int q] [] [.ref 586, .int seed, .int (nI n), .int q, .int (nI w)] m o 1 6 0
    refine ⟨trivial, hCv htr (x_live hSv hQ.2.2.2.2.1 hQ.2.2.2.2.2.1 hQ.2.2.2.2.2.2.2.1 hQ.2.2.2.1 hm (by omega) seed (n := n) (by omega) q) (by omega) ?_⟩
    intro m2 hx
    have hm2 := YJ_cl hx hm
    generalize yr A seed n q = y at hx hΦ
    show (((nI w).toInt = 0 → Φ (.inl (some (.int (m2 701 1)))) m2 o ∧ 1 ≤ 4 ∧ 6 ≤ 24) ∧ ((nI w).toInt = 1 → Φ (.inl (some (.int (m2 701 2)))) m2 o ∧ 1 ≤ 4 ∧ 6 ≤ 24) ∧ ((nI w).toInt = 2 → Φ (.inl (some (.int (m2 702 1)))) m2 o ∧ 1 ≤ 4 ∧ 6 ≤ 24) ∧ True) ∧ ((nI w).toInt < 0 ∨ 2 < (nI w).toInt → Φ (.inl (some (.int (m2 702 2)))) m2 o ∧ 1 ≤ 4 ∧ 6 ≤ 24)
    rw [nI_toInt (by omega)]
    unfold vYr at hΦ
    refine ⟨⟨fun h => ?_, fun h => ?_, fun h => ?_, trivial⟩, fun h => ?_⟩
    · rw [if_pos (by omega)] at hΦ
      exact e4 (hΦ _ _ (xk_v hm2 hx.2.2.1))
    · rw [if_neg (by omega), if_pos (by omega)] at hΦ
      exact e4 (hΦ _ _ (xk_v hm2 hx.2.2.2.1))
    · rw [if_neg (by omega), if_neg (by omega), if_pos (by omega)] at hΦ
      exact e4 (hΦ _ _ (xk_v hm2 hx.2.1.2.1))
    · rw [if_neg (by omega), if_neg (by omega), if_neg (by omega)] at hΦ
      exact e4 (hΦ _ _ (xk_v hm2 hx.2.1.2.2.1))
  refine gCi htr (x_isYear m (by omega) n q) (by omega) ?_
  show ((pI (isY n q)) = 0 → mWB l g d k_X11_year Φ 4 24 23 [.ref 586, .int seed, .int n, .int q, .int w] [.int (0 : Int32), .ref 586] m o 0 0) ∧ (¬ (pI (isY n q)) = 0 → mCal l g d k_X11_year Φ 4 24 _ 12 k_X11_isChoice false [.int w, .int (4 : Int32)] [.ref 586] [.ref 586, .int seed, .int n, .int q, .int w] m o 0 0 1)
  refine ⟨fun z => key 0 (pI_f (fun y => pI_0.mp z y.1)).symm, fun z => gCi htr (x_isChoice m (by omega) w (n := 4) (by decide)) (by omega) ?_⟩
  show ((pI (In w 4)) = 0 → mWB l g d k_X11_year Φ 4 24 23 [.ref 586, .int seed, .int n, .int q, .int w] [.int (0 : Int32), .ref 586] m o 0 0) ∧ (¬ (pI (In w 4)) = 0 → mWB l g d k_X11_year Φ 4 24 23 [.ref 586, .int seed, .int n, .int q, .int w] [.int (1 : Int32), .ref 586] m o 0 0)
  exact ⟨fun z2 => key 0 (pI_f (fun y => pI_0.mp z2 y.2)).symm, fun z2 => key 1 (pI_t ⟨pI_1.mp z, pI_1.mp z2⟩).symm⟩
theorem x_span (hQ : Qr A) {m : Mm} (hm : cl m = A) (hd : 7 ≤ d) (seed mn n q w p : Int32) : xS l g d k_X11_span [.ref 586, .int seed, .int mn, .int n, .int q, .int w, .int p] m A (qSpn A seed mn n q w p) := by
  have hSv : Sv A := ⟨hQ.1.1, hQ.2.1⟩
  refine nBx 4 rfl rfl rfl (by decide) rfl (fun htr o Φ hΦ => mGoOn (mOk (by decide)) rfl [34,65,123] 400 ?_)
  show mCal l g d k_X11_span Φ 4 24 _ 5 k_X11_within false [.int mn, .int (1 : Int32), .int (20 : Int32)] [.ref 586] [.ref 586, .int seed, .int mn, .int n, .int q, .int w, .int p, mJ, mJ, mJ, mJ] m o 0 0 1
  unfold qSpn at hΦ
  have key : ∀ v, v = pI ((1 ≤ mn ∧ mn ≤ 20) ∧ isY n q ∧ In w 3) → mWB l g d k_X11_span Φ 4 24 34 [.ref 586, .int seed, .int mn, .int n, .int q, .int w, .int p, mJ, mJ, mJ, mJ] [.int v, .ref 586] m o 0 0 := by
    rintro v rfl
    refine mGoOn (mOk (by decide)) rfl [65,123] 400 ?_
    show True ∧ mCal l g d k_X11_span Φ 4 24 _ 34 k_X11_needArgument false [.ref 586, .int (pI ((1 ≤ mn ∧ mn ≤ 20) ∧ isY n q ∧ In w 3))] [] [.ref 586, .int seed, .int mn, .int n, .int q, .int w, .int p, mJ, mJ, mJ, mJ] m o 0 0 0
    refine ⟨trivial, cNeedA htr rfl (by omega) (by decide) (by decide) (fun h1 => ?_) (fun h1 => by
      replace h1 := pI_0.mp h1
      rw [ifp_f (fun z => h1 ⟨z.1, z.2.1, z.2.2.1⟩)] at hΦ
      exact hΦ _ _ (xk_a hm (by decide)))⟩
    replace h1 := pI_1.mp h1
    show True ∧ mCal l g d k_X11_span Φ 4 24 _ 47 k_X1_hasSleeper false [.ref 590, .int p] [.ref 586] [.ref 586, .int seed, .int mn, .int n, .int q, .int w, .int p, mJ, mJ, mJ, mJ] m o 1 6 1
    refine ⟨trivial, gCi htr (x_hasSleeper hQ.1.1 hQ.2.2.2.2.1 (csim_of hm) p) (by omega) ?_⟩
    show True ∧ mCal l g d k_X11_span Φ 4 24 _ 50 k_X11_needArgument false [.ref 586, .int (pI (In p (nP A)))] [] [.ref 586, .int seed, .int mn, .int n, .int q, .int w, .int p, mJ, mJ, mJ, mJ] m o 1 6 0
    refine ⟨trivial, cNeedA htr rfl (by omega) (by decide) (by decide) (fun h2 => ?_) (fun h2 => by
      replace h2 := pI_0.mp h2
      rw [ifp_f (fun z => h2 z.2.2.2)] at hΦ
      exact hΦ _ _ (xk_a hm (by decide)))⟩
    replace h2 := pI_1.mp h2
    rw [ifp_t (⟨h1.1, h1.2.1, h1.2.2, h2⟩)] at hΦ
    show mWB l g d k_X11_span Φ 4 24 65 [.ref 586, .int seed, .int mn, .int n, .int q, .int w, .int p, .int (-1 : Int32), .int (0 : Int32), .int (0 : Int32), .int (0 : Int32)] [] m o 2 12
    obtain ⟨h1, h3, h4⟩ := h1
    obtain ⟨mn, hmn1, hmn2, rfl⟩ := in_1 h1 (N := 20) rfl (by decide)
    obtain ⟨n, hn1, hn2, rfl⟩ := in_1 h3.1 (N := 96) rfl (by decide)
    obtain ⟨p, hp, rfl⟩ := h2
    have hp8 : p < 32 := by have := hQ.1.1.2.2.2.2; omega
    rw [nI_cl (by omega), nI_cl (by omega), nI_cl (by omega)] at hΦ
    dsimp only at hΦ
    have hfe : ∀ k, ((foS A seed n q p k).1 = -1 ↔ k = 0) := by
      intro k
      cases k with
      | zero => exact ⟨fun _ => rfl, fun _ => rfl⟩
      | succ k =>
        refine ⟨fun z => ?_, fun z => absurd z (by omega)⟩
        exfalso
        have e1 : (foS A seed n q p (k + 1)).1 = (stS A seed n q p k (foS A seed n q p k)).1 := rfl
        rw [e1] at z
        unfold stS at z
        dsimp only at z
        obtain ⟨j, hj, ej⟩ := yr_w hQ.1.1 hQ.2.2.2.1 (seed + nI k) n q
        rw [ej] at z
        have hj1 : nI j ≠ -1 := fun e => by
          have := congrArg Int32.toInt e
          rw [nI_toInt (by omega)] at this
          have e2 : (-1 : Int32).toInt = -1 := by decide
          omega
        by_cases y : (foS A seed n q p k).1 = -1
        · rw [if_pos y] at z; exact hj1 z
        · rw [if_neg y] at z
          by_cases y2 : (foS A seed n q p k).1 < nI j
          · rw [if_pos y2] at z; exact y z
          · rw [if_neg y2] at z; exact hj1 z
    refine mLoopZ (P := fun k => ∀ m, cl m = A → mWB l g d k_X11_span Φ 4 24 65 [.ref 586, .int seed, .int (nI mn), .int (nI n), .int q, .int w, .int (nI p), .int ((foS A seed n q p k).1), .int ((foS A seed n q p k).2.1), .int ((foS A seed n q p k).2.2), .int (nI k)] [] m o 2 12) (N := mn) ?_ ?_ m hm
    · intro m hm
      refine mGoOn (mOk (by decide)) rfl [65,123] 400 ?_
      show ((nI mn) ≤ (nI mn) → (¬ w = 0 → (¬ w = (1 : Int32) → Φ (.inl (some (.int ((foS A seed n q p mn).2.2)))) m o ∧ 2 ≤ 4 ∧ 12 ≤ 24) ∧ (w = (1 : Int32) → Φ (.inl (some (.int ((foS A seed n q p mn).2.1)))) m o ∧ 2 ≤ 4 ∧ 12 ≤ 24)) ∧ (w = 0 → Φ (.inl (some (.int ((foS A seed n q p mn).1)))) m o ∧ 2 ≤ 4 ∧ 12 ≤ 24)) ∧ (¬ (nI mn) ≤ (nI mn) → True ∧ mCal l g d k_X11_span Φ 4 24 _ 93 k_X10_live false [.ref 701, .ref 589, .ref 626, .int (seed + (nI mn)), .int (nI n), .int q] [] [.ref 586, .int seed, .int (nI mn), .int (nI n), .int q, .int w, .int (nI p), .int ((foS A seed n q p mn).1), .int ((foS A seed n q p mn).2.1), .int ((foS A seed n q p mn).2.2), .int (nI mn)] m o 2 12 0)
      refine ⟨fun _ => ⟨fun z => ⟨fun z2 => ?_, fun z2 => ?_⟩, fun z => ?_⟩, fun z => absurd (Int32.le_refl _) z⟩
      · rw [if_neg z, if_neg z2] at hΦ
        exact e4 (hΦ _ _ (xk_v hm rfl))
      · rw [if_neg z, if_pos z2] at hΦ
        exact e4 (hΦ _ _ (xk_v hm rfl))
      · rw [if_pos z] at hΦ
        exact e4 (hΦ _ _ (xk_v hm rfl))
    · intro k hk ih m hm
      have hfek := hfe k
      replace ih : ∀ m, cl m = A → mWB l g d k_X11_span Φ 4 24 65 [.ref 586, .int seed, .int (nI mn), .int (nI n), .int q, .int w, .int (nI p), .int ((stS A seed n q p k (foS A seed n q p k)).1), .int ((stS A seed n q p k (foS A seed n q p k)).2.1), .int ((stS A seed n q p k (foS A seed n q p k)).2.2), .int (nI (k + 1))] [] m o 2 12 := ih
      unfold stS at ih
      dsimp only at ih
      generalize foS A seed n q p k = x at ih hfek ⊢
      refine mGoOn (mOk (by decide)) rfl [65,123] 400 ?_
      show ((nI mn) ≤ (nI k) → (¬ w = 0 → (¬ w = (1 : Int32) → Φ (.inl (some (.int x.2.2))) m o ∧ 2 ≤ 4 ∧ 12 ≤ 24) ∧ (w = (1 : Int32) → Φ (.inl (some (.int x.2.1))) m o ∧ 2 ≤ 4 ∧ 12 ≤ 24)) ∧ (w = 0 → Φ (.inl (some (.int x.1))) m o ∧ 2 ≤ 4 ∧ 12 ≤ 24)) ∧ (¬ (nI mn) ≤ (nI k) → True ∧ mCal l g d k_X11_span Φ 4 24 _ 93 k_X10_live false [.ref 701, .ref 589, .ref 626, .int (seed + (nI k)), .int (nI n), .int q] [] [.ref 586, .int seed, .int (nI mn), .int (nI n), .int q, .int w, .int (nI p), .int x.1, .int x.2.1, .int x.2.2, .int (nI k)] m o 2 12 0)
      generalize hsd : seed + nI k = sd at ih ⊢
      refine ⟨fun z => absurd z (by rw [nI_leI (by omega) (by omega)]; omega), fun _ => ⟨trivial, hCv htr (x_live hSv hQ.2.2.2.2.1 hQ.2.2.2.2.2.1 hQ.2.2.2.2.2.2.2.1 hQ.2.2.2.1 hm (by omega) sd (n := n) (by omega) q) (by omega) ?_⟩⟩
      intro m2 hx
      have hm2 := YJ_cl hx hm
      generalize yr A sd n q = y at hx ih
      have hw := hx.2.2.2.1
      have rest : ∀ fe, fe = (if x.1 = -1 then y.2.1 else if x.1 < y.2.1 then x.1 else y.2.1) → mWB l g d k_X11_span Φ 4 24 123 [.ref 586, .int seed, .int (nI mn), .int (nI n), .int q, .int w, .int (nI p), .int x.1, .int x.2.1, .int x.2.2, .int (nI k)] [.int fe] m2 o 2 12 := by
        intro fe hfe
        refine mGoOn (mOk (by decide)) rfl [65] 400 ?_
        show 1 ≤ d ∧ (([] : List Value).map fun v => v.category).sum ≤ 8 ∧ 2 ≤ 4 ∧ 12 ≤ 24 ∧ (mCal l g d k_X11_span Φ 4 24 _ 153 k_X11_hasBit false [.int (m2 702 3), .int (nI p)] [.int x.2.2] [.ref 586, .int seed, .int (nI mn), .int (nI n), .int q, .int w, .int (nI p), .int fe, .int (if x.2.1 < (m2 701 2) then (m2 701 2) else x.2.1), .int x.2.2, .int (nI k)] m2 o 2 12 1)
        have emo : (if x.2.1 < m2 701 2 then m2 701 2 else x.2.1) = (if y.2.1 < x.2.1 then x.2.1 else y.2.1) := by
          rw [hw]
          by_cases z : x.2.1 < y.2.1
          · rw [if_pos z, if_neg (fun z2 => by rw [fa_lt] at z z2; omega)]
          · rw [if_neg z]
            by_cases z2 : y.2.1 < x.2.1
            · rw [if_pos z2]
            · rw [if_neg z2, fa_eq]; rw [fa_lt] at z z2; omega
        rw [emo]
        rw [← hfe] at ih
        generalize (if y.2.1 < x.2.1 then x.2.1 else y.2.1) = mo at ih ⊢
        refine ⟨by omega, by decide, by decide, by decide, gCi htr (x_hasBit m2 _ hp8) (by omega) ?_⟩
        show ((pI (hB (m2 702 3) p)) = 0 → mWB l g d k_X11_span Φ 4 24 65 [.ref 586, .int seed, .int (nI mn), .int (nI n), .int q, .int w, .int (nI p), .int fe, .int mo, .int (x.2.2 + (0 : Int32)), .int ((nI k) + (1 : Int32))] [] m2 o 2 12) ∧ (¬ (pI (hB (m2 702 3) p)) = 0 → mWB l g d k_X11_span Φ 4 24 65 [.ref 586, .int seed, .int (nI mn), .int (nI n), .int q, .int w, .int (nI p), .int fe, .int mo, .int (x.2.2 + (1 : Int32)), .int ((nI k) + (1 : Int32))] [] m2 o 2 12)
        rw [show m2 702 3 = yAw A y.1 from hx.2.1.2.2.2.1, nI_1]
        refine ⟨fun z => ?_, fun z => ?_⟩
        · rw [ifp_f (pI_0.mp z)] at ih
          rw [nI_a0]
          exact ih m2 hm2
        · rw [ifp_t (pI_1.mp z)] at ih
          exact ih m2 hm2
      show (¬ (nI k) = 0 → 1 ≤ d ∧ (([] : List Value).map fun v => v.category).sum ≤ 8 ∧ 2 ≤ 4 ∧ 12 ≤ 24 ∧ (mWB l g d k_X11_span Φ 4 24 123 [.ref 586, .int seed, .int (nI mn), .int (nI n), .int q, .int w, .int (nI p), .int x.1, .int x.2.1, .int x.2.2, .int (nI k)] [.int (if (m2 701 2) < x.1 then (m2 701 2) else x.1)] m2 o 2 12)) ∧ ((nI k) = 0 → mWB l g d k_X11_span Φ 4 24 123 [.ref 586, .int seed, .int (nI mn), .int (nI n), .int q, .int w, .int (nI p), .int x.1, .int x.2.1, .int x.2.2, .int (nI k)] [.int (m2 701 2)] m2 o 2 12)
      refine ⟨fun z => ⟨by omega, by decide, by decide, by decide, rest _ ?_⟩, fun z => rest _ ?_⟩
      · rw [hw, if_neg (c := x.1 = -1) (fun e => z (by rw [hfek.mp e]; rfl))]
        by_cases y1 : y.2.1 < x.1
        · rw [if_pos y1, if_neg (fun z2 => by rw [fa_lt] at y1 z2; omega)]
        · rw [if_neg y1]
          by_cases z2 : x.1 < y.2.1
          · rw [if_pos z2]
          · rw [if_neg z2, fa_eq]; rw [fa_lt] at y1 z2; omega
      · have hk0 : k = 0 := by
          rw [show (0 : Int32) = nI 0 from rfl, nI_eq (by omega) (by decide)] at z
          exact z
        rw [if_pos (hfek.mpr hk0), hw]
  refine gCi htr (x_within m mn 1 20) (by omega) ?_
  show ((pI (1 ≤ mn ∧ mn ≤ 20)) = 0 → mWB l g d k_X11_span Φ 4 24 34 [.ref 586, .int seed, .int mn, .int n, .int q, .int w, .int p, mJ, mJ, mJ, mJ] [.int (0 : Int32), .ref 586] m o 0 0) ∧ (¬ (pI (1 ≤ mn ∧ mn ≤ 20)) = 0 → mCal l g d k_X11_span Φ 4 24 _ 14 k_X11_isYear false [.int n, .int q] [.ref 586] [.ref 586, .int seed, .int mn, .int n, .int q, .int w, .int p, mJ, mJ, mJ, mJ] m o 0 0 1)
  refine ⟨fun z => key 0 (pI_f (fun y => pI_0.mp z y.1)).symm, fun z => gCi htr (x_isYear m (by omega) n q) (by omega) ?_⟩
  show ((pI (isY n q)) = 0 → mWB l g d k_X11_span Φ 4 24 34 [.ref 586, .int seed, .int mn, .int n, .int q, .int w, .int p, mJ, mJ, mJ, mJ] [.int (0 : Int32), .ref 586] m o 0 0) ∧ (¬ (pI (isY n q)) = 0 → mCal l g d k_X11_span Φ 4 24 _ 23 k_X11_isChoice false [.int w, .int (3 : Int32)] [.ref 586] [.ref 586, .int seed, .int mn, .int n, .int q, .int w, .int p, mJ, mJ, mJ, mJ] m o 0 0 1)
  refine ⟨fun z2 => key 0 (pI_f (fun y => pI_0.mp z2 y.2.1)).symm, fun z2 => gCi htr (x_isChoice m (by omega) w (n := 3) (by decide)) (by omega) ?_⟩
  show ((pI (In w 3)) = 0 → mWB l g d k_X11_span Φ 4 24 34 [.ref 586, .int seed, .int mn, .int n, .int q, .int w, .int p, mJ, mJ, mJ, mJ] [.int (0 : Int32), .ref 586] m o 0 0) ∧ (¬ (pI (In w 3)) = 0 → mWB l g d k_X11_span Φ 4 24 34 [.ref 586, .int seed, .int mn, .int n, .int q, .int w, .int p, mJ, mJ, mJ, mJ] [.int (1 : Int32), .ref 586] m o 0 0)
  exact ⟨fun z3 => key 0 (pI_f (fun y => pI_0.mp z3 y.2.2)).symm, fun z3 => key 1 (pI_t ⟨pI_1.mp z, pI_1.mp z2, pI_1.mp z3⟩).symm⟩
end X15
