set_option maxRecDepth 100000
/-! THE CLASS'S QUERIES -/
section GC
variable {l : Launch} {g : mG} {d k : Nat} {Φ : mR → Mm → Int64 → Prop} {MC MS : Nat} {nx : Nat → List Value → List Value → Mm → Int64 → Nat → Nat → Prop} {pc a : Nat} {nt : Bool} {As R L : List Value} {m m' : Mm} {o : Int64} {cN sN : Nat}
theorem gCi {x : Int32} (htr : l.stackTraces = false) (hf : mFi l g (d - 1) a As m x m') (hd : 1 ≤ d) (kk : nx (pc + 3) L (.int x :: R) m' o cN sN) (h1 : cN ≤ MC := by decide) (h2 : sN ≤ MS := by decide) : mCal l g d k Φ MC MS nx pc a nt As R L m o cN sN 1 := mCi htr hf hd h1 h2 kk
theorem gCv (htr : l.stackTraces = false) (hf : mFu l g (d - 1) a As m m') (hd : 1 ≤ d) (kk : nx (pc + 3) L R m' o cN sN) (h1 : cN ≤ MC := by decide) (h2 : sN ≤ MS := by decide) : mCal l g d k Φ MC MS nx pc a nt As R L m o cN sN 0 := mCv htr hf hd h1 h2 kk
theorem hCi {Q : Int32 → Mm → Prop} (htr : l.stackTraces = false) (hf : mHi l g (d - 1) a As m Q) (hd : 1 ≤ d) (kk : ∀ x m2, Q x m2 → nx (pc + 3) L (.int x :: R) m2 o cN sN) (h1 : cN ≤ MC := by decide) (h2 : sN ≤ MS := by decide) : mCal l g d k Φ MC MS nx pc a nt As R L m o cN sN 1 := nCi' htr hf hd h1 h2 kk
theorem hCv {Q : Mm → Prop} (htr : l.stackTraces = false) (hf : mHv l g (d - 1) a As m Q) (hd : 1 ≤ d) (kk : ∀ m2, Q m2 → nx (pc + 3) L R m2 o cN sN) (h1 : cN ≤ MC := by decide) (h2 : sN ≤ MS := by decide) : mCal l g d k Φ MC MS nx pc a nt As R L m o cN sN 0 := nCv' htr hf hd h1 h2 kk
end GC
theorem toI_nI {w : Int32} {n : Nat} (h : w.toInt = (n : Int)) (hn : n < 2 ^ 31) : w = nI n := by rw [fa_eq, nI_toInt hn]; exact h
theorem nIn_of {w : Int32} {n : Nat} (h : w.toInt < 0 ∨ (n : Int) ≤ w.toInt) (hn : n < 2 ^ 31) : ¬ In w n := by
  rintro ⟨k, hk, rfl⟩
  rw [nI_toInt (by omega)] at h
  omega
theorem nrNow {A m : Mm} (hQ : Qr A) (hm : cl m = A) : NtR A (A 494) m 626 := by
  have h := hQ.2.2.2.2.2.2.2.1
  unfold NtR
  rw [clF hm (a := 626) (by omega), clF hm (a := 627) (by omega), clF hm (a := 628) (by omega), clF hm (a := 629) (by omega)]
  exact h
theorem ar {A m : Mm} (hm : cl m = A) (a i : Nat) (h : 1 ≤ a ∧ a ≤ 410 ∨ 413 ≤ a ∧ a ≤ 494 ∨ 496 ≤ a ∧ a ≤ 516 ∨ 585 ≤ a ∧ a ≤ 601 ∨ 604 ≤ a ∧ a ≤ 695 ∨ 707 ≤ a := by omega) : m a i = A a i := clA hm i h
section X3
variable {l : Launch} {g : mG} {d : Nat} {A : Mm}
theorem x_cryIn (hQ : Qr A) {m : Mm} (hm : cl m = A) (hd : 3 ≤ d) {k s : Nat} (hk : k < nM A) (hs : s < nS A) : mHi l g d k_X11_cryIn [.ref 586, .int (nI k), .int (nI s)] m (fun x m2 => x = sayN A k s (A 494 35) ∧ cl m2 = A) := by
  refine nBi 0 rfl rfl rfl (by decide) rfl (fun htr o Φ hΦ => mGoOn (mOk (by decide)) rfl [] 400 ?_)
  show True ∧ mCal l g d k_X11_cryIn Φ 0 0 _ 23 k_X8_cry false [.ref 589, .ref 626, .int (nI k), .int (nI s), .int (m 626 0)] [] [.ref 586, .int (nI k), .int (nI s)] m o 0 0 1
  have hN := nrNow hQ hm
  rw [hN.1]
  refine ⟨trivial, nCi htr (x_cry ⟨hQ.1.1, hQ.2.1⟩ hQ.2.2.2.2.1 hQ.2.2.2.2.2.1 (csim_of hm) (by omega) rfl (Or.inr (by decide)) hN hk hs _) (by omega) ?_⟩
  intro x m2 hx
  exact eR (hΦ _ _ ⟨hx.1, eqC_cl hx.2 hm⟩)
theorem x_cryAtHome (hQ : Qr A) {m : Mm} (hm : cl m = A) (hd : 4 ≤ d) {k : Nat} (hk : k < nM A) : mHi l g d k_X11_cryAtHome [.ref 586, .int (nI k)] m (fun x m2 => x = hsN A k ∧ cl m2 = A) := by
  have h6 := hQ.1.1.2.2.1.2
  have h9 := hQ.1.1.1.2
  have hp := In_cl (hQ.2.2.2.1.1 k hk) (by omega)
  refine nBi 0 rfl rfl rfl (by decide) rfl (fun htr o Φ hΦ => mGoOn (mOk (by decide)) rfl [] 400 ?_)
  show mCal l g d k_X11_cryAtHome Φ 0 0 _ 13 k_X11_at false [.ref 627, .int (nI k)] [.int (nI k), .ref 586] [.ref 586, .int (nI k)] m o 0 0 1
  refine fCi htr (x_at m (a := 627) (n := 6) rfl rfl (by decide) (by omega)) (by omega) ?_
  rw [(nrNow hQ hm).2.2.2.2.1 k hk, hp.1]
  refine ⟨trivial, nCi htr (x_cryIn hQ hm (by omega) hk (by omega)) (by omega) ?_⟩
  intro x m2 hx
  exact eR (hΦ _ _ ⟨hx.1, hx.2⟩)
theorem x_heardAt (hQ : Qr A) {m : Mm} (hm : cl m = A) (hd : 1 ≤ d) (h : Int32) : mFi l g d k_X11_heardAt [.ref 586, .int h] m (snd A h) m := by
  have h9 := hQ.1.1.1.2
  refine nFi 0 rfl rfl rfl (by decide) rfl (fun htr o Φ hΦ => mGoOn (mOk (by decide)) rfl [] 400 ?_)
  show mCal l g d k_X11_heardAt Φ 0 0 _ 21 k_X11_places false [.ref 629, .int (m 590 0), .int h] [] [.ref 586, .int h] m o 0 0 1
  rw [ar hm 590 0, hQ.2.2.2.2.1.1.1]
  refine fCi htr (x_places m (a := 629) (n := 9) rfl rfl (by decide) h9 (by omega) h) hd ?_
  rw [show msk (fun i => m 629 i = h) (nS A) = snd A h from msk_cong (fun i hi => by rw [(nrNow hQ hm).2.2.2.2.2.2 i (by omega) hi])]
  exact eR hΦ
theorem x_lane (hQ : Qr A) {m : Mm} (hm : cl m = A) (hd : 8 ≤ d) (e w : Int32) : xS l g d k_X11_lane [.ref 586, .int e, .int w] m A (qLane A e w) := by
  have h14 := hQ.1.1.2.1.2
  have hC := hQ.2.2.2.2.1
  refine nBx 1 rfl rfl rfl (by decide) rfl (fun htr o Φ hΦ => mGoOn (mOk (by decide)) rfl [26] 400 ?_)
  show (e < 0 → mWB l g d k_X11_lane Φ 4 24 26 [.ref 586, .int e, .int w, .ref 590] [.int (0 : Int32), .ref 586] m o 0 0) ∧ (¬ e < 0 → ((m 590 1) ≤ e → mWB l g d k_X11_lane Φ 4 24 26 [.ref 586, .int e, .int w, .ref 590] [.int (0 : Int32), .ref 586] m o 0 0) ∧ (¬ (m 590 1) ≤ e → mWB l g d k_X11_lane Φ 4 24 26 [.ref 586, .int e, .int w, .ref 590] [.int (1 : Int32), .ref 586] m o 0 0))
  unfold qLane at hΦ
  have key : ∀ b : Int32, b = pI (In e (nL A)) → mWB l g d k_X11_lane Φ 4 24 26 [.ref 586, .int e, .int w, .ref 590] [.int b, .ref 586] m o 0 0 := by
    intro b hb
    subst hb
    refine mGoOn (mOk (by decide)) rfl [] 400 ?_
    show True ∧ mCal l g d k_X11_lane Φ 4 24 _ 26 k_X11_needElement false [.ref 586, .int (pI (In e (nL A)))] [] [.ref 586, .int e, .int w, .ref 590] m o 0 0 0
    refine ⟨trivial, cNeedE htr rfl (by omega) (by decide) (by decide) (fun h => ?_) (fun h => by
      replace h := pI_0.mp h
      rw [ifp_f (h)] at hΦ
      exact hΦ _ _ (xk_n hm))⟩
    replace h := pI_1.mp h
    rw [ifp_t (h)] at hΦ
    obtain ⟨e, he, rfl⟩ := h
    rw [nI_cl (by omega)] at hΦ
    show (w.toInt = 0 → mCal l g d k_X11_lane Φ 4 24 _ 61 k_X11_at false [.ref 593, .int (nI e)] [] [.ref 586, .int (nI e), .int w, .ref 590] m o 1 6 1) ∧ (w.toInt ≠ 0 → (w.toInt = 1 → mCal l g d k_X11_lane Φ 4 24 _ 70 k_X11_at false [.ref 594, .int (nI e)] [] [.ref 586, .int (nI e), .int w, .ref 590] m o 1 6 1) ∧ (w.toInt ≠ 1 → True ∧ mCal l g d k_X11_lane Φ 4 24 _ 75 k_X11_refuseArgument false [.ref 586] [] [.ref 586, .int (nI e), .int w, .ref 590] m o 1 6 1))
    refine ⟨fun hw => ?_, fun hw => ⟨fun hw2 => ?_, fun hw2 => ?_⟩⟩
    · have := toI_nI (n := 0) hw (by decide)
      subst this
      rw [ifp_t ⟨0, by decide, rfl⟩, nI_cl (by decide)] at hΦ
      exact gCi htr (x_at m (a := 593) (n := 14) rfl rfl (by decide) (by omega)) (by omega) (e4 (hΦ _ _ (xk_v hm (by rw [ar hm 593 e]; exact (hC.2.2.2.1 e he).1))))
    · have := toI_nI (n := 1) hw2 (by decide)
      subst this
      rw [ifp_t ⟨1, by decide, rfl⟩, nI_cl (by decide)] at hΦ
      exact gCi htr (x_at m (a := 594) (n := 14) rfl rfl (by decide) (by omega)) (by omega) (e4 (hΦ _ _ (xk_v hm (by rw [ar hm 594 e]; exact (hC.2.2.2.1 e he).2))))
    · rw [ifp_f (nIn_of (by omega) (by decide))] at hΦ
      exact ⟨trivial, cRefA htr rfl (by omega) (by decide) (by decide) (hΦ _ _ (xk_a hm (by decide)))⟩
  rw [ar hm 590 1, hC.1.2.1]
  have hi := in_lt (s := e) (n := nL A) (by omega)
  exact ⟨fun h => key 0 (pI_f (fun q => (hi.mpr q).1 h)).symm, fun h => ⟨fun h2 => key 0 (pI_f (fun q => (hi.mpr q).2 h2)).symm, fun h2 => key 1 (pI_t (hi.mp ⟨h, h2⟩)).symm⟩⟩
theorem x_sounds (hQ : Qr A) {m : Mm} (hm : cl m = A) (hd : 8 ≤ d) (h : Int32) : xS l g d k_X11_sounds [.ref 586, .int h] m A (qSnd A h) := by
  refine nBx 0 rfl rfl rfl (by decide) rfl (fun htr o Φ hΦ => mGoOn (mOk (by decide)) rfl [] 400 ?_)
  show mCal l g d k_X11_sounds Φ 4 24 _ 2 k_X11_isHour false [.int h] [.ref 586] [.ref 586, .int h] m o 0 0 1
  unfold qSnd at hΦ
  refine gCi htr (x_isHour m (by omega) h) (by omega) ?_
  show True ∧ mCal l g d k_X11_sounds Φ 4 24 _ 5 k_X11_needArgument false [.ref 586, .int (pI (In h 24))] [] [.ref 586, .int h] m o 0 0 0
  refine ⟨trivial, cNeedA htr rfl (by omega) (by decide) (by decide) (fun h1 => ?_) (fun h1 => by
    replace h1 := pI_0.mp h1
    rw [ifp_f (h1)] at hΦ
    exact hΦ _ _ (xk_a hm (by decide)))⟩
  replace h1 := pI_1.mp h1
  rw [ifp_t (h1)] at hΦ
  exact ⟨trivial, gCi htr (x_heardAt hQ hm (by omega) h) (by omega) (e4 (hΦ _ _ (xk_v hm rfl)))⟩
theorem x_silent (hQ : Qr A) {m : Mm} (hm : cl m = A) (hd : 8 ≤ d) : xS l g d k_X11_silent [.ref 586] m A (0, 0, snd A 24) := by
  refine nBx 0 rfl rfl rfl (by decide) rfl (fun htr o Φ hΦ => mGoOn (mOk (by decide)) rfl [] 400 ?_)
  show True ∧ mCal l g d k_X11_silent Φ 4 24 _ 3 k_X11_heardAt false [.ref 586, .int (24 : Int32)] [] [.ref 586] m o 0 0 1
  exact ⟨trivial, gCi htr (x_heardAt hQ hm (by omega) 24) (by omega) (e4 (hΦ _ _ (xk_v hm rfl)))⟩
theorem x_says (hQ : Qr A) {m : Mm} (hm : cl m = A) (hd : 8 ≤ d) (a b : Int32) : xS l g d k_X11_says [.ref 586, .int a, .int b] m A (qSay A a b) := by
  have h9 := hQ.1.1.1.2
  have h6 := hQ.1.1.2.2.1.2
  refine nBx 0 rfl rfl rfl (by decide) rfl (fun htr o Φ hΦ => mGoOn (mOk (by decide)) rfl [34] 400 ?_)
  show True ∧ mCal l g d k_X11_says Φ 4 24 _ 9 k_X1_hasMan false [.ref 590, .int a] [.ref 586] [.ref 586, .int a, .int b] m o 0 0 1
  unfold qSay at hΦ
  have key : ∀ c : Int32, c = pI (In a (nM A) ∧ In b (nS A)) → mWB l g d k_X11_says Φ 4 24 34 [.ref 586, .int a, .int b] [.int c, .ref 586] m o 0 0 := by
    intro c hc
    subst hc
    refine mGoOn (mOk (by decide)) rfl [] 400 ?_
    show True ∧ mCal l g d k_X11_says Φ 4 24 _ 34 k_X11_needElement false [.ref 586, .int (pI (In a (nM A) ∧ In b (nS A)))] [] [.ref 586, .int a, .int b] m o 0 0 0
    refine ⟨trivial, cNeedE htr rfl (by omega) (by decide) (by decide) (fun h => ?_) (fun h => by
      replace h := pI_0.mp h
      rw [ifp_f (h)] at hΦ
      exact hΦ _ _ (xk_n hm))⟩
    replace h := pI_1.mp h
    rw [ifp_t (h)] at hΦ
    obtain ⟨⟨a, ha, rfl⟩, ⟨b, hb, rfl⟩⟩ := h
    rw [nI_cl (by omega), nI_cl (by omega)] at hΦ
    refine ⟨trivial, hCi htr (x_cryIn hQ hm (by omega) ha (by omega)) (by omega) ?_⟩
    intro x m2 hx
    exact e4 (hΦ _ _ (xk_v hx.2 hx.1))
  refine ⟨trivial, gCi htr (x_hasMan hQ.1.1 hQ.2.2.2.2.1 (csim_of hm) a) (by omega) ?_⟩
  show ((pI (In a (nM A))) = 0 → mWB l g d k_X11_says Φ 4 24 34 [.ref 586, .int a, .int b] [.int (0 : Int32), .ref 586] m o 0 0) ∧ (¬ (pI (In a (nM A))) = 0 → True ∧ mCal l g d k_X11_says Φ 4 24 _ 23 k_X1_hasStreet false [.ref 590, .int b] [.ref 586] [.ref 586, .int a, .int b] m o 0 0 1)
  refine ⟨fun h => key 0 (pI_f (fun q => pI_0.mp h q.1)).symm, fun h => ⟨trivial, gCi htr (x_hasStreet hQ.1.1 hQ.2.2.2.2.1 (csim_of hm) b) (by omega) ?_⟩⟩
  show ((pI (In b (nS A))) = 0 → mWB l g d k_X11_says Φ 4 24 34 [.ref 586, .int a, .int b] [.int (0 : Int32), .ref 586] m o 0 0) ∧ (¬ (pI (In b (nS A))) = 0 → mWB l g d k_X11_says Φ 4 24 34 [.ref 586, .int a, .int b] [.int (1 : Int32), .ref 586] m o 0 0)
  exact ⟨fun h2 => key 0 (pI_f (fun q => pI_0.mp h2 q.2)).symm, fun h2 => key 1 (pI_t ⟨pI_1.mp h, pI_1.mp h2⟩).symm⟩
theorem x_wakes (hQ : Qr A) {m : Mm} (hm : cl m = A) (hd : 8 ≤ d) (a b : Int32) : xS l g d k_X11_wakes [.ref 586, .int a, .int b] m A (qWak A a b) := by
  have h9 := hQ.1.1.1.2
  have h6 := hQ.1.1.2.2.1.2
  refine nBx 0 rfl rfl rfl (by decide) rfl (fun htr o Φ hΦ => mGoOn (mOk (by decide)) rfl [34] 400 ?_)
  show True ∧ mCal l g d k_X11_wakes Φ 4 24 _ 9 k_X1_hasMan false [.ref 590, .int a] [.ref 586] [.ref 586, .int a, .int b] m o 0 0 1
  unfold qWak at hΦ
  have key : ∀ c : Int32, c = pI (In a (nM A) ∧ In b (nS A)) → mWB l g d k_X11_wakes Φ 4 24 34 [.ref 586, .int a, .int b] [.int c, .ref 586] m o 0 0 := by
    intro c hc
    subst hc
    refine mGoOn (mOk (by decide)) rfl [] 400 ?_
    show True ∧ mCal l g d k_X11_wakes Φ 4 24 _ 34 k_X11_needElement false [.ref 586, .int (pI (In a (nM A) ∧ In b (nS A)))] [] [.ref 586, .int a, .int b] m o 0 0 0
    refine ⟨trivial, cNeedE htr rfl (by omega) (by decide) (by decide) (fun h => ?_) (fun h => by
      replace h := pI_0.mp h
      rw [ifp_f (h)] at hΦ
      exact hΦ _ _ (xk_n hm))⟩
    replace h := pI_1.mp h
    rw [ifp_t (h)] at hΦ
    obtain ⟨⟨a, ha, rfl⟩, ⟨b, hb, rfl⟩⟩ := h
    rw [nI_cl (by omega), nI_cl (by omega)] at hΦ
    refine ⟨trivial, hCi htr (x_cryIn hQ hm (by omega) ha (by omega)) (by omega) ?_⟩
    intro x m2 hx
    refine ⟨trivial, gCi htr (x_sleepersAt hQ.1.1 hQ.2.2.2.2.1 (csim_of hx.2) (by omega) _ _) (by omega) ?_⟩
    refine e4 (hΦ _ _ (xk_v hx.2 ?_))
    rw [hx.1]
    rfl
  refine ⟨trivial, gCi htr (x_hasMan hQ.1.1 hQ.2.2.2.2.1 (csim_of hm) a) (by omega) ?_⟩
  show ((pI (In a (nM A))) = 0 → mWB l g d k_X11_wakes Φ 4 24 34 [.ref 586, .int a, .int b] [.int (0 : Int32), .ref 586] m o 0 0) ∧ (¬ (pI (In a (nM A))) = 0 → True ∧ mCal l g d k_X11_wakes Φ 4 24 _ 23 k_X1_hasStreet false [.ref 590, .int b] [.ref 586] [.ref 586, .int a, .int b] m o 0 0 1)
  refine ⟨fun h => key 0 (pI_f (fun q => pI_0.mp h q.1)).symm, fun h => ⟨trivial, gCi htr (x_hasStreet hQ.1.1 hQ.2.2.2.2.1 (csim_of hm) b) (by omega) ?_⟩⟩
  show ((pI (In b (nS A))) = 0 → mWB l g d k_X11_wakes Φ 4 24 34 [.ref 586, .int a, .int b] [.int (0 : Int32), .ref 586] m o 0 0) ∧ (¬ (pI (In b (nS A))) = 0 → mWB l g d k_X11_wakes Φ 4 24 34 [.ref 586, .int a, .int b] [.int (1 : Int32), .ref 586] m o 0 0)
  exact ⟨fun h2 => key 0 (pI_f (fun q => pI_0.mp h2 q.2)).symm, fun h2 => key 1 (pI_t ⟨pI_1.mp h, pI_1.mp h2⟩).symm⟩
end X3
