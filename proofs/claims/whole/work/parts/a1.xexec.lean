set_option maxRecDepth 100000
/-! A WORK IS DONE, in the class -/
def xE (A X0 : Mm) (e : EX) (m : Mm) : Prop := (∀ a, a ≠ 602 → a ≠ 603 → a ≠ 621 → (a < 626 ∨ 629 < a) → m a = X0 a) ∧ m 621 3 = X0 621 3 ∧ NtR A e.1 m 626 ∧ m 621 4 = nI e.2.2.1 ∧ m 621 5 = nI e.2.2.2.1 ∧ m 621 6 = nI e.2.2.2.2
theorem nt626 : ntB 626 = true := by decide +kernel
section XE
variable {l : Launch} {g : mG} {A X0 : Mm} {F : Nat → W5} {c : Nat}
theorem xE_cs {e : EX} {m : Mm} (h : xE A X0 e m) (hs : csim A X0) : csim A m := fun a h1 h2 => by rw [h.1 a (by omega) (by omega) (by omega) (by omega)]; exact hs a h1 h2
theorem x_lastH {d : Nat} (m : Mm) : mFi l g d k_X5_isLastHour [.ref 626] m (pI (300 ≤ m 626 1 ∧ m 626 0 = 23)) m := by
  refine nFi 0 rfl rfl rfl (by decide) rfl (fun htr o Φ hΦ => mGoOn (mOk (by decide)) rfl [24] 400 ?_)
  show (¬ (m 626 0) = (23 : Int32) → mWB l g d k_X5_isLastHour Φ 0 0 24 [.ref 626] [.int (0 : Int32)] m o 0 0) ∧ ((m 626 0) = (23 : Int32) → ((m 626 1) < (300 : Int32) → mWB l g d k_X5_isLastHour Φ 0 0 24 [.ref 626] [.int (0 : Int32)] m o 0 0) ∧ (¬ (m 626 1) < (300 : Int32) → mWB l g d k_X5_isLastHour Φ 0 0 24 [.ref 626] [.int (1 : Int32)] m o 0 0))
  refine ⟨fun y => ?_, fun y => ⟨fun y2 => ?_, fun y2 => ?_⟩⟩
  · refine mGoOn (mOk (by decide)) rfl [] 400 ?_
    show ((0 : Int32) = 0 ∨ (0 : Int32) = 1) ∧ Φ (.inl (some (.int (0 : Int32)))) m o ∧ 0 ≤ 0 ∧ 0 ≤ 0
    rw [pI_f (fun u => y u.2)] at hΦ
    exact ⟨Or.inl rfl, eR hΦ⟩
  · refine mGoOn (mOk (by decide)) rfl [] 400 ?_
    show ((0 : Int32) = 0 ∨ (0 : Int32) = 1) ∧ Φ (.inl (some (.int (0 : Int32)))) m o ∧ 0 ≤ 0 ∧ 0 ≤ 0
    rw [pI_f (fun u => (fa_of_lt y2).2.1 u.1)] at hΦ
    exact ⟨Or.inl rfl, eR hΦ⟩
  · refine mGoOn (mOk (by decide)) rfl [] 400 ?_
    show ((1 : Int32) = 0 ∨ (1 : Int32) = 1) ∧ Φ (.inl (some (.int (1 : Int32)))) m o ∧ 0 ≤ 0 ∧ 0 ≤ 0
    rw [pI_t ⟨fa_of_nlt y2, y⟩] at hΦ
    exact ⟨Or.inr rfl, eR hΦ⟩
theorem x_wpass {d : Nat} (hA : CtB A) {m : Mm} {R : Nat → Int32} (hR : NtR A R m 626) (hV : Nt A R) (hd : 3 ≤ d) : mHi l g d k_X9_passHour [.ref 626] m (fun x m2 => (300 ≤ R 36 ∧ R 35 = 23 ∧ x = 0 ∧ m2 = m) ∨ (¬ (300 ≤ R 36 ∧ R 35 = 23) ∧ x = 1 ∧ eqN 626 m m2 ∧ NtR A (nHour R) m2 626)) := by
  refine nBi 0 rfl rfl rfl (by decide) rfl (fun htr o Φ hΦ => mGoOn (mOk (by decide)) rfl [] 400 ?_)
  show True ∧ mCal l g d k_X9_passHour Φ 0 0 _ 1 k_X5_isLastHour false [.ref 626] [] [.ref 626] m o 0 0 1
  have hl := x_lastH (l := l) (g := g) (d := d - 1) m
  rw [hR.1, hR.2.1] at hl
  refine ⟨trivial, fCi htr hl (by omega) ?_⟩
  show ((pI (300 ≤ R 36 ∧ R 35 = 23)) = 0 → True ∧ mCal l g d k_X9_passHour Φ 0 0 _ 10 k_X5_passHour false [.ref 626] [] [.ref 626] m o 0 0 0) ∧ (¬ (pI (300 ≤ R 36 ∧ R 35 = 23)) = 0 → ((0 : Int32) = 0 ∨ (0 : Int32) = 1) ∧ Φ (.inl (some (.int (0 : Int32)))) m o ∧ 0 ≤ 0 ∧ 0 ≤ 0)
  refine ⟨fun y => ⟨trivial, nCv htr (x_passHour hA nt626 (by omega) hR hV) (by omega) ?_⟩, fun y => ⟨Or.inl rfl, eR (hΦ _ _ (Or.inl ⟨(pI_1.mp y).1, (pI_1.mp y).2, rfl, rfl⟩))⟩⟩
  rintro m2 ⟨q1, q2⟩
  show ((1 : Int32) = 0 ∨ (1 : Int32) = 1) ∧ Φ (.inl (some (.int (1 : Int32)))) m2 o ∧ 0 ≤ 0 ∧ 0 ≤ 0
  exact ⟨Or.inr rfl, eR (hΦ _ _ (Or.inr ⟨pI_0.mp y, rfl, q1, q2⟩))⟩
theorem x_pstep {d : Nat} (hA : Sv A) (hC : CtR A A 590) (hLw : LwR A A 600) (hcs : csim A X0) {e : EX} (hI : exI A e) {m : Mm} (hE : xE A X0 (exB e) m) {i : Nat} (hi : i < 150) {v : W5} (hv : dW1 X0 i v) (h4 : v.1 < 4) (h1 : v.1 < 3 → v.2.1 < nM A) (h0 : v.1 = 0 → v.2.2.1 < nS A) (hd : 4 ≤ d) : mHv l g d k_X9_performStep [.ref 621, .ref 589, .ref 626, .int (nI i)] m (fun m2 => xE A X0 (exS A v e) m2) := by
  have hM6 := hA.1.2.2.1.2
  have hcm := xE_cs hE hcs
  have e623 : m 623 i = nI v.2.1 := by rw [hE.1 623 (by decide) (by decide) (by decide) (by omega)]; exact hv.2.1
  have e622 : m 622 i = nI v.1 := by rw [hE.1 622 (by decide) (by decide) (by decide) (by omega)]; exact hv.1
  have hR : NtR A e.1 m 626 := hE.2.2.1
  refine nBv 2 rfl rfl rfl (by decide) rfl (fun htr o Φ hΦ => mGoOn (mOk (by decide)) rfl [81,113] 400 ?_)
  show mCal l g d k_X9_performStep Φ 0 0 _ 8 k_X11_at true [.ref 623, .int (nI i)] [] [.ref 621, .ref 589, .ref 626, .int (nI i), .int (1 : Int32), mJ] m o 0 0 1
  refine fCi htr (x_at m (a := 623) (n := 150) (by decide +kernel) (by decide +kernel) (by decide) hi) (by omega) ?_
  rw [e623]
  show mCal l g d k_X9_performStep Φ 0 0 _ 18 k_X11_at true [.ref 622, .int (nI i)] [] [.ref 621, .ref 589, .ref 626, .int (nI i), .int (1 : Int32), .int (nI v.2.1)] m o 0 0 1
  refine fCi htr (x_at m (a := 622) (n := 150) (by decide +kernel) (by decide +kernel) (by decide) hi) (by omega) ?_
  rw [e622]
  show (((nI v.1).toInt = 0 → mCal l g d k_X9_performStep Φ 0 0 _ 57 k_X11_at true [.ref 624, .int (nI i)] [.int (nI v.2.1), .ref 626, .ref 589] [.ref 621, .ref 589, .ref 626, .int (nI i), .int (1 : Int32), .int (nI v.2.1)] m o 0 0 1) ∧ ((nI v.1).toInt = 1 → True ∧ mCal l g d k_X9_performStep Φ 0 0 _ 90 k_X8_callOut false [.ref 589, .ref 626, .int (nI v.2.1)] [] [.ref 621, .ref 589, .ref 626, .int (nI i), .int (1 : Int32), .int (nI v.2.1)] m o 0 0 1) ∧ ((nI v.1).toInt = 2 → True ∧ mCal l g d k_X9_performStep Φ 0 0 _ 101 k_X5_turnBed false [.ref 626, .int (nI v.2.1)] [] [.ref 621, .ref 589, .ref 626, .int (nI i), .int (1 : Int32), .int (nI v.2.1)] m o 0 0 0) ∧ True) ∧ ((nI v.1).toInt < 0 ∨ 2 < (nI v.1).toInt → mCal l g d k_X9_performStep Φ 0 0 _ 108 k_X9_passHour false [.ref 626] [] [.ref 621, .ref 589, .ref 626, .int (nI i), .int (1 : Int32), .int (nI v.2.1)] m o 0 0 1)
  rw [nI_toInt (by omega)]
  have k113 : ∀ (x : Int32) (m2 : Mm), x = (doS A e.1 v e.2.1).1 → (∀ a, a ≠ 602 → a ≠ 603 → (a < 626 ∨ 629 < a) → m2 a = m a) → NtR A (doS A e.1 v e.2.1).2.1 m2 626 → mWB l g d k_X9_performStep Φ 0 0 113 [.ref 621, .ref 589, .ref 626, .int (nI i), .int x, .int (nI v.2.1)] [] m2 o 0 0 := by
    intro x m2 ex e2 hN
    have f621 : m2 621 = m 621 := e2 621 (by decide) (by decide) (by omega)
    have d5 : m 621 5 = nI e.2.2.2.1 := hE.2.2.2.2.1
    have d6 : m 621 6 = nI e.2.2.2.2 := hE.2.2.2.2.2
    refine mGoOn (mOk (by decide)) rfl [] 400 ?_
    show (x = 0 → (Value.ref 621).category = 1 ∧ (Φ (.inl none) (mset m2 621 6 ((m2 621 6) + (1 : Int32))) o ∧ 0 ≤ 0 ∧ 0 ≤ 0)) ∧ (¬ x = 0 → (Value.ref 621).category = 1 ∧ (Φ (.inl none) (mset m2 621 5 ((m2 621 5) + (1 : Int32))) o ∧ 0 ≤ 0 ∧ 0 ≤ 0))
    rw [f621, d5, d6, nI_1, nI_1]
    have hN' : ∀ (j : Nat) (y : Int32), NtR A (doS A e.1 v e.2.1).2.1 (mset m2 621 j y) 626 := fun j y => by
      unfold NtR
      rw [mset_ne _ _ _ (by decide), mset_ne _ _ _ (by decide), mset_ne _ _ _ (by decide), mset_ne _ _ _ (by decide)]
      exact hN
    have hfr : ∀ (j : Nat) (y : Int32), ∀ a, a ≠ 602 → a ≠ 603 → a ≠ 621 → (a < 626 ∨ 629 < a) → mset m2 621 j y a = X0 a := fun j y a a1 a2 a3 a4 => by rw [mset_ne _ _ _ a3, e2 a a1 a2 a4]; exact hE.1 a a1 a2 a3 a4
    refine ⟨fun y => ⟨rfl, eR (hΦ _ ⟨hfr _ _, ?_, hN' _ _, ?_, ?_, ?_⟩)⟩, fun y => ⟨rfl, eR (hΦ _ ⟨hfr _ _, ?_, hN' _ _, ?_, ?_, ?_⟩)⟩⟩
    · rw [mset_eq, pk_un (by decide), f621]; exact hE.2.1
    · rw [mset_eq, pk_un (by decide), f621]; exact hE.2.2.2.1
    · rw [mset_eq, pk_un (by decide), f621, d5]
      show _ = nI (if _ then _ else _)
      rw [if_pos (by rw [← ex]; exact y)]
    · rw [mset_eq, pk_us]
      show _ = nI (if _ then _ else _)
      rw [if_pos (by rw [← ex]; exact y)]
    · rw [mset_eq, pk_un (by decide), f621]; exact hE.2.1
    · rw [mset_eq, pk_un (by decide), f621]; exact hE.2.2.2.1
    · rw [mset_eq, pk_us]
      show _ = nI (if _ then _ else _)
      rw [if_neg (by rw [← ex]; exact y)]
    · rw [mset_eq, pk_un (by decide), f621, d6]
      show _ = nI (if _ then _ else _)
      rw [if_neg (by rw [← ex]; exact y)]
  have eD : doS A e.1 v e.2.1 = if v.1 = 0 then nWalk A e.1 v.2.1 v.2.2.1 e.2.1 else if v.1 = 1 then nCall A e.1 v.2.1 e.2.1 else if v.1 = 2 then (1, bdF e.1 v.2.1, e.2.1) else if 300 ≤ e.1 36 ∧ e.1 35 = 23 then (0, e.1, e.2.1) else (1, nHour e.1, e.2.1) := rfl
  rw [eD] at k113
  clear eD
  refine ⟨⟨fun y => ?_, fun y => ?_, fun y => ?_, trivial⟩, fun y => ?_⟩
  · have ev : v.1 = 0 := by omega
    rw [if_pos ev] at k113
    have e624 : m 624 i = nI v.2.2.1 := by rw [hE.1 624 (by decide) (by decide) (by decide) (by omega)]; exact hv.2.2.1 ev
    refine fCi htr (x_at m (a := 624) (n := 150) (by decide +kernel) (by decide +kernel) (by decide) hi) (by omega) ?_
    rw [e624]
    have hk := h1 (by omega)
    have hs2 := h0 ev
    show True ∧ mCal l g d k_X9_performStep Φ 0 0 _ 60 k_X8_walk false [.ref 589, .ref 626, .int (nI v.2.1), .int (nI v.2.2.1)] [] [.ref 621, .ref 589, .ref 626, .int (nI i), .int (1 : Int32), .int (nI v.2.1)] m o 0 0 1
    refine ⟨trivial, nCi htr (x_walk hA.1 hC hcm (by omega) nt626 hR hI.1 hk hs2) (by omega) ?_⟩
    have k81 : ∀ (x : Int32) (m2 : Mm), x = (nWalk A e.1 v.2.1 v.2.2.1 e.2.1).1 → (∀ a, a ≠ 602 → a ≠ 603 → (a < 626 ∨ 629 < a) → m2 a = m a) → NtR A (nWalk A e.1 v.2.1 v.2.2.1 e.2.1).2.1 m2 626 → mWB l g d k_X9_performStep Φ 0 0 81 [.ref 621, .ref 589, .ref 626, .int (nI i), .int (1 : Int32), .int (nI v.2.1)] [.int x] m2 o 0 0 := by
      intro x m2 a1 a2 a3
      refine mGoOn (mOk (by decide)) rfl [113] 400 ?_
      show mWB l g d k_X9_performStep Φ 0 0 113 [.ref 621, .ref 589, .ref 626, .int (nI i), .int x, .int (nI v.2.1)] [] m2 o 0 0
      exact k113 x m2 a1 a2 a3
    have eW : nWalk A e.1 v.2.1 v.2.2.1 e.2.1 = ifp (e.1 (12 + v.2.1) = 1 ∨ ¬ Ln A (e.1 v.2.1) (nI v.2.2.1)) (0, e.1, e.2.1) (nCall A (upd e.1 v.2.1 (nI v.2.2.1)) v.2.1 e.2.1) := rfl
    rw [eW] at k81
    rintro x m2 (⟨rfl, rfl, hno⟩ | ⟨rfl, rfl, hyes, hup⟩)
    · rw [ifp_t hno] at k81
      show ((0 : Int32) = 0 → mWB l g d k_X9_performStep Φ 0 0 81 [.ref 621, .ref 589, .ref 626, .int (nI i), .int (1 : Int32), .int (nI v.2.1)] [.int (0 : Int32)] m2 o 0 0) ∧ (¬ (0 : Int32) = 0 → True ∧ mCal l g d k_X9_performStep Φ 0 0 _ 70 k_X8_callOut false [.ref 589, .ref 626, .int (nI v.2.1)] [] [.ref 621, .ref 589, .ref 626, .int (nI i), .int (1 : Int32), .int (nI v.2.1)] m2 o 0 0 1)
      exact ⟨fun _ => k81 0 m2 rfl (fun _ _ _ _ => rfl) hR, fun q => absurd rfl q⟩
    · rw [ifp_f hyes] at k81
      have hR' := NtR_place (s := v.2.2.1) hA.1 hR hk
      have hN' := Nt_place hA.1 hI.1 hk hs2
      have hcm' : csim A (mset m 627 v.2.1 (nI v.2.2.1)) := fun a a1 a2 => by rw [mset_ne _ _ _ (by omega)]; exact hcm a a1 a2
      show ((1 : Int32) = 0 → mWB l g d k_X9_performStep Φ 0 0 81 [.ref 621, .ref 589, .ref 626, .int (nI i), .int (1 : Int32), .int (nI v.2.1)] [.int (0 : Int32)] (mset m 627 v.2.1 (nI v.2.2.1)) o 0 0) ∧ (¬ (1 : Int32) = 0 → True ∧ mCal l g d k_X9_performStep Φ 0 0 _ 70 k_X8_callOut false [.ref 589, .ref 626, .int (nI v.2.1)] [] [.ref 621, .ref 589, .ref 626, .int (nI i), .int (1 : Int32), .int (nI v.2.1)] (mset m 627 v.2.1 (nI v.2.2.1)) o 0 0 1)
      refine ⟨fun q => absurd q (by decide), fun _ => ⟨trivial, nCi htr (x_callOut hA hC hLw hcm' (by omega) nt626 (by omega) hR' hN' hk e.2.1) (by omega) ?_⟩⟩
      rintro x m3 ⟨q1, q2, q3⟩
      have hup' : upd e.1 v.2.1 (nI v.2.2.1) (12 + v.2.1) = 0 := by rw [upd_at, if_neg (by omega)]; exact hup
      have h1c : (nCall A (upd e.1 v.2.1 (nI v.2.2.1)) v.2.1 e.2.1).1 = 1 := by rw [nCall_up _ hup']
      rw [q1, h1c]
      show ((1 : Int32) = 0 → mWB l g d k_X9_performStep Φ 0 0 81 [.ref 621, .ref 589, .ref 626, .int (nI i), .int (1 : Int32), .int (nI v.2.1)] [.int (0 : Int32)] m3 o 0 0) ∧ (¬ (1 : Int32) = 0 → mWB l g d k_X9_performStep Φ 0 0 81 [.ref 621, .ref 589, .ref 626, .int (nI i), .int (1 : Int32), .int (nI v.2.1)] [.int (1 : Int32)] m3 o 0 0)
      refine ⟨fun q => absurd q (by decide), fun _ => k81 1 m3 h1c.symm (fun a a1 a2 a3 => ?_) q3⟩
      rw [q2 a a1 a2 (by omega), mset_ne _ _ _ (by omega)]
  · have ev : v.1 = 1 := by omega
    rw [if_neg (by omega), if_pos ev] at k113
    refine ⟨trivial, nCi htr (x_callOut hA hC hLw hcm (by omega) nt626 (by omega) hR hI.1 (h1 (by omega)) e.2.1) (by omega) ?_⟩
    rintro x m3 ⟨q1, q2, q3⟩
    show mWB l g d k_X9_performStep Φ 0 0 113 [.ref 621, .ref 589, .ref 626, .int (nI i), .int x, .int (nI v.2.1)] [] m3 o 0 0
    exact k113 x m3 q1 (fun a a1 a2 a3 => q2 a a1 a2 (by omega)) q3
  · have ev : v.1 = 2 := by omega
    rw [if_neg (by omega), if_neg (by omega), if_pos ev] at k113
    refine ⟨trivial, nCv htr (x_turnBed hA.1 nt626 hR hI.1 (h1 (by omega))) (by omega) ?_⟩
    rintro m3 ⟨q2, q3⟩
    exact k113 1 m3 rfl (fun a a1 a2 a3 => q2 a a1 a2 (by omega)) q3
  · have ev : v.1 = 3 := by omega
    rw [if_neg (by omega), if_neg (by omega), if_neg (by omega)] at k113
    refine nCi htr (x_wpass hA.1 hR hI.1 (by omega)) (by omega) ?_
    rintro x m3 (⟨a1, a2, rfl, rfl⟩ | ⟨a1, rfl, a3, a4⟩)
    · rw [if_pos ⟨a1, a2⟩] at k113
      show mWB l g d k_X9_performStep Φ 0 0 113 [.ref 621, .ref 589, .ref 626, .int (nI i), .int (0 : Int32), .int (nI v.2.1)] [] m3 o 0 0
      exact k113 0 m3 rfl (fun _ _ _ _ => rfl) hR
    · rw [if_neg a1] at k113
      show mWB l g d k_X9_performStep Φ 0 0 113 [.ref 621, .ref 589, .ref 626, .int (nI i), .int (1 : Int32), .int (nI v.2.1)] [] m3 o 0 0
      exact k113 1 m3 rfl (fun a b1 b2 b3 => a3 a b1 b2 (by omega)) a4
end XE
