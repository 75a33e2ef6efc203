set_option maxRecDepth 100000
def xGo (l : Launch) (g : mG) (A X0 : Mm) (F : Nat → W5) (c f : Nat) : Prop := l.stackTraces = false → ∀ (d k : Nat) (fr : Int32) (i j : Nat) (e e' : EX) (m : Mm) (o : Int64) (Φ : mR → Mm → Int64 → Prop), (6 - k) + 5 ≤ d → k ≤ 6 → j ≤ c → i ≤ c → (∀ t, i ≤ t → t < j → k ≤ (F t).2.2.2.2) → Ex A F f 0 i j e e' → exI A e → xE A X0 e m → (∀ m2, xE A X0 e' m2 → Φ (.inl none) m2 o) → mWB l g d k_X9_performSteps Φ 0 0 11 [.ref 621, .ref 589, .ref 626, .int fr, .int (nI j), .int (nI k), .int (nI i), mJ, mJ] [] m o 0 0
def xRp (l : Launch) (g : mG) (A X0 : Mm) (F : Nat → W5) (c f : Nat) : Prop := l.stackTraces = false → ∀ (d k : Nat) (fr : Int32) (i j t : Nat) (e e' : EX) (m : Mm) (o : Int64) (Φ : mR → Mm → Int64 → Prop), (6 - k) + 5 ≤ d → k ≤ 5 → i < c → t ≤ 60 → (F i).1 = 4 → k ≤ (F i).2.2.2.2 → Ex A F f 1 i t e e' → exI A e → xE A X0 e m → (∀ m2, xE A X0 e' m2 → mWB l g d k_X9_performSteps Φ 0 0 122 [.ref 621, .ref 589, .ref 626, .int fr, .int (nI j), .int (nI k), .int (nI i), .int (nI (F i).2.2.2.1), mJ] [] m2 o 0 0) → mWB l g d k_X9_performSteps Φ 0 0 76 [.ref 621, .ref 589, .ref 626, .int fr, .int (nI j), .int (nI k), .int (nI i), .int (nI (F i).2.2.2.1), .int (nI t)] [] m o 0 0
section XP
variable {l : Launch} {g : mG} {A X0 : Mm} {F : Nat → W5} {c : Nat}
theorem x_rp (hA : CtB A) (hc : c ≤ 75) (hF : ∀ i, i < c → okW (nM A) (nS A) 0 c F i) (hX : ∀ i, i < c → dW1 X0 i (F i)) {f : Nat} (I0 : xGo l g A X0 F c f) (I1 : xRp l g A X0 F c f) : xRp l g A X0 F c (f + 1) := by
  intro htr d k fr i j t e e' m o Φ hd hk hi ht h4 hlv hL hI hE kk
  obtain ⟨o1, ⟨o2, o3⟩, -, -, o5, -, -, o8⟩ := hF i hi
  have e623 : m 623 i = nI (F i).2.1 := by rw [hE.1 623 (by decide) (by decide) (by decide) (by omega)]; exact (hX i hi).2.1
  have e4 : m 621 4 = nI e.2.2.1 := hE.2.2.2.1
  have hb := hI.2.1
  refine mGoOn (mOk (by decide)) rfl [76,122] 400 ?_
  show mCal l g d k_X9_performSteps Φ 0 0 _ 84 k_X11_at true [.ref 623, .int (nI i)] [.int (nI t)] [.ref 621, .ref 589, .ref 626, .int fr, .int (nI j), .int (nI k), .int (nI i), .int (nI (F i).2.2.2.1), .int (nI t)] m o 0 0 1
  refine fCi htr (x_at m (a := 623) (n := 150) (by decide +kernel) (by decide +kernel) (by decide) (show i < 150 by omega)) (by omega) ?_
  rw [e623]
  show ((nI (F i).2.1) ≤ (nI t) → mWB l g d k_X9_performSteps Φ 0 0 122 [.ref 621, .ref 589, .ref 626, .int fr, .int (nI j), .int (nI k), .int (nI i), .int (nI (F i).2.2.2.1), .int (nI t)] [] m o 0 0) ∧ (¬ (nI (F i).2.1) ≤ (nI t) → ((200 : Int32) ≤ (m 621 4) → mWB l g d k_X9_performSteps Φ 0 0 122 [.ref 621, .ref 589, .ref 626, .int fr, .int (nI j), .int (nI k), .int (nI i), .int (nI (F i).2.2.2.1), .int (nI t)] [] m o 0 0) ∧ (¬ (200 : Int32) ≤ (m 621 4) → True ∧ mCal l g d k_X9_performSteps Φ 0 0 _ 113 k_X9_performSteps false [.ref 621, .ref 589, .ref 626, .int ((nI i) + (1 : Int32)), .int (nI (F i).2.2.2.1), .int ((nI k) + (1 : Int32))] [] [.ref 621, .ref 589, .ref 626, .int fr, .int (nI j), .int (nI k), .int (nI i), .int (nI (F i).2.2.2.1), .int (nI t)] m o 0 0 0))
  rw [e4, nI_leI (by omega) (by omega), show (200 : Int32) = nI 200 from rfl, nI_leI (by decide) (by omega), nI_1, nI_1]
  rcases hL with ⟨q, _⟩ | ⟨_, ⟨hno, rfl⟩ | ⟨⟨h1, h2⟩, e1, L0, L1⟩⟩
  · exact absurd q (by decide)
  · have hfin := mWB_wk (kk m hE) (L := [.ref 621, .ref 589, .ref 626, .int fr, .int (nI j), .int (nI k), .int (nI i), .int (nI (F i).2.2.2.1), .int (nI t)]) ⟨Or.inr rfl, Or.inr rfl, Or.inr rfl, Or.inr rfl, Or.inr rfl, Or.inr rfl, Or.inr rfl, Or.inr rfl, Or.inl rfl, trivial⟩
    exact ⟨fun _ => hfin, fun y => ⟨fun _ => hfin, fun y2 => absurd (show t < (F i).2.1 ∧ e'.2.2.1 < 200 from ⟨by omega, by omega⟩) hno⟩⟩
  · refine ⟨fun y => absurd y (by omega), fun _ => ⟨fun y => absurd y (by omega), fun _ => ⟨trivial, ?_⟩⟩⟩
    have hlv2 := (o5 h4).1
    have hcall : ∀ dd, (6 - (k + 1)) + 5 ≤ dd → mHv l g dd k_X9_performSteps [.ref 621, .ref 589, .ref 626, .int (nI (i + 1)), .int (nI (F i).2.2.2.1), .int (nI (k + 1))] m (fun m2 => xE A X0 e1 m2) := by
      intro d hd
      refine nBv 3 rfl rfl rfl (by decide) rfl (fun htr o Φ hΦ => mGoOn (mOk (by decide)) rfl [11] 400 ?_)
      show ((nI (k + 1)) ≤ (6 : Int32) → mWB l g d k_X9_performSteps Φ 0 0 11 [.ref 621, .ref 589, .ref 626, .int (nI (i + 1)), .int (nI (F i).2.2.2.1), .int (nI (k + 1)), .int (nI (i + 1)), mJ, mJ] [] m o 0 0) ∧ (¬ (nI (k + 1)) ≤ (6 : Int32) → Φ (.inl none) m o ∧ 0 ≤ 0 ∧ 0 ≤ 0)
      rw [show (6 : Int32) = nI 6 from rfl, nI_leI (by omega) (by decide)]
      refine ⟨fun _ => ?_, fun y => absurd (show k + 1 ≤ 6 by omega) y⟩
      exact I0 htr d (k + 1) (nI (i + 1)) (i + 1) (F i).2.2.2.1 e e1 m o Φ hd (by omega) o3 (by omega) (fun u u1 u2 => by have := (o5 h4).2 u (by omega) u2; omega) L0 hI hE hΦ
    refine nCv htr (hcall (d - 1) (by omega)) (by omega) ?_
    intro m2 E2
    have B := Ex_ok hA hF _ _ _ _ _ _ L0 hI (fun _ => o3) (fun z => absurd z (by decide))
    show mWB l g d k_X9_performSteps Φ 0 0 76 [.ref 621, .ref 589, .ref 626, .int fr, .int (nI j), .int (nI k), .int (nI i), .int (nI (F i).2.2.2.1), .int ((nI t) + (1 : Int32))] [] m2 o 0 0
    rw [nI_1]
    exact I1 htr d k fr i j (t + 1) e1 e' m2 o Φ hd hk hi (by omega) h4 hlv L1 B.1 E2 kk
theorem x_go (hA : Sv A) (hC : CtR A A 590) (hLw : LwR A A 600) (hcs : csim A X0) (hc : c ≤ 75) (hF : ∀ i, i < c → okW (nM A) (nS A) 0 c F i) (hX : ∀ i, i < c → dW1 X0 i (F i)) {f : Nat} (I0 : xGo l g A X0 F c f) (I1 : xRp l g A X0 F c f) : xGo l g A X0 F c (f + 1) := by
  intro htr d k fr i j e e' m o Φ hd hk hj hic hlv hL hI hE hΦ
  have e4 : m 621 4 = nI e.2.2.1 := hE.2.2.2.1
  have hb := hI.2.1
  refine mGoOn (mOk (by decide)) rfl [11,76,122,133,139] 400 ?_
  show ((nI j) ≤ (nI i) → mWB l g d k_X9_performSteps Φ 0 0 139 [.ref 621, .ref 589, .ref 626, .int fr, .int (nI j), .int (nI k), .int (nI i), mJ, mJ] [] m o 0 0) ∧ (¬ (nI j) ≤ (nI i) → ((200 : Int32) ≤ (m 621 4) → mWB l g d k_X9_performSteps Φ 0 0 139 [.ref 621, .ref 589, .ref 626, .int fr, .int (nI j), .int (nI k), .int (nI i), mJ, mJ] [] m o 0 0) ∧ (¬ (200 : Int32) ≤ (m 621 4) → (Value.ref 621).category = 1 ∧ (mCal l g d k_X9_performSteps Φ 0 0 _ 44 k_X11_at true [.ref 622, .int (nI i)] [] [.ref 621, .ref 589, .ref 626, .int fr, .int (nI j), .int (nI k), .int (nI i), mJ, mJ] (mset m 621 4 ((m 621 4) + (1 : Int32))) o 0 0 1)))
  rw [e4, nI_leI (by omega) (by omega), show (200 : Int32) = nI 200 from rfl, nI_leI (by decide) (by omega), nI_1]
  rcases hL with ⟨_, ⟨hno, rfl⟩ | ⟨⟨h1, h2⟩, hL⟩⟩ | ⟨q, _⟩
  · have k139 : mWB l g d k_X9_performSteps Φ 0 0 139 [.ref 621, .ref 589, .ref 626, .int fr, .int (nI j), .int (nI k), .int (nI i), mJ, mJ] [] m o 0 0 := by
      refine mGoOn (mOk (by decide)) rfl [] 400 ?_
      show Φ (.inl none) m o ∧ 0 ≤ 0 ∧ 0 ≤ 0
      exact eR (hΦ m hE)
    exact ⟨fun _ => k139, fun y => ⟨fun _ => k139, fun y2 => absurd (show i < j ∧ e'.2.2.1 < 200 from ⟨by omega, by omega⟩) hno⟩⟩
  · have ho := hF i (by omega)
    obtain ⟨o1, ⟨o2, o3⟩, o4, -, o5, o6, o7, o8⟩ := ho
    have hlvi := hlv i (Nat.le_refl _) h1
    have E1 : xE A X0 (exB e) (mset m 621 4 (nI (e.2.2.1 + 1))) := by
      obtain ⟨a1, a2, a3, a4, a5, a6⟩ := hE
      refine ⟨fun a b1 b2 b3 b4 => by rw [mset_ne _ _ _ b3]; exact a1 a b1 b2 b3 b4, by rw [mset_eq, pk_un (by decide)]; exact a2, ?_, by rw [mset_eq, pk_us]; rfl, by rw [mset_eq, pk_un (by decide)]; exact a5, by rw [mset_eq, pk_un (by decide)]; exact a6⟩
      unfold NtR
      rw [mset_ne _ _ _ (by decide), mset_ne _ _ _ (by decide), mset_ne _ _ _ (by decide), mset_ne _ _ _ (by decide)]
      exact a3
    generalize mset m 621 4 (nI (e.2.2.1 + 1)) = m1 at E1 ⊢
    have e622 : m1 622 i = nI (F i).1 := by rw [E1.1 622 (by decide) (by decide) (by decide) (by omega)]; exact (hX i (by omega)).1
    refine ⟨fun y => absurd y (by omega), fun _ => ⟨fun y => absurd y (by omega), fun _ => ⟨rfl, ?_⟩⟩⟩
    refine fCi htr (x_at m1 (a := 622) (n := 150) (by decide +kernel) (by decide +kernel) (by decide) (show i < 150 by omega)) (by omega) ?_
    rw [e622]
    show ((nI (F i).1) = (4 : Int32) → mCal l g d k_X9_performSteps Φ 0 0 _ 68 k_X11_at true [.ref 624, .int (nI i)] [] [.ref 621, .ref 589, .ref 626, .int fr, .int (nI j), .int (nI k), .int (nI i), mJ, mJ] m1 o 0 0 1) ∧ (¬ (nI (F i).1) = (4 : Int32) → True ∧ mCal l g d k_X9_performSteps Φ 0 0 _ 56 k_X9_performStep false [.ref 621, .ref 589, .ref 626, .int (nI i)] [] [.ref 621, .ref 589, .ref 626, .int fr, .int (nI j), .int (nI k), .int (nI i), mJ, mJ] m1 o 0 0 0)
    rw [show (4 : Int32) = nI 4 from rfl, nI_eq (by omega) (by decide)]
    refine ⟨fun h4 => ?_, fun h4 => ?_⟩
    · obtain ⟨e1, L0, L1⟩ : ∃ e1, Ex A F f 1 i 0 (exB e) e1 ∧ Ex A F f 0 (F i).2.2.2.1 j e1 e' := by
        rcases hL with ⟨_, q⟩ | ⟨q, _⟩
        · exact q
        · exact absurd h4 q
      have hlv5 := (o5 h4).1
      have hIB := exB_ok hI h2
      have B := Ex_ok hA.1 hF _ _ _ _ _ _ L0 hIB (fun z => absurd z (by decide)) (fun _ => by omega)
      have e624 : m1 624 i = nI (F i).2.2.2.1 := by rw [E1.1 624 (by decide) (by decide) (by decide) (by omega)]; exact (hX i (by omega)).2.2.2 h4 (by omega)
      refine fCi htr (x_at m1 (a := 624) (n := 150) (by decide +kernel) (by decide +kernel) (by decide) (show i < 150 by omega)) (by omega) ?_
      rw [e624]
      show mWB l g d k_X9_performSteps Φ 0 0 76 [.ref 621, .ref 589, .ref 626, .int fr, .int (nI j), .int (nI k), .int (nI i), .int (nI (F i).2.2.2.1), .int (0 : Int32)] [] m1 o 0 0
      refine I1 htr d k fr i j 0 (exB e) e1 m1 o Φ hd (by omega) (by omega) (by decide) h4 hlvi L0 hIB E1 (fun m2 E2 => ?_)
      refine mGoOn (mOk (by decide)) rfl [11] 400 ?_
      show 1 ≤ d ∧ (([] : List Value).map fun v => v.category).sum ≤ 8 ∧ 0 ≤ 0 ∧ 0 ≤ 0 ∧ (mWB l g d k_X9_performSteps Φ 0 0 11 [.ref 621, .ref 589, .ref 626, .int fr, .int (nI j), .int (nI k), .int ((if (nI i) < ((nI (F i).2.2.2.1) - (1 : Int32)) then ((nI (F i).2.2.2.1) - (1 : Int32)) else (nI i)) + (1 : Int32)), .int (nI (F i).2.2.2.1), mJ] [] m2 o 0 0)
      refine ⟨by omega, by decide, Nat.le_refl _, Nat.le_refl _, ?_⟩
      have em : (if nI i < nI (F i).2.2.2.1 - 1 then nI (F i).2.2.2.1 - 1 else nI i) + 1 = nI (F i).2.2.2.1 := by
        rw [nI_dec1 (by omega)]
        have hq : nI i < nI ((F i).2.2.2.1 - 1) ↔ i < (F i).2.2.2.1 - 1 := nI_ltI (by omega) (by omega)
        by_cases y : i < (F i).2.2.2.1 - 1
        · rw [if_pos (hq.mpr y), nI_1, show (F i).2.2.2.1 - 1 + 1 = (F i).2.2.2.1 by omega]
        · rw [if_neg (fun u => y (hq.mp u)), nI_1, show i + 1 = (F i).2.2.2.1 by omega]
      rw [em]
      exact mWB_wk (I0 htr d k fr (F i).2.2.2.1 j e1 e' m2 o Φ hd hk hj (by omega) (fun u u1 u2 => hlv u (by omega) u2) L1 B.1 E2 hΦ) ⟨Or.inr rfl, Or.inr rfl, Or.inr rfl, Or.inr rfl, Or.inr rfl, Or.inr rfl, Or.inr rfl, Or.inl rfl, Or.inl rfl, trivial⟩
    · have L1 : Ex A F f 0 (F i).2.2.2.1 j (exS A (F i) e) e' := by
        rcases hL with ⟨q, _⟩ | ⟨_, q⟩
        · exact absurd q h4
        · exact q
      have hS := exS_ok hA.1 o6 o7 hI h2
      refine ⟨trivial, nCv htr (x_pstep hA hC hLw hcs hI E1 (show i < 150 by omega) (hX i (by omega)) (by omega) o6 o7 (by omega)) (by omega) ?_⟩
      intro m2 E2
      refine mGoOn (mOk (by decide)) rfl [11] 400 ?_
      show mWB l g d k_X9_performSteps Φ 0 0 11 [.ref 621, .ref 589, .ref 626, .int fr, .int (nI j), .int (nI k), .int ((nI i) + (1 : Int32)), mJ, mJ] [] m2 o 0 0
      rw [nI_1]
      have en := o4 h4
      rw [en] at L1
      exact I0 htr d k fr (i + 1) j (exS A (F i) e) e' m2 o Φ hd hk hj (by omega) (fun u u1 u2 => hlv u (by omega) u2) L1 hS E2 hΦ
  · exact absurd q (by decide)
theorem x_allG (hA : Sv A) (hC : CtR A A 590) (hLw : LwR A A 600) (hcs : csim A X0) (hc : c ≤ 75) (hF : ∀ i, i < c → okW (nM A) (nS A) 0 c F i) (hX : ∀ i, i < c → dW1 X0 i (F i)) : ∀ f, xGo l g A X0 F c f ∧ xRp l g A X0 F c f
  | 0 => ⟨fun htr d k fr i j e e' m o Φ hd hk hj hic hlv hL => absurd hL (fun q => q), fun htr d k fr i j t e e' m o Φ hd hk hi ht h4 hlv hL => absurd hL (fun q => q)⟩
  | f + 1 => by
    obtain ⟨i0, i1⟩ := x_allG hA hC hLw hcs hc hF hX f
    exact ⟨x_go hA hC hLw hcs hc hF hX i0 i1, x_rp hA.1 hc hF hX i0 i1⟩
theorem x_perform {d : Nat} (hA : Sv A) (hC : CtR A A 590) (hLw : LwR A A 600) (hc : c ≤ 75) (hF : ∀ i, i < c → okW (nM A) (nS A) 0 c F i) {m : Mm} (hcs : csim A m) (hD : dWk (c, F) m) {R : Nat → Int32} (hR : NtR A R m 626) (hV : Nt A R) {w0 : Int32} {f : Nat} {e' : EX} (hL : Ex A F f 0 0 c (R, w0, 0, 0, 0) e') (hd : 12 ≤ d) : mHv l g d k_X9_perform [.ref 621, .ref 589, .ref 626] m (fun m2 => (∀ a, a ≠ 602 → a ≠ 603 → a ≠ 621 → (a < 626 ∨ 629 < a) → m2 a = m a) ∧ NtR A e'.1 m2 626 ∧ m2 621 5 = nI e'.2.2.2.1 ∧ m2 621 6 = nI e'.2.2.2.2) := by
  refine nBv 0 rfl rfl rfl (by decide) rfl (fun htr o Φ hΦ => mGoOn (mOk (by decide)) rfl [] 400 ?_)
  show True ∧ mCal l g d k_X9_perform Φ 0 0 _ 24 k_X9_performSteps false [.ref 621, .ref 589, .ref 626, .int (0 : Int32), .int ((mset (mset (mset m 621 4 (0 : Int32)) 621 5 (0 : Int32)) 621 6 (0 : Int32)) 621 3), .int (0 : Int32)] [] [.ref 621, .ref 589, .ref 626] (mset (mset (mset m 621 4 (0 : Int32)) 621 5 (0 : Int32)) 621 6 (0 : Int32)) o 0 0 0
  have g3 : mset (mset (mset m 621 4 0) 621 5 0) 621 6 0 621 3 = nI c := by rw [mset_eq, pk_un (by decide), mset_eq, pk_un (by decide), mset_eq, pk_un (by decide)]; exact hD.1
  have go : ∀ a, a ≠ 621 → mset (mset (mset m 621 4 0) 621 5 0) 621 6 0 a = m a := fun a ha => by rw [mset_ne _ _ _ ha, mset_ne _ _ _ ha, mset_ne _ _ _ ha]
  have gz : mset (mset (mset m 621 4 0) 621 5 0) 621 6 0 621 4 = 0 ∧ mset (mset (mset m 621 4 0) 621 5 0) 621 6 0 621 5 = 0 ∧ mset (mset (mset m 621 4 0) 621 5 0) 621 6 0 621 6 = 0 := by
    simp only [mset_eq, upd_at]; exact ⟨rfl, rfl, rfl⟩
  rw [g3]
  generalize mset (mset (mset m 621 4 0) 621 5 0) 621 6 0 = K at g3 go gz ⊢
  have hcK : csim A K := fun a a1 a2 => by rw [go a (by omega)]; exact hcs a a1 a2
  have hE : xE A K (R, w0, 0, 0, 0) K := ⟨fun _ _ _ _ _ => rfl, rfl, by unfold NtR; rw [go 626 (by decide), go 627 (by decide), go 628 (by decide), go 629 (by decide)]; exact hR, gz.1, gz.2.1, gz.2.2⟩
  have hI : exI A (R, w0, 0, 0, 0) := ⟨hV, Nat.zero_le _, Nat.zero_le _⟩
  have hX : ∀ i, i < c → dW1 K i (F i) := fun i hi => by
    unfold dW1
    rw [go 622 (by decide), go 623 (by decide), go 624 (by decide)]
    exact hD.2 i hi
  have hcall : ∀ dd, 11 ≤ dd → mHv l g dd k_X9_performSteps [.ref 621, .ref 589, .ref 626, .int 0, .int (nI c), .int 0] K (fun m2 => xE A K e' m2) := by
    intro d hd
    refine nBv 3 rfl rfl rfl (by decide) rfl (fun htr o Φ hΦ => mGoOn (mOk (by decide)) rfl [11] 400 ?_)
    show ((0 : Int32) ≤ (6 : Int32) → mWB l g d k_X9_performSteps Φ 0 0 11 [.ref 621, .ref 589, .ref 626, .int (0 : Int32), .int (nI c), .int (0 : Int32), .int (0 : Int32), mJ, mJ] [] K o 0 0) ∧ (¬ (0 : Int32) ≤ (6 : Int32) → Φ (.inl none) K o ∧ 0 ≤ 0 ∧ 0 ≤ 0)
    refine ⟨fun _ => ?_, fun y => absurd (by decide) y⟩
    exact (x_allG hA hC hLw hcK hc hF hX f).1 htr d 0 0 0 c _ e' K o Φ hd (by decide) (Nat.le_refl _) (Nat.zero_le _) (fun t _ _ => Nat.zero_le _) hL hI hE hΦ
  refine ⟨trivial, nCv htr (hcall (d - 1) (by omega)) (by omega) ?_⟩
  rintro m2 ⟨a1, a2, a3, a4, a5, a6⟩
  exact eR (hΦ _ ⟨fun a b1 b2 b3 b4 => by rw [a1 a b1 b2 b3 b4]; exact go a b3, a3, a5, a6⟩)
end XP
