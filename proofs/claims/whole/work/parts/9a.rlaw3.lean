set_option maxRecDepth 100000
/-! A LAW IS TOLD -/
theorem Lw_cg {T T' : Nat → Int32} {n : Nat} (h : bAt T n = bAt T' n) : ∀ f, Lw T n f = Lw T' n f
  | 0 => rfl
  | f + 1 => by
    have IH := Lw_cg h f
    funext md k s s'
    unfold Lw LO LL LA LB LC LD lSg
    rw [IH, skp_cg h, pSgn_cg h, pNum_cg h, wHere_cg h, h]
    simp only [swd_cg h]
noncomputable def lwE (T : Nat → Int32) (n : Nat) (p : PS) : PS := ifp (p.2.1 = 0 ∧ skp T n p.1 < n) (pWr 1 (nI (skp T n p.1)) (pBl T n p)) (pBl T n p)
theorem lwE_cg {T T' : Nat → Int32} {n : Nat} (h : bAt T n = bAt T' n) : lwE T n = lwE T' n := by
  funext p
  unfold lwE
  rw [skp_cg h, pBl_cg h]
def Lw0 (A : Mm) (p : PS) (B : Mm) : Prop := (∀ a, a ≠ 0 → a < 231 ∨ 390 < a → B a = A a) ∧ txL A B p.2.2 (fun i => i = 22)
def Lw1 (A : Mm) (cs : List (Nat × Nat)) (B : Mm) : Prop := (∀ a, a ≠ 0 → a < 70 ∨ 390 < a → B a = A a) ∧ txL A B (-1) (fun i => i = 21 ∨ i = 22) ∧ B 0 21 = nI cs.length ∧ ∀ t, t < cs.length → B (70 + t) 0 = nI (cAt cs t).1 ∧ B (70 + t) 1 = nI (cAt cs t).2
def lwS (T : Nat → Int32) (k : Nat) (s' : QS) : Prop := Lw T k (5 * k + 5) 4 0 ((skp T k 0, 0, -1), []) s'
theorem lwS_ok {T : Nat → Int32} {k : Nat} {s' : QS} (h : lwS T k s') : s'.1.1 ≤ k ∧ s'.2.length ≤ k ∧ okL s'.2 0 := by
  have B := Lw_ok _ _ _ _ _ h (show skp T k 0 ≤ k from skp_in (Nat.zero_le _)) trivial (fun z => by omega)
  have B3 : s'.2.length + skp T k 0 ≤ s'.1.1 + 0 := B.2.2.1
  exact ⟨B.1.1, by have := B.1.1; omega, B.2.2.2.1⟩
section R36
variable {l : Launch} {g : mG} {d : Nat} {A : Mm}
theorem r_law {m : Mm} (hm : cl m = A) {s : Nat} (hs : A 0 1 = nI s) (h6 : s ≤ 600) (hd : 30 ≤ d) (n : Int32) : mHi l g d k_X12_law [.ref 0, .int n] m (fun x m2 => (¬ isTx s 150 n → m2 0 0 = 1 ∧ cl m2 = mset A 2 1 (A 2 1 + 1)) ∧ ∀ k, n = nI k → k ≤ 150 → k ≤ s → m2 0 0 = 0 ∧ ∃ s', lwS (A 1) k s' ∧ ((lwE (A 1) k s'.1).2.1 ≠ 0 → x = (lwE (A 1) k s'.1).2.1 - 10 ∧ Lw0 A (lwE (A 1) k s'.1) (cl m2)) ∧ ((lwE (A 1) k s'.1).2.1 = 0 → x = 1 ∧ Lw1 A s'.2 (cl m2))) := by
  refine nBi 0 rfl rfl rfl (by decide) rfl (fun htr o Φ hΦ => mGoOn (mOk (by decide)) rfl [25,29] 400 ?_)
  show mCal l g d k_X12_law Φ 0 0 _ 12 k_X12_in false [.int n, .int (0 : Int32), .int ((mset m 0 0 (0 : Int32)) 0 1)] [.ref 0] [.ref 0, .int n] (mset m 0 0 (0 : Int32)) o 0 0 1
  have hC := Cn_0 hm
  generalize mset m 0 0 (0 : Int32) = M at hC ⊢
  clear hm
  have e1 : M 0 1 = nI s := by rw [clO hC.1 (by omega)]; exact hs
  have hcl : ∀ (m2 : Mm) a i, cl m2 a i = bif sc a i then 0 else m2 a i := fun _ _ _ => rfl
  have hA : ∀ a i, A a i = bif sc a i then 0 else M a i := fun a i => by rw [← hC.1]; rfl
  have bad : ¬ isTx s 150 n → mWB l g d k_X12_law Φ 0 0 25 [.ref 0, .int n] [.ref 0] M o 0 0 := by
    intro hb
    refine mGoOn (mOk (by decide)) rfl [85] 400 ?_
    show True ∧ mCal l g d k_X12_law Φ 0 0 _ 32 k_X12_bad false [.ref 0, .int (1 : Int32), .int (1 : Int32), .int (1 : Int32)] [] [.ref 0, .int n] M o 0 0 1
    refine ⟨trivial, fCi htr (r_bad1 hC.2 (t := 1) (j := 1) (by decide) (by decide)) (by omega) ?_⟩
    show ((1 : Int32) = 0 → True ∧ mCal l g d k_X12_law Φ 0 0 _ 42 k_X12_starts false [.ref 0, .int n] [] [.ref 0, .int n] (mset (mset M 0 0 (1 : Int32)) 2 1 (M 2 1 + 1)) o 0 0 0) ∧ (¬ (1 : Int32) = 0 → Φ (.inl (some (.int (0 : Int32)))) (mset (mset M 0 0 (1 : Int32)) 2 1 (M 2 1 + 1)) o ∧ 0 ≤ 0 ∧ 0 ≤ 0)
    have hq := rO_t hC.1 (t := 1) (j := 1) (by decide) (by decide) (r := 0)
    have hfin : Φ (.inl (some (.int (0 : Int32)))) (mset (mset M 0 0 (1 : Int32)) 2 1 (M 2 1 + 1)) o := hΦ _ _ ⟨fun _ => ⟨hq.1, hq.2.2 (show (1 : Int32) ≠ 0 by decide)⟩, fun k e h1 h2 => absurd ⟨k, e, h1, h2⟩ hb⟩
    exact br1b (eR hfin)
  have good : isTx s 150 n → mWB l g d k_X12_law Φ 0 0 29 [.ref 0, .int n] [.ref 0] M o 0 0 := by
    rintro ⟨k, rfl, hk, hks⟩
    refine mGoOn (mOk (by decide)) rfl [85] 400 ?_
    show True ∧ mCal l g d k_X12_law Φ 0 0 _ 32 k_X12_bad false [.ref 0, .int (0 : Int32), .int (1 : Int32), .int (1 : Int32)] [] [.ref 0, .int (nI k)] M o 0 0 1
    refine ⟨trivial, fCi htr (r_bad0 hC.2 _ _) (by omega) ?_⟩
    show ((0 : Int32) = 0 → True ∧ mCal l g d k_X12_law Φ 0 0 _ 42 k_X12_starts false [.ref 0, .int (nI k)] [] [.ref 0, .int (nI k)] M o 0 0 0) ∧ (¬ (0 : Int32) = 0 → Φ (.inl (some (.int (0 : Int32)))) M o ∧ 0 ≤ 0 ∧ 0 ≤ 0)
    refine br0b ⟨trivial, nCv htr (r_starts (n := k) (by omega) (by omega)) (by omega) ?_⟩
    rintro m2 ⟨X, rfl, hX⟩
    have eM1 : M 1 = A 1 := clF hC.1 (by omega)
    rw [eM1]
    show True ∧ mCal l g d k_X12_law Φ 0 0 _ 51 k_X12_sum false [.ref 0] [] [.ref 0, .int (nI k)] (mset (mPS X (skp (A 1) k 0, 0, -1)) 0 22 (0 : Int32)) o 0 0 0
    rw [mPS_set0 _ _ (by decide) (by decide) (by decide)]
    have y2 : mset X 0 22 0 0 2 = nI k := by rw [mset_eq, pk_un (by decide)]; exact hX.2.2.2.1
    have y8 : mset X 0 22 0 0 8 = 0 := by rw [mset_eq, pk_un (by decide)]; exact hX.2.2.2.2.2
    have y22 : mset X 0 22 0 0 22 = 0 := by rw [mset_eq, pk_us]
    have ya : ∀ a, a ≠ 0 → mset X 0 22 0 a = M a := fun a ha => by rw [mset_ne _ _ _ ha]; exact hX.1 a ha
    have y0 : ∀ i, i ≠ 1 → i ≠ 2 → i ≠ 4 → i ≠ 5 → i ≠ 6 → i ≠ 7 → i ≠ 8 → i ≠ 22 → mset X 0 22 0 0 i = M 0 i := fun i a b c e f g h h22 => by rw [mset_eq, pk_un h22]; exact hX.2.1 i a b c e f g h
    have y01 : mset X 0 22 0 0 1 = 0 := by rw [mset_eq, pk_un (by decide)]; exact hX.2.2.1
    generalize mset X 0 22 0 = Y at y2 y8 y22 ya y0 y01
    have eY1 : Y 1 = A 1 := (ya 1 (by decide)).trans eM1
    have hsum := r_sum (l := l) (g := g) (n := k) (X0 := Y) (d := d - 1) (by omega) hk y2 (p := (skp (A 1) k 0, 0, -1)) (skp_in (Nat.zero_le _)) y8 y22
    rw [eY1] at hsum
    refine ⟨trivial, nCv htr hsum (by omega) ?_⟩
    rintro _ ⟨s', X', hL, rfl, hR⟩
    have hok := lwS_ok hL
    have eX2 : X' 0 2 = nI k := by rw [hR.2.1 2 (by decide) (by decide)]; exact y2
    have eX1 : X' 1 = A 1 := (hR.1 1 (by decide) (by omega)).trans eY1
    show True ∧ mCal l g d k_X12_law Φ 0 0 _ 55 k_X12_blanks false [.ref 0] [] [.ref 0, .int (nI k)] (mPS X' s'.1) o 0 0 0
    have hbl := q_blanks (l := l) (g := g) (d := d - 1) X' s'.1 eX2 (by omega) (by omega) (by omega)
    rw [eX1] at hbl
    refine ⟨trivial, fCv htr hbl (by omega) ?_⟩
    show (¬ ((mPS X' (pBl (A 1) k s'.1)) 0 5) = 0 → mWB l g d k_X12_law Φ 0 0 85 [.ref 0, .int (nI k)] [] (mPS X' (pBl (A 1) k s'.1)) o 0 0) ∧ (((mPS X' (pBl (A 1) k s'.1)) 0 5) = 0 → (((mPS X' (pBl (A 1) k s'.1)) 0 2) ≤ ((mPS X' (pBl (A 1) k s'.1)) 0 4) → mWB l g d k_X12_law Φ 0 0 85 [.ref 0, .int (nI k)] [] (mPS X' (pBl (A 1) k s'.1)) o 0 0) ∧ (¬ ((mPS X' (pBl (A 1) k s'.1)) 0 2) ≤ ((mPS X' (pBl (A 1) k s'.1)) 0 4) → True ∧ mCal l g d k_X12_law Φ 0 0 _ 82 k_X12_wrong false [.ref 0, .int (1 : Int32), .int ((mPS X' (pBl (A 1) k s'.1)) 0 4)] [] [.ref 0, .int (nI k)] (mPS X' (pBl (A 1) k s'.1)) o 0 0 0))
    have hcont : ∀ x m2, (m2 0 0 = 0 ∧ ((lwE (A 1) k s'.1).2.1 ≠ 0 → x = (lwE (A 1) k s'.1).2.1 - 10 ∧ Lw0 A (lwE (A 1) k s'.1) (cl m2)) ∧ ((lwE (A 1) k s'.1).2.1 = 0 → x = 1 ∧ Lw1 A s'.2 (cl m2))) → Φ (.inl (some (.int x))) m2 o := by
      intro x m2 q
      refine hΦ x m2 ⟨fun z => absurd ⟨k, rfl, hk, hks⟩ z, fun k2 e h1 h2 => ?_⟩
      rw [nI_eq (by omega) (by omega)] at e
      subst e
      exact ⟨q.1, s', hL, q.2⟩
    have e0 : ∀ i, i ≠ 1 → i ≠ 2 → i ≠ 4 → i ≠ 5 → i ≠ 6 → i ≠ 7 → i ≠ 8 → i ≠ 22 → X' 0 i = M 0 i := fun i a b c e f g h h22 => (hR.2.1 i h h22).trans (y0 i a b c e f g h h22)
    have ea : ∀ a, a ≠ 0 → a < 231 ∨ 390 < a → X' a = M a := fun a h1 h2 => (hR.1 a h1 h2).trans (ya a h1)
    have e01 : X' 0 1 = 0 := (hR.2.1 1 (by decide) (by decide)).trans y01
    have k85 : ∀ p, p = lwE (A 1) k s'.1 → mWB l g d k_X12_law Φ 0 0 85 [.ref 0, .int (nI k)] [] (mPS X' p) o 0 0 := by
      intro p hp
      rw [← hp] at hcont
      refine mGoOn (mOk (by decide)) rfl [] 400 ?_
      show (((mPS X' p) 0 5) = 0 → mCal l g d k_X12_law Φ 0 0 _ 122 k_X12_lays false [.ref 230, .ref 69, .int ((mset (mset (mPS X' p) 0 3 (-1 : Int32)) 0 21 ((mset (mPS X' p) 0 3 (-1 : Int32)) 0 22)) 0 21)] [] [.ref 0, .int (nI k)] (mset (mset (mPS X' p) 0 3 (-1 : Int32)) 0 21 ((mset (mPS X' p) 0 3 (-1 : Int32)) 0 22)) o 0 0 0) ∧ (¬ ((mPS X' p) 0 5) = 0 → True ∧ mCal l g d k_X12_law Φ 0 0 _ 93 k_X12_ends false [.ref 0] [] [.ref 0, .int (nI k)] (mPS X' p) o 0 0 1)
      rw [mPS_5]
      refine ⟨fun z => ?_, fun z => ⟨trivial, fCi htr (r_ends X' p) (by omega) (eR (hcont _ _ ⟨?_, fun _ => ⟨rfl, fun a h1 h2 => ?_, fun i h1 h2 h3 h4 h5 h6 h7 h8 h22 => ?_, ?_, ?_⟩, fun y => absurd y z⟩))⟩⟩
      · have e22 : mset (mPS X' p) 0 3 (-1) 0 22 = nI s'.2.length := by rw [mset_eq, pk_un (by decide), mPS_f _ _ (by decide) (by decide) (by decide)]; exact hR.2.2.2.1
        rw [e22, mset_eq, pk_us]
        refine nCv htr (r_lays ly_230 ly_69 (by decide) (by decide) (c := s'.2.length) (by omega) (by omega)) (by omega) ?_
        rintro m3 ⟨f1, f2⟩
        show Φ (.inl (some (.int (1 : Int32)))) m3 o ∧ 0 ≤ 0 ∧ 0 ≤ 0
        have w0 : ∀ i, i ≠ 3 → i ≠ 21 → i ≠ 4 → i ≠ 5 → i ≠ 6 → m3 0 i = X' 0 i := fun i h3 h21 h4 h5 h6 => by rw [f1 0 (by omega), mset_eq, pk_un h21, mset_eq, pk_un h3, mPS_f _ _ h4 h5 h6]
        refine eR (hcont _ _ ⟨?_, fun y => absurd z y, fun _ => ⟨rfl, fun a h1 h2 => ?_, ⟨fun i h1 h2 h3 h4 h5 h6 h7 h8 h22 => ?_, ?_, ?_⟩, ?_, fun t ht => ?_⟩⟩)
        · rw [w0 0 (by decide) (by decide) (by decide) (by decide) (by decide), e0 0 (by decide) (by decide) (by decide) (by decide) (by decide) (by decide) (by decide) (by decide)]; exact hC.2
        · funext i
          rw [hcl, hA, f1 a (by omega), mset_ne _ _ _ h1, mset_ne _ _ _ h1, mPS_o _ _ h1, ea a h1 (by omega)]
        · rw [hcl, hA, w0 i h3 (fun q => h22 (Or.inl q)) h4 h5 h6, e0 i h1 h2 h4 h5 h6 h7 h8 (fun q => h22 (Or.inr q))]
        · rw [hcl, show sc 0 1 = false from rfl, cond_false, w0 1 (by decide) (by decide) (by decide) (by decide) (by decide)]; exact e01
        · rw [hcl, show sc 0 3 = false from rfl, cond_false, f1 0 (by omega), mset_eq, pk_un (by decide), mset_eq, pk_us]
        · rw [hcl, show sc 0 21 = false from rfl, cond_false, f1 0 (by omega), mset_eq, pk_us]
        · have q := hR.2.2.2.2 t ht
          have h0 := f2 t ht 0 (by decide)
          have h1 := f2 t ht 1 (by decide)
          rw [show 69 + 1 + t = 70 + t by omega, show 230 + 1 + t = 231 + t by omega, mset_ne _ _ _ (by omega), mset_ne _ _ _ (by omega), mPS_o _ _ (by omega)] at h0 h1
          have hsc : ∀ t, t < 160 → ∀ i, i < 2 → sc (70 + t) i = false := by decide +kernel
          rw [hcl, hcl, hsc t (by omega) 0 (by decide), hsc t (by omega) 1 (by decide), cond_false, cond_false, h0, h1]
          exact q
      · rw [mPS_f _ _ (by decide) (by decide) (by decide), mset_eq, pk_un (by decide), e0 0 (by decide) (by decide) (by decide) (by decide) (by decide) (by decide) (by decide) (by decide)]; exact hC.2
      · funext i
        rw [hcl, hA, mPS_o _ _ h1, mset_ne _ _ _ h1, ea a h1 h2]
      · rw [hcl, hA, mPS_f _ _ h4 h5 h6, mset_eq, pk_un h3, e0 i h1 h2 h4 h5 h6 h7 h8 h22]
      · rw [hcl, show sc 0 1 = false from rfl, cond_false, mPS_f _ _ (by decide) (by decide) (by decide), mset_eq, pk_un (by decide)]; exact e01
      · rw [hcl, show sc 0 3 = false from rfl, cond_false, mPS_f _ _ (by decide) (by decide) (by decide), mset_eq, pk_us]
    rw [mPS_5, mPS_4, mPS_f _ _ (by decide) (by decide) (by decide), eX2, nI_leI (by omega) (by have : (pBl (A 1) k s'.1).1 ≤ k := skp_in hok.1; omega)]
    refine ⟨fun z => k85 _ ?_, fun z => ⟨fun z2 => k85 _ ?_, fun z2 => ⟨trivial, fCv htr (q_wrong 1 (nI (pBl (A 1) k s'.1).1) X' (pBl (A 1) k s'.1)) (by omega) (k85 _ ?_)⟩⟩⟩
    · unfold lwE; rw [ifp_f (fun y => z y.1)]
    · unfold lwE; rw [ifp_f (fun y => by have := y.2; have z3 : k ≤ skp (A 1) k s'.1.1 := z2; omega)]
    · unfold lwE; rw [ifp_t ⟨z, by have z3 : ¬ k ≤ skp (A 1) k s'.1.1 := z2; omega⟩]; rfl
  rw [e1]
  refine fCi htr (q_in _ _ _ _) (by omega) ?_
  show ((pI (0 ≤ n ∧ n ≤ nI s)) = 0 → mWB l g d k_X12_law Φ 0 0 25 [.ref 0, .int n] [.ref 0] M o 0 0) ∧ (¬ (pI (0 ≤ n ∧ n ≤ nI s)) = 0 → (n ≤ (150 : Int32) → mWB l g d k_X12_law Φ 0 0 29 [.ref 0, .int n] [.ref 0] M o 0 0) ∧ (¬ n ≤ (150 : Int32) → mWB l g d k_X12_law Φ 0 0 25 [.ref 0, .int n] [.ref 0] M o 0 0))
  have key : 0 ≤ n ∧ n ≤ nI s → ∃ k, n = nI k ∧ k ≤ s := fun q => by
    have h1 := (fa_le _ _).mp q.1
    have h2 := (fa_le _ _).mp q.2
    rw [nI_toInt (by omega)] at h2
    have e0 : (0 : Int32).toInt = 0 := rfl
    refine ⟨n.toInt.toNat, ?_, by omega⟩
    rw [fa_eq, nI_toInt (by omega)]
    omega
  refine ⟨fun q => bad (fun y => ?_), fun q => ⟨fun q2 => good ?_, fun q2 => bad (fun y => ?_)⟩⟩
  · obtain ⟨k, rfl, h1, h2⟩ := y
    refine pI_0.mp q ⟨?_, by rw [nI_leI (by omega) (by omega)]; exact h2⟩
    rw [show (0 : Int32) = nI 0 from rfl, nI_leI (by decide) (by omega)]
    exact Nat.zero_le _
  · obtain ⟨k, rfl, h1⟩ := key (pI_1.mp q)
    rw [show (150 : Int32) = nI 150 from rfl, nI_leI (by omega) (by decide)] at q2
    exact ⟨k, rfl, q2, h1⟩
  · obtain ⟨k, rfl, h1, h2⟩ := y
    exact q2 (by rw [show (150 : Int32) = nI 150 from rfl, nI_leI (by omega) (by decide)]; exact h1)
end R36
