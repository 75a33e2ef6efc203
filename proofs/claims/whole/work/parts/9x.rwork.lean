set_option maxRecDepth 100000
def wk0 : WA := (0, fun _ => (0, 0, 0, 0, 0))
def wkS (T : Nat → Int32) (n M S : Nat) (s' : QW) : Prop := Wk T n M S (2 * n + 2) 1 0 ((skp T n 0, 0, -1), wk0) s'
theorem wkS_ok {T : Nat → Int32} {n M S : Nat} (hM : M ≤ 6) (hS : S ≤ 9) (hn : n ≤ 150) {s' : QW} (h : wkS T n M S s') : s'.1.1 ≤ n ∧ (s'.1.2.1 = 0 → s'.2.1 ≤ 75 ∧ ∀ i, i < s'.2.1 → okW M S 0 s'.2.1 s'.2.2 i) := by
  have B := Wk_ok hM hS _ _ _ _ _ h (show skp T n 0 ≤ n from skp_in (Nat.zero_le _)) (by decide)
  refine ⟨B.1, fun q => ?_⟩
  obtain ⟨b1, b2, b3, b4, b5, b6⟩ := B.2 q
  have b3' : 2 * s'.2.1 + skp T n 0 ≤ s'.1.1 + 2 * 0 := b3
  have := B.1
  exact ⟨by omega, fun i hi => b6 i (Nat.zero_le _) hi⟩
/-- a work that is not done: v is what 'fault' answers then -/
def Wk0 (A : Mm) (v : Int32) (B : Mm) : Prop := (∀ a, a ≠ 0 → a < 414 ∨ 493 < a → B a = A a) ∧ txL A B v (fun i => i = 30)
def Wk1 (A : Mm) (w : Nat) (e : EX) (B : Mm) : Prop := (∀ a, a ≠ 0 → a < 414 ∨ 493 < a → a ≠ 494 → a ≠ 497 + w → B a = A a) ∧ txL A B (-1) (fun i => i = 30 ∨ i = 36 ∨ i = 37 ∨ i = 41 ∨ i = 42) ∧ B 0 36 = nI (w + 1) ∧ B 0 37 = nI e.2.2.2.2 ∧ B 494 = e.1 ∧ eq37 (A 494) (B (497 + w))
section R49
variable {l : Launch} {g : mG} {d : Nat} {A : Mm}
theorem r_wL (htr : l.stackTraces = false) (o : Int64) {Φ : mR → Mm → Int64 → Prop} (hd : 15 ≤ d) {X0 : Mm} {n M S : Nat} (hn : n ≤ 150) (h2 : X0 0 2 = nI n) (h42 : X0 4 2 = nI M) (h40 : X0 4 0 = nI S) (hM : M ≤ 6) (hS : S ≤ 9) (hT : ∀ i, i < n → X0 1 i ≠ -1) (len : Int32) : ∀ (N : Nat) (s : QW) (X : Mm), (s.1.2.1 = 0 → 2 * (n - s.1.1) + 1 < N) → s.1.1 ≤ n → (s.1.2.1 = 0 → 2 * s.2.1 ≤ s.1.1) → RWk X0 0 s.2 (s.1.2.1 = 0) X → (∀ s' X', Wk (X0 1) n M S N 1 0 s s' → RWk X0 0 s'.2 (s'.1.2.1 = 0) X' → mWB l g d k_X12_work Φ 0 0 101 [.ref 0, .int len] [] (mPS X' s'.1) o 0 0) → mWB l g d k_X12_work Φ 0 0 72 [.ref 0, .int len] [] (mPS X (pBl (X0 1) n s.1)) o 0 0 := by
  intro N
  induction N with
  | zero =>
    intro s X hN hs hc hR kk
    have hf : s.1.2.1 ≠ 0 := fun z => absurd (hN z) (Nat.not_lt_zero _)
    refine mGoOn (mOk (by decide)) rfl [72,101] 400 ?_
    show (¬ ((mPS X (pBl (X0 1) n s.1)) 0 5) = 0 → mWB l g d k_X12_work Φ 0 0 101 [.ref 0, .int len] [] (mPS X (pBl (X0 1) n s.1)) o 0 0) ∧ (((mPS X (pBl (X0 1) n s.1)) 0 5) = 0 → (((mPS X (pBl (X0 1) n s.1)) 0 2) ≤ ((mPS X (pBl (X0 1) n s.1)) 0 4) → mWB l g d k_X12_work Φ 0 0 101 [.ref 0, .int len] [] (mPS X (pBl (X0 1) n s.1)) o 0 0) ∧ (¬ ((mPS X (pBl (X0 1) n s.1)) 0 2) ≤ ((mPS X (pBl (X0 1) n s.1)) 0 4) → True ∧ mCal l g d k_X12_work Φ 0 0 _ 91 k_X12_readsStep false [.ref 0] [] [.ref 0, .int len] (mPS X (pBl (X0 1) n s.1)) o 0 0 0))
    rw [mPS_5]
    exact ⟨fun _ => kk (pBl (X0 1) n s.1, s.2) X (Wk_f ⟨hf, rfl, skp_in hs⟩) (RWk_g hR (fun q => absurd q hf)), fun q => absurd q hf⟩
  | succ N IH =>
    intro s X hN hs hc hR kk
    have eX2 : X 0 2 = nI n := by rw [hR.2.1 2 (by decide) (by decide)]; exact h2
    have hqn := skp_in (T := X0 1) hs
    have hqq := skp_skp (T := X0 1) hs
    have hge := skp_ge (T := X0 1) hs
    refine mGoOn (mOk (by decide)) rfl [72,101] 400 ?_
    show (¬ ((mPS X (pBl (X0 1) n s.1)) 0 5) = 0 → mWB l g d k_X12_work Φ 0 0 101 [.ref 0, .int len] [] (mPS X (pBl (X0 1) n s.1)) o 0 0) ∧ (((mPS X (pBl (X0 1) n s.1)) 0 5) = 0 → (((mPS X (pBl (X0 1) n s.1)) 0 2) ≤ ((mPS X (pBl (X0 1) n s.1)) 0 4) → mWB l g d k_X12_work Φ 0 0 101 [.ref 0, .int len] [] (mPS X (pBl (X0 1) n s.1)) o 0 0) ∧ (¬ ((mPS X (pBl (X0 1) n s.1)) 0 2) ≤ ((mPS X (pBl (X0 1) n s.1)) 0 4) → True ∧ mCal l g d k_X12_work Φ 0 0 _ 91 k_X12_readsStep false [.ref 0] [] [.ref 0, .int len] (mPS X (pBl (X0 1) n s.1)) o 0 0 0))
    rw [mPS_5, mPS_4, mPS_f _ _ (by decide) (by decide) (by decide), eX2, show (pBl (X0 1) n s.1).1 = skp (X0 1) n s.1.1 from rfl, nI_leI (by omega) (by omega)]
    refine ⟨fun z => ?_, fun hf => ?_⟩
    · exact kk (pBl (X0 1) n s.1, s.2) X (Wk_f ⟨z, rfl, hqn⟩) (RWk_g hR (fun q => absurd q z))
    have hf : s.1.2.1 = 0 := hf
    have hN0 := hN hf
    have hc0 := hc hf
    have hst : stp 0 (bAt (X0 1) n (skp (X0 1) n s.1.1)) ↔ n ≤ skp (X0 1) n s.1.1 := by
      unfold stp
      rw [if_pos rfl]
      constructor
      · intro e
        by_cases y : n ≤ skp (X0 1) n s.1.1
        · exact y
        · unfold bAt at e
          rw [if_pos (by omega)] at e
          exact absurd e (hT _ (by omega))
      · exact fun y => bAt_end y
    refine ⟨fun y => kk ((skp (X0 1) n s.1.1, s.1.2), s.2) X (Or.inr ⟨hf, Or.inr ⟨rfl, Or.inl ⟨hst.mpr y, rfl⟩⟩⟩) hR, fun y => ?_⟩
    refine ⟨trivial, nCv htr ((r_allW hn h2 h42 h40 hM hS N).1 (d - 1) 0 ((skp (X0 1) n s.1.1, s.1.2), s.2) X (by omega) (by decide) hf (by show 2 * (n - skp (X0 1) n s.1.1) < N; omega) hqn hqq (by show 2 * s.2.1 ≤ skp (X0 1) n s.1.1; omega) (RWk_g hR (fun _ => hf))) (by omega) ?_⟩
    rintro _ ⟨s1, X1, L1, rfl, R1⟩
    have B := Wk_ok hM hS _ _ _ _ _ L1 hqn (by decide)
    rw [if_pos rfl] at B
    have g2 : X1 0 2 = nI n := by rw [R1.2.1 2 (by decide) (by decide)]; exact h2
    have g1 : X1 1 = X0 1 := R1.1 1 (by decide) (by omega)
    show True ∧ mCal l g d k_X12_work Φ 0 0 _ 95 k_X12_blanks false [.ref 0] [] [.ref 0, .int len] (mPS X1 s1.1) o 0 0 0
    have hB1 := B.1
    have hbl := q_blanks (l := l) (g := g) (d := d - 1) X1 s1.1 g2 (by omega) (by omega) (by omega)
    rw [g1] at hbl
    refine ⟨trivial, fCv htr hbl (by omega) ?_⟩
    refine IH s1 X1 (fun q => ?_) B.1 (fun q => ?_) R1 (fun s' X' L' R' => kk s' X' (Or.inr ⟨hf, Or.inr ⟨rfl, Or.inr ⟨fun z => y (hst.mp z), s1, L1, L'⟩⟩⟩) R')
    · have b2 : skp (X0 1) n s.1.1 + 1 ≤ s1.1.1 := (B.2 q).2.1
      omega
    · have b3 : 2 * s1.2.1 + skp (X0 1) n s.1.1 ≤ s1.1.1 + 2 * s.2.1 := (B.2 q).2.2.1
      omega
theorem r_work (hA : Sv A) (hNt : Nt A (A 494)) {m : Mm} (hm : cl m = A) {s w : Nat} (hs : A 0 1 = nI s) (h6 : s ≤ 600) (hT : ∀ i, i < s → A 1 i ≠ -1) (hw : A 0 36 = nI w) (h16 : w ≤ 16) (hd : 17 ≤ d) (n : Int32) : mHi l g d k_X12_work [.ref 0, .int n] m (fun x m2 => (¬ isTx s 150 n → m2 0 0 = 1 ∧ cl m2 = mset A 2 1 (A 2 1 + 1)) ∧ ∀ k, n = nI k → k ≤ 150 → k ≤ s → m2 0 0 = 0 ∧ (w = 16 → x = -20 ∧ Wk0 A (-1) (cl m2)) ∧ (w ≠ 16 → ∃ s', wkS (A 1) k (nM A) (nS A) s' ∧ (s'.1.2.1 ≠ 0 → x = s'.1.2.1 - 10 ∧ Wk0 A s'.1.2.2 (cl m2)) ∧ (s'.1.2.1 = 0 → ∃ w0 e', Ex A s'.2.2 fuE 0 0 s'.2.1 (A 494, w0, 0, 0, 0) e' ∧ exI A e' ∧ x = nI e'.2.2.2.1 ∧ Wk1 A w e' (cl m2)))) := by
  have hS9 := hA.1.1
  have hM6 := hA.1.2.2.1
  refine nBi 0 rfl rfl rfl (by decide) rfl (fun htr o Φ hΦ => mGoOn (mOk (by decide)) rfl [25,29] 400 ?_)
  show mCal l g d k_X12_work Φ 0 0 _ 12 k_X12_in false [.int n, .int (0 : Int32), .int ((mset m 0 0 (0 : Int32)) 0 1)] [.ref 0] [.ref 0, .int n] (mset m 0 0 (0 : Int32)) o 0 0 1
  have hC := Cn_0 hm
  generalize mset m 0 0 (0 : Int32) = M at hC ⊢
  clear hm
  have e1 : M 0 1 = nI s := by rw [clO hC.1 (by omega)]; exact hs
  have e36 : M 0 36 = nI w := by rw [clO hC.1 (by omega)]; exact hw
  have hcl : ∀ (m2 : Mm) a i, cl m2 a i = bif sc a i then 0 else m2 a i := fun _ _ _ => rfl
  have hAM : ∀ a i, A a i = bif sc a i then 0 else M a i := fun a i => by rw [← hC.1]; rfl
  have bad : ¬ isTx s 150 n → mWB l g d k_X12_work Φ 0 0 25 [.ref 0, .int n] [.ref 0] M o 0 0 := by
    intro hb
    refine mGoOn (mOk (by decide)) rfl [40] 400 ?_
    show True ∧ mCal l g d k_X12_work Φ 0 0 _ 32 k_X12_bad false [.ref 0, .int (1 : Int32), .int (1 : Int32), .int (1 : Int32)] [] [.ref 0, .int n] M o 0 0 1
    refine ⟨trivial, fCi htr (r_bad1 hC.2 (t := 1) (j := 1) (by decide) (by decide)) (by omega) ?_⟩
    show ((1 : Int32) = 0 → mWB l g d k_X12_work Φ 0 0 40 [.ref 0, .int n] [] (mset (mset M 0 0 (1 : Int32)) 2 1 (M 2 1 + 1)) o 0 0) ∧ (¬ (1 : Int32) = 0 → Φ (.inl (some (.int (0 : Int32)))) (mset (mset M 0 0 (1 : Int32)) 2 1 (M 2 1 + 1)) o ∧ 0 ≤ 0 ∧ 0 ≤ 0)
    have hq := rO_t hC.1 (t := 1) (j := 1) (by decide) (by decide) (r := 0)
    have hfin : Φ (.inl (some (.int (0 : Int32)))) (mset (mset M 0 0 (1 : Int32)) 2 1 (M 2 1 + 1)) o := hΦ _ _ ⟨fun _ => ⟨hq.1, hq.2.2 (show (1 : Int32) ≠ 0 by decide)⟩, fun k e h1 h2 => absurd ⟨k, e, h1, h2⟩ hb⟩
    exact br1b (eR hfin)
  have good : isTx s 150 n → mWB l g d k_X12_work Φ 0 0 29 [.ref 0, .int n] [.ref 0] M o 0 0 := by
    rintro ⟨k, rfl, hk, hks⟩
    refine mGoOn (mOk (by decide)) rfl [40] 400 ?_
    show True ∧ mCal l g d k_X12_work Φ 0 0 _ 32 k_X12_bad false [.ref 0, .int (0 : Int32), .int (1 : Int32), .int (1 : Int32)] [] [.ref 0, .int (nI k)] M o 0 0 1
    refine ⟨trivial, fCi htr (r_bad0 hC.2 _ _) (by omega) ?_⟩
    show ((0 : Int32) = 0 → mWB l g d k_X12_work Φ 0 0 40 [.ref 0, .int (nI k)] [] M o 0 0) ∧ (¬ (0 : Int32) = 0 → Φ (.inl (some (.int (0 : Int32)))) M o ∧ 0 ≤ 0 ∧ 0 ≤ 0)
    refine br0b ?_
    have hcont : ∀ x m2, (m2 0 0 = 0 ∧ (w = 16 → x = -20 ∧ Wk0 A (-1) (cl m2)) ∧ (w ≠ 16 → ∃ s', wkS (A 1) k (nM A) (nS A) s' ∧ (s'.1.2.1 ≠ 0 → x = s'.1.2.1 - 10 ∧ Wk0 A s'.1.2.2 (cl m2)) ∧ (s'.1.2.1 = 0 → ∃ w0 e', Ex A s'.2.2 fuE 0 0 s'.2.1 (A 494, w0, 0, 0, 0) e' ∧ exI A e' ∧ x = nI e'.2.2.2.1 ∧ Wk1 A w e' (cl m2)))) → Φ (.inl (some (.int x))) m2 o := by
      intro x m2 q
      refine hΦ x m2 ⟨fun z => absurd ⟨k, rfl, hk, hks⟩ z, fun k2 e h1 h2 => ?_⟩
      rw [nI_eq (by omega) (by omega)] at e
      subst e
      exact q
    refine mGoOn (mOk (by decide)) rfl [72] 400 ?_
    show (¬ (M 0 36) = (16 : Int32) → True ∧ mCal l g d k_X12_work Φ 0 0 _ 64 k_X12_starts false [.ref 0, .int (nI k)] [] [.ref 0, .int (nI k)] M o 0 0 0) ∧ ((M 0 36) = (16 : Int32) → Φ (.inl (some (.int (-20 : Int32)))) (mset (mset M 0 1 (0 : Int32)) 0 3 (-1 : Int32)) o ∧ 0 ≤ 0 ∧ 0 ≤ 0)
    rw [e36, show (16 : Int32) = nI 16 from rfl, nI_eq (by omega) (by decide)]
    refine ⟨fun hw16 => ?_, fun hw16 => eR (hcont _ _ ⟨?_, fun _ => ⟨rfl, fun a h1 h2 => ?_, fun i h1 h2 h3 h4 h5 h6 h7 h8 _ => ?_, ?_, ?_⟩, fun y => absurd hw16 y⟩)⟩
    rotate_left
    · rw [mset_eq, pk_un (by decide), mset_eq, pk_un (by decide)]; exact hC.2
    · funext i
      rw [hcl, hAM, mset_ne _ _ _ h1, mset_ne _ _ _ h1]
    · rw [hcl, hAM, mset_eq, pk_un h3, mset_eq, pk_un h1]
    · rw [hcl, show sc 0 1 = false from rfl, cond_false, mset_eq, pk_un (by decide), mset_eq, pk_us]
    · rw [hcl, show sc 0 3 = false from rfl, cond_false, mset_eq, pk_us]
    refine ⟨trivial, nCv htr (r_starts (n := k) (by omega) (by omega)) (by omega) ?_⟩
    rintro m2 ⟨X, rfl, hX⟩
    have eM1 : M 1 = A 1 := clF hC.1 (by omega)
    rw [eM1]
    show mWB l g d k_X12_work Φ 0 0 72 [.ref 0, .int (nI k)] [] (mset (mPS X (skp (A 1) k 0, 0, -1)) 0 30 (0 : Int32)) o 0 0
    rw [mPS_set0 _ _ (by decide) (by decide) (by decide)]
    have y2 : mset X 0 30 0 0 2 = nI k := by rw [mset_eq, pk_un (by decide)]; exact hX.2.2.2.1
    have y8 : mset X 0 30 0 0 8 = nI 0 := by rw [mset_eq, pk_un (by decide)]; exact hX.2.2.2.2.2
    have y30 : mset X 0 30 0 0 30 = nI 0 := by rw [mset_eq, pk_us]; rfl
    have ya : ∀ a, a ≠ 0 → mset X 0 30 0 a = M a := fun a ha => by rw [mset_ne _ _ _ ha]; exact hX.1 a ha
    have y0 : ∀ i, i ≠ 1 → i ≠ 2 → i ≠ 4 → i ≠ 5 → i ≠ 6 → i ≠ 7 → i ≠ 8 → i ≠ 30 → mset X 0 30 0 0 i = M 0 i := fun i a b c e f g h h30 => by rw [mset_eq, pk_un h30]; exact hX.2.1 i a b c e f g h
    have y01 : mset X 0 30 0 0 1 = 0 := by rw [mset_eq, pk_un (by decide)]; exact hX.2.2.1
    generalize mset X 0 30 0 = Y at y2 y8 y30 ya y0 y01 ⊢
    have eY1 : Y 1 = A 1 := (ya 1 (by decide)).trans eM1
    have eY4 : ∀ i, Y 4 i = A 4 i := fun i => by rw [ya 4 (by decide), clA hC.1 i (by omega)]
    have eBl : ((skp (A 1) k 0, 0, -1) : PS) = pBl (Y 1) k (skp (A 1) k 0, 0, -1) := by unfold pBl; rw [eY1]; show _ = (skp (A 1) k (skp (A 1) k 0), _); rw [skp_skp (Nat.zero_le _)]
    rw [eBl]
    refine r_wL htr o (by omega) (X0 := Y) (n := k) (M := nM A) (S := nS A) hk y2 (by rw [eY4]; exact hM6.1) (by rw [eY4]; exact hS9.1) hM6.2 hS9.2 (fun i hi => by rw [eY1]; exact hT i (by omega)) (nI k) (2 * k + 2) ((skp (A 1) k 0, 0, -1), wk0) Y (fun _ => by show 2 * (k - skp (A 1) k 0) + 1 < _; omega) (skp_in (Nat.zero_le _)) (fun _ => Nat.zero_le _) ⟨fun _ _ _ => rfl, fun _ _ _ => rfl, y8, fun _ => ⟨y30, fun i hi => absurd hi (Nat.not_lt_zero _)⟩⟩ ?_
    rw [eY1]
    intro s' X' L hR
    have hok := wkS_ok hM6.2 hS9.2 hk L
    have hst : w ≠ 16 := hw16
    refine mGoOn (mOk (by decide)) rfl [] 400 ?_
    show (((mPS X' s'.1) 0 5) = 0 → mReq (mInB ((mset (mPS X' s'.1) 0 3 (-1 : Int32)) 0 36) 16) (mCal l g d k_X12_work Φ 0 0 _ 131 k_X12_copies false [.ref 494, .ref (mRF 496 (((mset (mPS X' s'.1) 0 3 (-1 : Int32)) 0 36).toNatClampNeg))] [] [.ref 0, .int (nI k)] (mset (mPS X' s'.1) 0 3 (-1 : Int32)) o 0 0 0)) ∧ (¬ ((mPS X' s'.1) 0 5) = 0 → True ∧ mCal l g d k_X12_work Φ 0 0 _ 109 k_X12_ends false [.ref 0] [] [.ref 0, .int (nI k)] (mPS X' s'.1) o 0 0 1)
    have e0 : ∀ i, i ≠ 1 → i ≠ 2 → i ≠ 4 → i ≠ 5 → i ≠ 6 → i ≠ 7 → i ≠ 8 → i ≠ 30 → X' 0 i = M 0 i := fun i a b c e f g h h30 => (hR.2.1 i h h30).trans (y0 i a b c e f g h h30)
    have ea : ∀ a, a ≠ 0 → a < 414 ∨ 493 < a → X' a = M a := fun a h1 h2 => (hR.1 a h1 h2).trans (ya a h1)
    have e01 : X' 0 1 = 0 := (hR.2.1 1 (by decide) (by decide)).trans y01
    rw [mPS_5]
    refine ⟨fun z => ?_, fun z => ⟨trivial, fCi htr (r_ends X' s'.1) (by omega) (eR (hcont _ _ ⟨?_, fun y => absurd y hst, fun _ => ⟨s', L, fun _ => ⟨rfl, fun a h1 h2 => ?_, fun i h1 h2 h3 h4 h5 h6 h7 h8 h30 => ?_, ?_, ?_⟩, fun y => absurd y z⟩⟩))⟩⟩
    · obtain ⟨hc75, hokW⟩ := hok.2 z
      obtain ⟨r30, rr⟩ := hR.2.2.2 z
      have w36 : mset (mPS X' s'.1) 0 3 (-1) 0 36 = nI w := by rw [mset_eq, pk_un (by decide), mPS_f _ _ (by decide) (by decide) (by decide), e0 36 (by decide) (by decide) (by decide) (by decide) (by decide) (by decide) (by decide) (by decide)]; exact e36
      have wb0 : ∀ i, i ≠ 3 → i ≠ 4 → i ≠ 5 → i ≠ 6 → mset (mPS X' s'.1) 0 3 (-1) 0 i = X' 0 i := fun i i3 i4 i5 i6 => by rw [mset_eq, pk_un i3, mPS_f _ _ i4 i5 i6]
      have w03 : mset (mPS X' s'.1) 0 3 (-1) 0 3 = -1 := by rw [mset_eq, pk_us]
      have wba : ∀ a, a ≠ 0 → mset (mPS X' s'.1) 0 3 (-1) a = X' a := fun a ha => by rw [mset_ne _ _ _ ha, mPS_o _ _ ha]
      rw [w36, mIn_ok (show w < 16 by omega) (by decide), nI_cl (by omega), rf_496]
      generalize mset (mPS X' s'.1) 0 3 (-1) = B0 at w36 wb0 w03 wba ⊢
      refine mReq_i rfl (nCv htr (r_copies (x := 494) (y := 497 + w) ⟨rfl, by decide, by decide⟩ ⟨sB_6 (by omega), by rw [sL_6 (by omega)]; decide, by rw [sL_6 (by omega)]; decide⟩ (by omega)) (by omega) ?_)
      rintro m3 ⟨f1, f2⟩
      show (Value.ref 0).category = 1 ∧ (True ∧ mCal l g d k_X12_work Φ 0 0 _ 165 k_X12_goes false [.ref 0, .int (0 : Int32), .int ((mset (mset (mset (mset m3 0 36 ((m3 0 36) + (1 : Int32))) 0 41 (0 : Int32)) 0 42 (0 : Int32)) 0 37 (0 : Int32)) 0 30)] [] [.ref 0, .int (nI k)] (mset (mset (mset (mset m3 0 36 ((m3 0 36) + (1 : Int32))) 0 41 (0 : Int32)) 0 42 (0 : Int32)) 0 37 (0 : Int32)) o 0 0 0)
      have m36 : m3 0 36 = nI w := by rw [f1 0 (by omega)]; exact w36
      rw [m36, nI_1]
      have ha0 : ∀ a, a ≠ 0 → mset (mset (mset (mset m3 0 36 (nI (w + 1))) 0 41 0) 0 42 0) 0 37 0 a = m3 a := fun a ha => by rw [mset_ne _ _ _ ha, mset_ne _ _ _ ha, mset_ne _ _ _ ha, mset_ne _ _ _ ha]
      have ha1 : ∀ i, i ≠ 36 → i ≠ 41 → i ≠ 42 → i ≠ 37 → mset (mset (mset (mset m3 0 36 (nI (w + 1))) 0 41 0) 0 42 0) 0 37 0 0 i = m3 0 i := fun i i1 i2 i3 i4 => by rw [mset_eq, pk_un i4, mset_eq, pk_un i3, mset_eq, pk_un i2, mset_eq, pk_un i1]
      have ha2 : mset (mset (mset (mset m3 0 36 (nI (w + 1))) 0 41 0) 0 42 0) 0 37 0 0 36 = nI (w + 1) ∧ mset (mset (mset (mset m3 0 36 (nI (w + 1))) 0 41 0) 0 42 0) 0 37 0 0 41 = 0 ∧ mset (mset (mset (mset m3 0 36 (nI (w + 1))) 0 41 0) 0 42 0) 0 37 0 0 42 = 0 ∧ mset (mset (mset (mset m3 0 36 (nI (w + 1))) 0 41 0) 0 42 0) 0 37 0 0 37 = 0 := by
        simp only [mset_eq, upd_at]; exact ⟨rfl, rfl, rfl, rfl⟩
      generalize mset (mset (mset (mset m3 0 36 (nI (w + 1))) 0 41 0) 0 42 0) 0 37 0 = K at ha0 ha1 ha2 ⊢
      have K30 : K 0 30 = nI s'.2.1 := by rw [ha1 30 (by decide) (by decide) (by decide) (by decide), f1 0 (by omega), wb0 30 (by decide) (by decide) (by decide) (by decide)]; exact r30
      have K494 : K 494 = A 494 := by rw [ha0 494 (by decide), f1 494 (by omega), wba 494 (by decide), ea 494 (by decide) (by omega)]; exact clF hC.1 (by omega)
      rw [K30]
      have hsim : sim A K := ⟨fun a ha => by unfold cwA at ha; rw [ha0 a (by omega), f1 a (by omega), wba a (by omega), ea a (by omega) (by omega)]; exact clF hC.1 (by omega), by rw [ha1 21 (by decide) (by decide) (by decide) (by decide), f1 0 (by omega), wb0 21 (by decide) (by decide) (by decide) (by decide), e0 21 (by decide) (by decide) (by decide) (by decide) (by decide) (by decide) (by decide) (by decide)]; exact clO hC.1 (by omega)⟩
      have hE : rE A K (A 494, K 0 40, 0, 0, 0) K := ⟨hsim, fun _ _ _ _ _ => rfl, fun _ _ _ _ _ => rfl, K494, rfl, ha2.2.1, ha2.2.2.1, ha2.2.2.2⟩
      have hI : exI A (A 494, K 0 40, 0, 0, 0) := ⟨hNt, Nat.zero_le _, Nat.zero_le _⟩
      have hrows : ∀ i, i < s'.2.1 → rowW K i (s'.2.2 i) := fun i hi => by
        unfold rowW
        rw [ha0 (414 + i) (by omega), f1 (414 + i) (by omega), wba (414 + i) (by omega)]
        exact rr i hi
      refine ⟨rfl, trivial, nCv htr (r_goes hA hc75 hokW hrows (by omega) hI hE rfl) (by omega) ?_⟩
      rintro m4 ⟨e', hEx, hE4⟩
      obtain ⟨a1, a2, a3, a4, a5, a6, a7, a8⟩ := hE4
      have hok2 := Ex_ok hA.1 hokW _ _ _ _ _ _ hEx hI (fun _ => Nat.le_refl _) (fun z => absurd z (by decide))
      show Φ (.inl (some (.int (m4 0 42)))) m4 o ∧ 0 ≤ 0 ∧ 0 ≤ 0
      rw [a7]
      refine eR (hcont _ _ ⟨?_, fun y => absurd y hst, fun _ => ⟨s', L, fun y => absurd z y, fun _ => ⟨K 0 40, e', hEx, hok2.1, rfl, fun a h1 h2 h3 h4 => ?_, ⟨fun i h1 h2 h3 h4 h5 h6 h7 h8 hn => ?_, ?_, ?_⟩, ?_, ?_, ?_, ?_⟩⟩⟩)
      · rw [a3 0 (by decide) (by decide) (by decide) (by decide), ha1 0 (by decide) (by decide) (by decide) (by decide), f1 0 (by omega), wb0 0 (by decide) (by decide) (by decide) (by decide), e0 0 (by decide) (by decide) (by decide) (by decide) (by decide) (by decide) (by decide) (by decide)]; exact hC.2
      · funext i
        rw [hcl, hAM]
        by_cases q1 : a = 411
        · subst q1; rfl
        · by_cases q2 : a = 412
          · subst q2; rfl
          · rw [a2 a h1 q1 q2 h3, ha0 a h1, f1 a h4, wba a h1, ea a h1 h2]
      · rw [hcl, hAM]
        by_cases q40 : i = 40
        · subst q40; rfl
        · rw [a3 i (by omega) q40 (by omega) (by omega), ha1 i (by omega) (by omega) (by omega) (by omega), f1 0 (by omega), wb0 i h3 h4 h5 h6, e0 i h1 h2 h4 h5 h6 h7 h8 (by omega)]
      · rw [hcl, show sc 0 1 = false from rfl, cond_false, a3 1 (by decide) (by decide) (by decide) (by decide), ha1 1 (by decide) (by decide) (by decide) (by decide), f1 0 (by omega), wb0 1 (by decide) (by decide) (by decide) (by decide)]; exact e01
      · rw [hcl, show sc 0 3 = false from rfl, cond_false, a3 3 (by decide) (by decide) (by decide) (by decide), ha1 3 (by decide) (by decide) (by decide) (by decide), f1 0 (by omega)]; exact w03
      · rw [hcl, show sc 0 36 = false from rfl, cond_false, a3 36 (by decide) (by decide) (by decide) (by decide)]; exact ha2.1
      · rw [hcl, show sc 0 37 = false from rfl, cond_false]; exact a8
      · funext i
        rw [hcl, show sc 494 i = false from rfl, cond_false, a4]
      · intro i hi
        have hsc : ∀ t, t < 16 → sc (497 + t) i = false := fun t ht => by
          have key : ∀ t, t < 16 → (Nat.beq (497 + t) 411 || Nat.beq (497 + t) 412 || Nat.beq (497 + t) 495 || (Nat.ble 517 (497 + t) && Nat.ble (497 + t) 584) || Nat.beq (497 + t) 602 || Nat.beq (497 + t) 603 || (Nat.ble 696 (497 + t) && Nat.ble (497 + t) 706)) = false := by decide +kernel
          have e : Nat.beq (497 + t) 0 = false := by cases hh : Nat.beq (497 + t) 0 with | true => exact absurd (Nat.eq_of_beq_eq_true hh) (by omega) | false => rfl
          unfold sc
          rw [e]
          exact key t ht
        rw [hcl, hsc w (by omega), cond_false, a2 (497 + w) (by omega) (by omega) (by omega) (by omega), ha0 (497 + w) (by omega), ← f2 i hi, wba 494 (by decide), ea 494 (by decide) (by omega), clA hC.1 i (by omega)]
    · rw [mPS_f _ _ (by decide) (by decide) (by decide), mset_eq, pk_un (by decide), e0 0 (by decide) (by decide) (by decide) (by decide) (by decide) (by decide) (by decide) (by decide)]; exact hC.2
    · funext i
      rw [hcl, hAM, mPS_o _ _ h1, mset_ne _ _ _ h1, ea a h1 h2]
    · rw [hcl, hAM, mPS_f _ _ h4 h5 h6, mset_eq, pk_un h3, e0 i h1 h2 h4 h5 h6 h7 h8 h30]
    · rw [hcl, show sc 0 1 = false from rfl, cond_false, mPS_f _ _ (by decide) (by decide) (by decide), mset_eq, pk_un (by decide)]; exact e01
    · rw [hcl, show sc 0 3 = false from rfl, cond_false, mPS_f _ _ (by decide) (by decide) (by decide), mset_eq, pk_us]
  rw [e1]
  refine fCi htr (q_in _ _ _ _) (by omega) ?_
  show ((pI (0 ≤ n ∧ n ≤ nI s)) = 0 → mWB l g d k_X12_work Φ 0 0 25 [.ref 0, .int n] [.ref 0] M o 0 0) ∧ (¬ (pI (0 ≤ n ∧ n ≤ nI s)) = 0 → (n ≤ (150 : Int32) → mWB l g d k_X12_work Φ 0 0 29 [.ref 0, .int n] [.ref 0] M o 0 0) ∧ (¬ n ≤ (150 : Int32) → mWB l g d k_X12_work Φ 0 0 25 [.ref 0, .int n] [.ref 0] M o 0 0))
  have key : 0 ≤ n ∧ n ≤ nI s → ∃ k, n = nI k ∧ k ≤ s := fun q => by
    have h1 := (fa_le _ _).mp q.1
    have h2 := (fa_le _ _).mp q.2
    rw [nI_toInt (by omega)] at h2
    have e0 : (0 : Int32).toInt = 0 := rfl
    refine ⟨n.toInt.toNat, ?_, by omega⟩
    rw [fa_eq, nI_toInt (by omega)]
    omega
  refine ⟨fun q => bad (fun y => ?_), fun q => ⟨fun q2 => good ?_, fun q2 => bad (fun y => ?_)⟩⟩
  · obtain ⟨k, rfl, h1, h2⟩ := y
    refine pI_0.mp q ⟨?_, by rw [nI_leI (by omega) (by omega)]; exact h2⟩
    rw [show (0 : Int32) = nI 0 from rfl, nI_leI (by decide) (by omega)]
    exact Nat.zero_le _
  · obtain ⟨k, rfl, h1⟩ := key (pI_1.mp q)
    rw [show (150 : Int32) = nI 150 from rfl, nI_leI (by omega) (by decide)] at q2
    exact ⟨k, rfl, q2, h1⟩
  · obtain ⟨k, rfl, h1, h2⟩ := y
    exact q2 (by rw [show (150 : Int32) = nI 150 from rfl, nI_leI (by omega) (by decide)]; exact h1)
end R49
