set_option maxRecDepth 100000
/-- a text of at most c bytes can be read where s are fed -/
def isTx (s c : Nat) (n : Int32) : Prop := ∃ k, n = nI k ∧ k ≤ c ∧ k ≤ s
noncomputable def bkR (T : Nat → Int32) (n N : Nat) : BS := bkF T n N n ((skp T n 0, 0, -1), 0, (fun _ => 0), (fun _ => 0))
/-- what reading a text leaves of the reference's own fields -/
def txL (A B : Mm) (fa : Int32) (Q : Nat → Prop) : Prop := (∀ i, i ≠ 1 → i ≠ 2 → i ≠ 3 → i ≠ 4 → i ≠ 5 → i ≠ 6 → i ≠ 7 → i ≠ 8 → ¬ Q i → B 0 i = A 0 i) ∧ B 0 1 = 0 ∧ B 0 3 = fa
def Bk0 (A : Mm) (b : BS) (B : Mm) : Prop := (∀ a, a ≠ 0 → a < 402 ∨ 410 < a → B a = A a) ∧ txL A B b.1.2.2 (fun _ => False)
def Bk1 (A : Mm) (b : BS) (B : Mm) : Prop := (∀ a, a ≠ 0 → a < 392 ∨ 410 < a → B a = A a) ∧ txL A B (-1) (fun i => i = 35) ∧ B 0 35 = nI b.2.1 ∧ ∀ t, t < b.2.1 → B (392 + t) 0 = b.2.2.1 t ∧ B (392 + t) 1 = b.2.2.2 t
section R28
variable {l : Launch} {g : mG} {d : Nat} {A : Mm}
theorem bkF_ok {T : Nat → Int32} {n N : Nat} (hN : N ≤ 9) : ∀ (f : Nat) (b : BS), bOk n N b → bOk n N (bkF T n N f b)
  | 0, _, h => h
  | f + 1, b, h => by
    by_cases q : b.1.2.1 = 0 ∧ b.1.1 < n
    · rw [bkF_yes q]; exact bkF_ok hN f _ (bk1_ok hN h).1
    · rw [bkF_no q]; exact h
theorem bkR_ok {T : Nat → Int32} {n N : Nat} (hN : N ≤ 9) : bOk n N (bkR T n N) := bkF_ok hN n _ ⟨skp_in (Nat.zero_le _), fun t ht => absurd ht (by show ¬ t < 0; omega), fun t u h1 h2 => absurd h2 (by show ¬ u < 0; omega), Nat.zero_le _⟩
theorem r_book (hT : CtB A) {m : Mm} (hm : cl m = A) {s : Nat} (hs : A 0 1 = nI s) (h6 : s ≤ 600) (hd : 6 ≤ d) (n : Int32) : mHi l g d k_X12_book [.ref 0, .int n] m (fun x m2 => (¬ isTx s 60 n → m2 0 0 = 1 ∧ cl m2 = mset A 2 1 (A 2 1 + 1)) ∧ ∀ k, n = nI k → k ≤ 60 → k ≤ s → m2 0 0 = 0 ∧ ((bkR (A 1) k (nS A)).1.2.1 ≠ 0 → x = (bkR (A 1) k (nS A)).1.2.1 - 10 ∧ Bk0 A (bkR (A 1) k (nS A)) (cl m2)) ∧ ((bkR (A 1) k (nS A)).1.2.1 = 0 → x = nI (bkR (A 1) k (nS A)).2.1 ∧ Bk1 A (bkR (A 1) k (nS A)) (cl m2))) := by
  have hN := hT.1
  refine nBi 5 rfl rfl rfl (by decide) rfl (fun htr o Φ hΦ => mGoOn (mOk (by decide)) rfl [24,28] 400 ?_)
  show mCal l g d k_X12_book Φ 0 0 _ 12 k_X12_in false [.int n, .int (0 : Int32), .int ((mset m 0 0 (0 : Int32)) 0 1)] [.ref 0] [.ref 0, .int n, mJ, mJ, mJ, mJ, mJ] (mset m 0 0 (0 : Int32)) o 0 0 1
  have hC := Cn_0 hm
  generalize mset m 0 0 (0 : Int32) = M at hC ⊢
  clear hm
  have e1 : M 0 1 = nI s := by rw [clO hC.1 (by omega)]; exact hs
  have hcl : ∀ (m2 : Mm) a i, cl m2 a i = bif sc a i then 0 else m2 a i := fun _ _ _ => rfl
  have hA : ∀ a i, A a i = bif sc a i then 0 else M a i := fun a i => by rw [← hC.1]; rfl
  have bad : ¬ isTx s 60 n → mWB l g d k_X12_book Φ 0 0 24 [.ref 0, .int n, mJ, mJ, mJ, mJ, mJ] [.ref 0] M o 0 0 := by
    intro hb
    refine mGoOn (mOk (by decide)) rfl [48] 400 ?_
    show True ∧ mCal l g d k_X12_book Φ 0 0 _ 31 k_X12_bad false [.ref 0, .int (1 : Int32), .int (1 : Int32), .int (1 : Int32)] [] [.ref 0, .int n, mJ, mJ, mJ, mJ, mJ] M o 0 0 1
    refine ⟨trivial, fCi htr (r_bad1 hC.2 (t := 1) (j := 1) (by decide) (by decide)) (by omega) ?_⟩
    show ((1 : Int32) = 0 → True ∧ mCal l g d k_X12_book Φ 0 0 _ 41 k_X12_starts false [.ref 0, .int n] [] [.ref 0, .int n, mJ, mJ, mJ, mJ, mJ] (mset (mset M 0 0 (1 : Int32)) 2 1 (M 2 1 + 1)) o 0 0 0) ∧ (¬ (1 : Int32) = 0 → Φ (.inl (some (.int (0 : Int32)))) (mset (mset M 0 0 (1 : Int32)) 2 1 (M 2 1 + 1)) o ∧ 0 ≤ 0 ∧ 0 ≤ 0)
    have hq := rO_t hC.1 (t := 1) (j := 1) (by decide) (by decide) (r := 0)
    have hfin : Φ (.inl (some (.int (0 : Int32)))) (mset (mset M 0 0 (1 : Int32)) 2 1 (M 2 1 + 1)) o := hΦ _ _ ⟨fun _ => ⟨hq.1, hq.2.2 (show (1 : Int32) ≠ 0 by decide)⟩, fun k e h1 h2 => absurd ⟨k, e, h1, h2⟩ hb⟩
    exact br1b (eR hfin)
  have good : isTx s 60 n → mWB l g d k_X12_book Φ 0 0 28 [.ref 0, .int n, mJ, mJ, mJ, mJ, mJ] [.ref 0] M o 0 0 := by
    rintro ⟨k, rfl, hk, hks⟩
    refine mGoOn (mOk (by decide)) rfl [48] 400 ?_
    show True ∧ mCal l g d k_X12_book Φ 0 0 _ 31 k_X12_bad false [.ref 0, .int (0 : Int32), .int (1 : Int32), .int (1 : Int32)] [] [.ref 0, .int (nI k), mJ, mJ, mJ, mJ, mJ] M o 0 0 1
    refine ⟨trivial, fCi htr (r_bad0 hC.2 _ _) (by omega) ?_⟩
    show ((0 : Int32) = 0 → True ∧ mCal l g d k_X12_book Φ 0 0 _ 41 k_X12_starts false [.ref 0, .int (nI k)] [] [.ref 0, .int (nI k), mJ, mJ, mJ, mJ, mJ] M o 0 0 0) ∧ (¬ (0 : Int32) = 0 → Φ (.inl (some (.int (0 : Int32)))) M o ∧ 0 ≤ 0 ∧ 0 ≤ 0)
    refine br0b ⟨trivial, nCv htr (r_starts (n := k) (by omega) (by omega)) (by omega) ?_⟩
    rintro m2 ⟨X, rfl, hX⟩
    have eM1 : M 1 = A 1 := clF hC.1 (by omega)
    have eX1 : X 1 = A 1 := by rw [hX.1 1 (by decide)]; exact eM1
    have eX4 : X 4 0 = nI (nS A) := by rw [hX.1 4 (by decide), clA hC.1 0 (by omega)]; exact hN.1
    rw [eM1]
    have hok := bkR_ok (T := A 1) (n := k) hN.2
    have hcont : ∀ x m2, (m2 0 0 = 0 ∧ ((bkR (A 1) k (nS A)).1.2.1 ≠ 0 → x = (bkR (A 1) k (nS A)).1.2.1 - 10 ∧ Bk0 A (bkR (A 1) k (nS A)) (cl m2)) ∧ ((bkR (A 1) k (nS A)).1.2.1 = 0 → x = nI (bkR (A 1) k (nS A)).2.1 ∧ Bk1 A (bkR (A 1) k (nS A)) (cl m2))) → Φ (.inl (some (.int x))) m2 o := by
      intro x m2 q
      refine hΦ x m2 ⟨fun z => absurd ⟨k, rfl, hk, hks⟩ z, fun k2 e h1 h2 => ?_⟩
      rw [nI_eq (by omega) (by omega)] at e
      subst e
      exact q
    refine r_bookL htr o (by omega) (X0 := X) (n := k) (N := nS A) hk hX.2.2.2.1 hN.2 eX4 (nI k) k ((skp (A 1) k 0, 0, -1), 0, (fun _ => 0), (fun _ => 0)) X 0 (fun _ => Nat.sub_le _ _) ⟨skp_in (Nat.zero_le _), fun t ht => absurd ht (by show ¬ t < 0; omega), fun t u h1 h2 => absurd h2 (by show ¬ u < 0; omega), Nat.zero_le _⟩ ⟨fun _ _ _ => rfl, fun _ => rfl, fun t ht => absurd ht (by show ¬ t < 0; omega)⟩ (fun v hv => ⟨fun q => absurd q (hB_0 _), fun q => by obtain ⟨t, ht, _⟩ := q; exact absurd ht (by show ¬ t < 0; omega)⟩) ?_
    rw [eX1]
    show ∀ X' mk', RBk X (bkR (A 1) k (nS A)) X' → mWB l g d k_X12_book Φ 0 0 169 [.ref 0, .int (nI k), .int (nI (bkR (A 1) k (nS A)).2.1), .int mk', mJ, mJ, mJ] [] (mPS X' (bkR (A 1) k (nS A)).1) o 0 0
    generalize bkR (A 1) k (nS A) = b at hok hcont
    intro X' mk' hR
    refine mGoOn (mOk (by decide)) rfl [] 400 ?_
    show (((mPS X' b.1) 0 5) = 0 → mCal l g d k_X12_book Φ 0 0 _ 200 k_X12_lays false [.ref 401, .ref 391, .int (nI b.2.1)] [] [.ref 0, .int (nI k), .int (nI b.2.1), .int mk', mJ, mJ, mJ] (mset (mset (mPS X' b.1) 0 3 (-1 : Int32)) 0 35 (nI b.2.1)) o 0 0 0) ∧ (¬ ((mPS X' b.1) 0 5) = 0 → True ∧ mCal l g d k_X12_book Φ 0 0 _ 177 k_X12_ends false [.ref 0] [] [.ref 0, .int (nI k), .int (nI b.2.1), .int mk', mJ, mJ, mJ] (mPS X' b.1) o 0 0 1)
    rw [mPS_5]
    have e0 : ∀ i, i ≠ 1 → i ≠ 2 → i ≠ 4 → i ≠ 5 → i ≠ 6 → i ≠ 7 → i ≠ 8 → X' 0 i = M 0 i := fun i a b c e f g h => (hR.2.1 i).trans (hX.2.1 i a b c e f g h)
    have ea : ∀ a, a ≠ 0 → a < 402 ∨ 410 < a → X' a = M a := fun a h1 h2 => (hR.1 a h1 h2).trans (hX.1 a h1)
    have e01 : X' 0 1 = 0 := (hR.2.1 1).trans hX.2.2.1
    refine ⟨fun z => ?_, fun z => ⟨trivial, fCi htr (r_ends X' b.1) (by omega) (eR (hcont _ _ ⟨?_, fun _ => ⟨rfl, fun a h1 h2 => ?_, fun i h1 h2 h3 h4 h5 h6 h7 h8 _ => ?_, ?_, ?_⟩, fun y => absurd y z⟩))⟩⟩
    · have hk9 : b.2.1 ≤ 9 := Nat.le_trans hok.2.2.2 hN.2
      refine nCv htr (r_lays ly_401 ly_391 (by decide) (by decide) (c := b.2.1) hk9 (by omega)) (by omega) ?_
      rintro m3 ⟨f1, f2⟩
      show Φ (.inl (some (.int (nI b.2.1)))) m3 o ∧ 0 ≤ 0 ∧ 0 ≤ 0
      have y0 : ∀ i, i ≠ 3 → i ≠ 35 → i ≠ 4 → i ≠ 5 → i ≠ 6 → m3 0 i = X' 0 i := fun i h3 h35 h4 h5 h6 => by rw [f1 0 (by omega), mset_eq, pk_un h35, mset_eq, pk_un h3, mPS_f _ _ h4 h5 h6]
      refine eR (hcont _ _ ⟨?_, fun y => absurd z y, fun _ => ⟨rfl, fun a h1 h2 => ?_, ⟨fun i h1 h2 h3 h4 h5 h6 h7 h8 h35 => ?_, ?_, ?_⟩, ?_, fun t ht => ?_⟩⟩)
      · rw [y0 0 (by decide) (by decide) (by decide) (by decide) (by decide), e0 0 (by decide) (by decide) (by decide) (by decide) (by decide) (by decide) (by decide)]; exact hC.2
      · funext i
        rw [hcl, hA, f1 a (by omega), mset_ne _ _ _ h1, mset_ne _ _ _ h1, mPS_o _ _ h1, ea a h1 (by omega)]
      · rw [hcl, hA, y0 i h3 h35 h4 h5 h6, e0 i h1 h2 h4 h5 h6 h7 h8]
      · rw [hcl, show sc 0 1 = false from rfl, cond_false, y0 1 (by decide) (by decide) (by decide) (by decide) (by decide)]; exact e01
      · rw [hcl, show sc 0 3 = false from rfl, cond_false, f1 0 (by omega), mset_eq, pk_un (by decide), mset_eq, pk_us]
      · rw [hcl, show sc 0 35 = false from rfl, cond_false, f1 0 (by omega), mset_eq, pk_us]
      · have q := hR.2.2 t ht
        have h0 := f2 t ht 0 (by decide)
        have h1 := f2 t ht 1 (by decide)
        rw [show 391 + 1 + t = 392 + t by omega, show 401 + 1 + t = 402 + t by omega, mset_ne _ _ _ (by omega), mset_ne _ _ _ (by omega), mPS_o _ _ (by omega)] at h0 h1
        have hsc : ∀ t, t < 9 → ∀ i, i < 2 → sc (392 + t) i = false := by decide +kernel
        rw [hcl, hcl, hsc t (by omega) 0 (by decide), hsc t (by omega) 1 (by decide), cond_false, cond_false, h0, h1]
        exact q
    · rw [mPS_f _ _ (by decide) (by decide) (by decide), mset_eq, pk_un (by decide), e0 0 (by decide) (by decide) (by decide) (by decide) (by decide) (by decide) (by decide)]; exact hC.2
    · funext i
      rw [hcl, hA, mPS_o _ _ h1, mset_ne _ _ _ h1, ea a h1 h2]
    · rw [hcl, hA, mPS_f _ _ h4 h5 h6, mset_eq, pk_un h3, e0 i h1 h2 h4 h5 h6 h7 h8]
    · rw [hcl, show sc 0 1 = false from rfl, cond_false, mPS_f _ _ (by decide) (by decide) (by decide), mset_eq, pk_un (by decide)]; exact e01
    · rw [hcl, show sc 0 3 = false from rfl, cond_false, mPS_f _ _ (by decide) (by decide) (by decide), mset_eq, pk_us]
  rw [e1]
  refine fCi htr (q_in _ _ _ _) (by omega) ?_
  show ((pI (0 ≤ n ∧ n ≤ nI s)) = 0 → mWB l g d k_X12_book Φ 0 0 24 [.ref 0, .int n, mJ, mJ, mJ, mJ, mJ] [.ref 0] M o 0 0) ∧ (¬ (pI (0 ≤ n ∧ n ≤ nI s)) = 0 → (n ≤ (60 : Int32) → mWB l g d k_X12_book Φ 0 0 28 [.ref 0, .int n, mJ, mJ, mJ, mJ, mJ] [.ref 0] M o 0 0) ∧ (¬ n ≤ (60 : Int32) → mWB l g d k_X12_book Φ 0 0 24 [.ref 0, .int n, mJ, mJ, mJ, mJ, mJ] [.ref 0] M o 0 0))
  have key : 0 ≤ n ∧ n ≤ nI s → ∃ k, n = nI k ∧ k ≤ s := fun q => by
    have h1 := (fa_le _ _).mp q.1
    have h2 := (fa_le _ _).mp q.2
    rw [nI_toInt (by omega)] at h2
    have e0 : (0 : Int32).toInt = 0 := rfl
    refine ⟨n.toInt.toNat, ?_, by omega⟩
    rw [fa_eq, nI_toInt (by omega)]
    omega
  refine ⟨fun q => bad (fun y => ?_), fun q => ⟨fun q2 => good ?_, fun q2 => bad (fun y => ?_)⟩⟩
  · obtain ⟨k, rfl, h1, h2⟩ := y
    refine pI_0.mp q ⟨?_, by rw [nI_leI (by omega) (by omega)]; exact h2⟩
    rw [show (0 : Int32) = nI 0 from rfl, nI_leI (by decide) (by omega)]
    exact Nat.zero_le _
  · obtain ⟨k, rfl, h1⟩ := key (pI_1.mp q)
    rw [show (60 : Int32) = nI 60 from rfl, nI_leI (by omega) (by decide)] at q2
    exact ⟨k, rfl, q2, h1⟩
  · obtain ⟨k, rfl, h1, h2⟩ := y
    exact q2 (by rw [show (60 : Int32) = nI 60 from rfl, nI_leI (by omega) (by decide)]; exact h1)
end R28
