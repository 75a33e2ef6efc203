set_option maxRecDepth 100000
def nowC (D : CD) (k : Nat) : Int32 := if k < (D 2).length then (eAt (D 2) k).1 else if 18 ≤ k ∧ k < 27 then 24 else 0
def cyC (a : Nat) : Prop := a = 4 ∨ a = 6 ∨ (23 ≤ a ∧ a ≤ 36) ∨ (45 ≤ a ∧ a ≤ 50) ∨ (61 ≤ a ∧ a ≤ 68)
def Ct0 (A : Mm) (c : CS) (B : Mm) : Prop := (∀ a, a ≠ 0 → ¬ rdC a → B a = A a) ∧ txL A B c.1.2.2 (fun _ => False)
def cTb (B : Mm) (D : CD) : Prop := (∀ k, k < 4 → B 4 k = nI (D k).length) ∧ (∀ i, i < (D 0).length → B 6 i = (eAt (D 0) i).1) ∧ (∀ i, i < (D 1).length → B (23 + i) 0 = (eAt (D 1) i).1 ∧ B (23 + i) 1 = (eAt (D 1) i).2.1) ∧ (∀ i, i < (D 2).length → B (45 + i) 0 = (eAt (D 2) i).1 ∧ B (45 + i) 1 = (eAt (D 2) i).2.1 ∧ B (45 + i) 2 = (eAt (D 2) i).2.2) ∧ (∀ i, i < (D 3).length → B (61 + i) 0 = (eAt (D 3) i).1 ∧ B (61 + i) 1 = (eAt (D 3) i).2.1) ∧ ∀ k, k < 37 → B 494 k = nowC D k
def Ct1 (A : Mm) (D : CD) (B : Mm) : Prop := (∀ a, a ≠ 0 → ¬ rdC a → ¬ cyC a → a ≠ 494 → B a = A a) ∧ txL A B (-1) (fun i => i = 21 ∨ i = 35 ∨ i = 36 ∨ i = 37 ∨ i = 38) ∧ (B 0 21 = 0 ∧ B 0 35 = 0 ∧ B 0 36 = 0 ∧ B 0 37 = 0 ∧ B 0 38 = 0) ∧ cTb B D
theorem sc_cy : ∀ a, a < 70 → a ≠ 0 → ∀ i, sc a i = false := by
  intro a ha h0 i
  have e : Nat.beq a 0 = false := by cases hh : Nat.beq a 0 with | true => exact absurd (Nat.eq_of_beq_eq_true hh) h0 | false => rfl
  have key : ∀ a, a < 70 → (Nat.beq a 411 || Nat.beq a 412 || Nat.beq a 495 || (Nat.ble 517 a && Nat.ble a 584) || Nat.beq a 602 || Nat.beq a 603 || (Nat.ble 696 a && Nat.ble a 706)) = false := by decide +kernel
  unfold sc
  rw [e]
  exact key a ha
section R43
variable {l : Launch} {g : mG} {d : Nat} {A : Mm}
theorem r_cityL (htr : l.stackTraces = false) (o : Int64) {Φ : mR → Mm → Int64 → Prop} (hd : 8 ≤ d) {X0 : Mm} {n : Nat} (hn : n ≤ 600) (h2 : X0 0 2 = nI n) (len : Int32) : ∀ (f : Nat) (c : CS) (X : Mm), (c.1.2.1 = 0 → n - c.1.1 ≤ f) → cOk (X0 1) n c → RCt X0 c.2 X → (c.1.2.1 = 0 → X 0 7 = nI (tot c.2)) → (∀ X', RCt X0 (ctF (X0 1) n f c).2 X' → mWB l g d k_X12_city Φ 0 0 71 [.ref 0, .int len] [] (mPS X' (ctF (X0 1) n f c).1) o 0 0) → mWB l g d k_X12_city Φ 0 0 42 [.ref 0, .int len] [] (mPS X c.1) o 0 0 := by
  intro f
  induction f with
  | zero =>
    intro c X hf hok hR h7 kk
    have eX2 : X 0 2 = nI n := by rw [hR.2.1 2 (by decide)]; exact h2
    have hp := hok.1
    refine mGoOn (mOk (by decide)) rfl [42,71] 400 ?_
    show (¬ ((mPS X c.1) 0 5) = 0 → mWB l g d k_X12_city Φ 0 0 71 [.ref 0, .int len] [] (mPS X c.1) o 0 0) ∧ (((mPS X c.1) 0 5) = 0 → (((mPS X c.1) 0 2) ≤ ((mPS X c.1) 0 4) → mWB l g d k_X12_city Φ 0 0 71 [.ref 0, .int len] [] (mPS X c.1) o 0 0) ∧ (¬ ((mPS X c.1) 0 2) ≤ ((mPS X c.1) 0 4) → True ∧ mCal l g d k_X12_city Φ 0 0 _ 61 k_X12_clause false [.ref 0] [] [.ref 0, .int len] (mPS X c.1) o 0 0 0))
    rw [mPS_5, mPS_f X c.1 (j := 2) (by decide) (by decide) (by decide), mPS_4, eX2, nI_leI (by omega) (by omega)]
    exact ⟨fun _ => kk X hR, fun q => ⟨fun _ => kk X hR, fun z => absurd (show n ≤ c.1.1 by have := hf q; omega) z⟩⟩
  | succ f IH =>
    intro c X hf hok hR h7 kk
    have eX2 : X 0 2 = nI n := by rw [hR.2.1 2 (by decide)]; exact h2
    have hp := hok.1
    refine mGoOn (mOk (by decide)) rfl [42,71] 400 ?_
    show (¬ ((mPS X c.1) 0 5) = 0 → mWB l g d k_X12_city Φ 0 0 71 [.ref 0, .int len] [] (mPS X c.1) o 0 0) ∧ (((mPS X c.1) 0 5) = 0 → (((mPS X c.1) 0 2) ≤ ((mPS X c.1) 0 4) → mWB l g d k_X12_city Φ 0 0 71 [.ref 0, .int len] [] (mPS X c.1) o 0 0) ∧ (¬ ((mPS X c.1) 0 2) ≤ ((mPS X c.1) 0 4) → True ∧ mCal l g d k_X12_city Φ 0 0 _ 61 k_X12_clause false [.ref 0] [] [.ref 0, .int len] (mPS X c.1) o 0 0 0))
    rw [mPS_5, mPS_f X c.1 (j := 2) (by decide) (by decide) (by decide), mPS_4, eX2, nI_leI (by omega) (by omega)]
    refine ⟨fun z => ?_, fun z => ⟨fun z2 => ?_, fun z2 => ?_⟩⟩
    · rw [ctF_no (fun y => z y.1)] at kk; exact kk X hR
    · rw [ctF_no (fun y => by omega)] at kk; exact kk X hR
    · rw [ctF_yes ⟨z, by omega⟩] at kk
      refine ⟨trivial, nCv htr (r_clause (by omega) hn h2 hok z hR (h7 z)) (by omega) ?_⟩
      rintro _ ⟨X', rfl, R', h7'⟩
      have hk := cl1_ok hok z
      have eX2' : X' 0 2 = nI n := by rw [R'.2.1 2 (by decide)]; exact h2
      have eX1' : X' 1 = X0 1 := R'.1 1 (by decide) (by unfold rdC; omega)
      show True ∧ mCal l g d k_X12_city Φ 0 0 _ 65 k_X12_blanks false [.ref 0] [] [.ref 0, .int len] (mPS X' (cl0 (X0 1) n c).1) o 0 0 0
      have hle : (cl0 (X0 1) n c).1.1 ≤ n := by
        have q := hk.1.1
        have q2 : (cl1 (X0 1) n c).1.1 = skp (X0 1) n (cl0 (X0 1) n c).1.1 := rfl
        rw [q2] at q
        by_cases y : (cl0 (X0 1) n c).1.1 ≤ n
        · exact y
        · rw [skp_no (by rw [bAt_end (by omega)]; decide)] at q
          exact q
      have hbl := q_blanks (l := l) (g := g) (d := d - 1) X' (cl0 (X0 1) n c).1 eX2' (by omega) (by omega) (by omega)
      rw [eX1'] at hbl
      refine ⟨trivial, fCv htr hbl (by omega) ?_⟩
      exact IH (cl1 (X0 1) n c) X' (fun y => by have := (hk.2 y).1; have := hf z; omega) hk.1 R' h7' kk
theorem r_city {m : Mm} (hm : cl m = A) {s : Nat} (hs : A 0 1 = nI s) (h6 : s ≤ 600) (hd : 9 ≤ d) (n : Int32) : mHi l g d k_X12_city [.ref 0, .int n] m (fun x m2 => (¬ isTx s 600 n → m2 0 0 = 1 ∧ cl m2 = mset A 2 1 (A 2 1 + 1)) ∧ ∀ k, n = nI k → k ≤ s → m2 0 0 = 0 ∧ ((ctR (A 1) k).1.2.1 ≠ 0 → x = (ctR (A 1) k).1.2.1 - 10 ∧ Ct0 A (ctR (A 1) k) (cl m2)) ∧ ((ctR (A 1) k).1.2.1 = 0 → x = nI ((ctR (A 1) k).2 2).length ∧ Ct1 A (ctR (A 1) k).2 (cl m2))) := by
  refine nBi 0 rfl rfl rfl (by decide) rfl (fun htr o Φ hΦ => mGoOn (mOk (by decide)) rfl [18,22] 400 ?_)
  show mCal l g d k_X12_city Φ 0 0 _ 12 k_X12_in false [.int n, .int (0 : Int32), .int ((mset m 0 0 (0 : Int32)) 0 1)] [.ref 0] [.ref 0, .int n] (mset m 0 0 (0 : Int32)) o 0 0 1
  have hC := Cn_0 hm
  generalize mset m 0 0 (0 : Int32) = M at hC ⊢
  clear hm
  have e1 : M 0 1 = nI s := by rw [clO hC.1 (by omega)]; exact hs
  have hcl : ∀ (m2 : Mm) a i, cl m2 a i = bif sc a i then 0 else m2 a i := fun _ _ _ => rfl
  have hA : ∀ a i, A a i = bif sc a i then 0 else M a i := fun a i => by rw [← hC.1]; rfl
  have bad : ¬ isTx s 600 n → mWB l g d k_X12_city Φ 0 0 18 [.ref 0, .int n] [.ref 0] M o 0 0 := by
    intro hb
    refine mGoOn (mOk (by decide)) rfl [42] 400 ?_
    show True ∧ mCal l g d k_X12_city Φ 0 0 _ 25 k_X12_bad false [.ref 0, .int (1 : Int32), .int (1 : Int32), .int (1 : Int32)] [] [.ref 0, .int n] M o 0 0 1
    refine ⟨trivial, fCi htr (r_bad1 hC.2 (t := 1) (j := 1) (by decide) (by decide)) (by omega) ?_⟩
    show ((1 : Int32) = 0 → True ∧ mCal l g d k_X12_city Φ 0 0 _ 35 k_X12_starts false [.ref 0, .int n] [] [.ref 0, .int n] (mset (mset M 0 0 (1 : Int32)) 2 1 (M 2 1 + 1)) o 0 0 0) ∧ (¬ (1 : Int32) = 0 → Φ (.inl (some (.int (0 : Int32)))) (mset (mset M 0 0 (1 : Int32)) 2 1 (M 2 1 + 1)) o ∧ 0 ≤ 0 ∧ 0 ≤ 0)
    have hq := rO_t hC.1 (t := 1) (j := 1) (by decide) (by decide) (r := 0)
    have hfin : Φ (.inl (some (.int (0 : Int32)))) (mset (mset M 0 0 (1 : Int32)) 2 1 (M 2 1 + 1)) o := hΦ _ _ ⟨fun _ => ⟨hq.1, hq.2.2 (show (1 : Int32) ≠ 0 by decide)⟩, fun k e h1 => absurd ⟨k, e, by omega, h1⟩ hb⟩
    exact br1b (eR hfin)
  have good : isTx s 600 n → mWB l g d k_X12_city Φ 0 0 22 [.ref 0, .int n] [.ref 0] M o 0 0 := by
    rintro ⟨k, rfl, hk, hks⟩
    refine mGoOn (mOk (by decide)) rfl [42] 400 ?_
    show True ∧ mCal l g d k_X12_city Φ 0 0 _ 25 k_X12_bad false [.ref 0, .int (0 : Int32), .int (1 : Int32), .int (1 : Int32)] [] [.ref 0, .int (nI k)] M o 0 0 1
    refine ⟨trivial, fCi htr (r_bad0 hC.2 _ _) (by omega) ?_⟩
    show ((0 : Int32) = 0 → True ∧ mCal l g d k_X12_city Φ 0 0 _ 35 k_X12_starts false [.ref 0, .int (nI k)] [] [.ref 0, .int (nI k)] M o 0 0 0) ∧ (¬ (0 : Int32) = 0 → Φ (.inl (some (.int (0 : Int32)))) M o ∧ 0 ≤ 0 ∧ 0 ≤ 0)
    refine br0b ⟨trivial, nCv htr (r_starts (n := k) (by omega) (by omega)) (by omega) ?_⟩
    rintro m2 ⟨X, rfl, hX⟩
    have eM1 : M 1 = A 1 := clF hC.1 (by omega)
    rw [eM1]
    show True ∧ mCal l g d k_X12_city Φ 0 0 _ 39 k_X12_tellsNothing false [.ref 0] [] [.ref 0, .int (nI k)] (mPS X (skp (A 1) k 0, 0, -1)) o 0 0 0
    refine ⟨trivial, nCv htr (r_tellsNothing _) (by omega) ?_⟩
    rintro Y0 ⟨w1, w2⟩
    have w0 := w1 0 (by decide)
    have eY : Y0 = mPS Y0 (skp (A 1) k 0, 0, -1) := mPS_at Y0 (by rw [w0, mPS_4]) (by rw [w0, mPS_5]) (by rw [w0, mPS_6])
    have y2 : Y0 0 2 = nI k := by rw [w0, mPS_f _ _ (by decide) (by decide) (by decide)]; exact hX.2.2.2.1
    have y7 : Y0 0 7 = 0 := by rw [w0, mPS_f _ _ (by decide) (by decide) (by decide)]; exact hX.2.2.2.2.1
    have ya : ∀ a, a ≠ 0 → a ≠ 3 → Y0 a = M a := fun a h1 h2 => by rw [w1 a h2, mPS_o _ _ h1]; exact hX.1 a h1
    have y0 : ∀ i, i ≠ 1 → i ≠ 2 → i ≠ 4 → i ≠ 5 → i ≠ 6 → i ≠ 7 → i ≠ 8 → Y0 0 i = M 0 i := fun i a b c e f g h => by rw [w0, mPS_f _ _ c e f]; exact hX.2.1 i a b c e f g h
    have y01 : Y0 0 1 = 0 := by rw [w0, mPS_f _ _ (by decide) (by decide) (by decide)]; exact hX.2.2.1
    have eY1 : Y0 1 = A 1 := (ya 1 (by decide) (by decide)).trans eM1
    rw [eY]
    clear eY w0 w1
    have hok := ctR_ok (T := A 1) (n := k)
    have hcont : ∀ x m2, (m2 0 0 = 0 ∧ ((ctR (A 1) k).1.2.1 ≠ 0 → x = (ctR (A 1) k).1.2.1 - 10 ∧ Ct0 A (ctR (A 1) k) (cl m2)) ∧ ((ctR (A 1) k).1.2.1 = 0 → x = nI ((ctR (A 1) k).2 2).length ∧ Ct1 A (ctR (A 1) k).2 (cl m2))) → Φ (.inl (some (.int x))) m2 o := by
      intro x m2 q
      refine hΦ x m2 ⟨fun z => absurd ⟨k, rfl, hk, hks⟩ z, fun k2 e h1 => ?_⟩
      rw [nI_eq (by omega) (by omega)] at e
      subst e
      exact q
    refine r_cityL htr o (by omega) (X0 := Y0) (n := k) (by omega) y2 (nI k) k ((skp (A 1) k 0, 0, -1), fun _ => []) Y0 (fun _ => Nat.sub_le _ _) (by rw [eY1]; exact ct_ini) ⟨fun _ _ _ => rfl, fun _ _ => rfl, fun j hj => w2 j hj, fun i hi => absurd hi (Nat.not_lt_zero _), fun i hi => absurd hi (Nat.not_lt_zero _), fun i hi => absurd hi (Nat.not_lt_zero _), fun i hi => absurd hi (Nat.not_lt_zero _)⟩ (fun _ => y7) ?_
    rw [eY1]
    show ∀ X', RCt Y0 (ctR (A 1) k).2 X' → mWB l g d k_X12_city Φ 0 0 71 [.ref 0, .int (nI k)] [] (mPS X' (ctR (A 1) k).1) o 0 0
    generalize ctR (A 1) k = c at hok hcont
    intro X' hR
    refine mGoOn (mOk (by decide)) rfl [] 400 ?_
    show (((mPS X' c.1) 0 5) = 0 → True ∧ mCal l g d k_X12_city Φ 0 0 _ 89 k_X12_beginsAnew false [.ref 0] [] [.ref 0, .int (nI k)] (mset (mPS X' c.1) 0 3 (-1 : Int32)) o 0 0 0) ∧ (¬ ((mPS X' c.1) 0 5) = 0 → True ∧ mCal l g d k_X12_city Φ 0 0 _ 79 k_X12_ends false [.ref 0] [] [.ref 0, .int (nI k)] (mPS X' c.1) o 0 0 1)
    rw [mPS_5]
    have e0 : ∀ i, i ≠ 1 → i ≠ 2 → i ≠ 4 → i ≠ 5 → i ≠ 6 → i ≠ 7 → i ≠ 8 → X' 0 i = M 0 i := fun i a b c e f g h => (hR.2.1 i g).trans (y0 i a b c e f g h)
    have ea : ∀ a, a ≠ 0 → ¬ rdC a → X' a = M a := fun a h1 h2 => (hR.1 a h1 h2).trans (ya a h1 (fun q => h2 (Or.inl q)))
    have e01 : X' 0 1 = 0 := (hR.2.1 1 (by decide)).trans y01
    refine ⟨fun z => ?_, fun z => ⟨trivial, fCi htr (r_ends X' c.1) (by omega) (eR (hcont _ _ ⟨?_, fun _ => ⟨rfl, fun a h1 h2 => ?_, fun i h1 h2 h3 h4 h5 h6 h7 h8 _ => ?_, ?_, ?_⟩, fun y => absurd y z⟩))⟩⟩
    · have l0 : (c.2 0).length ≤ 9 := (hok.2.2.2 0 (by decide)).1
      have l1 : (c.2 1).length ≤ 14 := (hok.2.2.2 1 (by decide)).1
      have l2 : (c.2 2).length ≤ 6 := (hok.2.2.2 2 (by decide)).1
      have l3 : (c.2 3).length ≤ 8 := (hok.2.2.2 3 (by decide)).1
      have hb := r_beginsAnew (l := l) (g := g) (d := d - 1) (m := mset (mPS X' c.1) 0 3 (-1)) (t := fun k => (c.2 k).length) (fun k hk => by rw [mset_ne _ _ _ (by decide), mPS_o _ _ (by decide)]; exact hR.2.2.1 k hk) l0 l1 l2 l3 (by omega)
      refine ⟨trivial, nCv htr hb (by omega) ?_⟩
      rintro m5 ⟨m3, hB, f1, f0, fz, fn⟩
      have hx : ∀ a, a ≠ 0 → mset (mPS X' c.1) 0 3 (-1) a = X' a := fun a ha => by rw [mset_ne _ _ _ ha, mPS_o _ _ ha]
      have hx0 : ∀ i, i ≠ 3 → i ≠ 4 → i ≠ 5 → i ≠ 6 → mset (mPS X' c.1) 0 3 (-1) 0 i = X' 0 i := fun i h3 h4 h5 h6 => by rw [mset_eq, pk_un h3, mPS_f _ _ h4 h5 h6]
      have e42 : m5 4 2 = nI (c.2 2).length := by rw [f1 4 (by decide) (by decide)]; exact hB.2.1 2 (by decide)
      show Φ (.inl (some (.int (m5 4 2)))) m5 o ∧ 0 ≤ 0 ∧ 0 ≤ 0
      rw [e42]
      have hT := hR.2.2.2
      refine mReq_i rfl (eR (hcont _ _ ⟨?_, fun y => absurd z y, fun _ => ⟨rfl, fun a h1 h2 h3 h4 => ?_, ⟨fun i h1 h2 h3 h4 h5 h6 h7 h8 hn => ?_, ?_, ?_⟩, ⟨?_, ?_, ?_, ?_, ?_⟩, fun j hj => ?_, fun i hi => ?_, fun i hi => ?_, fun i hi => ?_, fun i hi => ?_, fun i hi => ?_⟩⟩))
      · rw [f0 0 (by decide) (by decide) (by decide) (by decide) (by decide), hx0 0 (by decide) (by decide) (by decide) (by decide), e0 0 (by decide) (by decide) (by decide) (by decide) (by decide) (by decide) (by decide)]; exact hC.2
      · funext i
        unfold cyC at h3
        rw [hcl, hA, f1 a h1 h4, hB.1 a (by omega) (by omega) (by omega) (by omega) (by omega), hx a h1, ea a h1 h2]
      · rw [hcl, hA, f0 i (by omega) (by omega) (by omega) (by omega) (by omega), hx0 i h3 h4 h5 h6, e0 i h1 h2 h4 h5 h6 h7 h8]
      · rw [hcl, show sc 0 1 = false from rfl, cond_false, f0 1 (by decide) (by decide) (by decide) (by decide) (by decide), hx0 1 (by decide) (by decide) (by decide) (by decide)]; exact e01
      · rw [hcl, show sc 0 3 = false from rfl, cond_false, f0 3 (by decide) (by decide) (by decide) (by decide) (by decide), mset_eq, pk_us]
      · rw [hcl, show sc 0 21 = false from rfl, cond_false]; exact fz.1
      · rw [hcl, show sc 0 35 = false from rfl, cond_false]; exact fz.2.1
      · rw [hcl, show sc 0 36 = false from rfl, cond_false]; exact fz.2.2.1
      · rw [hcl, show sc 0 37 = false from rfl, cond_false]; exact fz.2.2.2.1
      · rw [hcl, show sc 0 38 = false from rfl, cond_false]; exact fz.2.2.2.2
      · rw [hcl, sc_cy 4 (by decide) (by decide), cond_false, f1 4 (by decide) (by decide)]; exact hB.2.1 j hj
      · rw [hcl, sc_cy 6 (by decide) (by decide), cond_false, f1 6 (by decide) (by decide), hB.2.2.1 i hi, hx 5 (by decide)]; exact hT.1 i hi
      · rw [hcl, hcl, sc_cy (23 + i) (by omega) (by omega), sc_cy (23 + i) (by omega) (by omega), cond_false, cond_false, f1 (23 + i) (by omega) (by omega), hB.2.2.2.1 i hi 0 (by decide), hB.2.2.2.1 i hi 1 (by decide), hx (8 + i) (by omega)]; exact hT.2.1 i hi
      · rw [hcl, hcl, hcl, sc_cy (45 + i) (by omega) (by omega), sc_cy (45 + i) (by omega) (by omega), sc_cy (45 + i) (by omega) (by omega), cond_false, cond_false, cond_false, f1 (45 + i) (by omega) (by omega), hB.2.2.2.2.1 i hi 0 (by decide), hB.2.2.2.2.1 i hi 1 (by decide), hB.2.2.2.2.1 i hi 2 (by decide), hx (38 + i) (by omega)]; exact hT.2.2.1 i hi
      · rw [hcl, hcl, sc_cy (61 + i) (by omega) (by omega), sc_cy (61 + i) (by omega) (by omega), cond_false, cond_false, f1 (61 + i) (by omega) (by omega), hB.2.2.2.2.2 i hi 0 (by decide), hB.2.2.2.2.2 i hi 1 (by decide), hx (52 + i) (by omega)]; exact hT.2.2.2 i hi
      · rw [hcl, show sc 494 i = false from rfl, cond_false, fn i hi]
        unfold nowN nowC
        by_cases q : i < (c.2 2).length
        · rw [if_pos q, if_pos q, hx (38 + i) (by omega)]; exact (hT.2.2.1 i q).1
        · rw [if_neg q, if_neg q]
    · rw [mPS_f _ _ (by decide) (by decide) (by decide), mset_eq, pk_un (by decide), e0 0 (by decide) (by decide) (by decide) (by decide) (by decide) (by decide) (by decide)]; exact hC.2
    · funext i
      rw [hcl, hA, mPS_o _ _ h1, mset_ne _ _ _ h1, ea a h1 h2]
    · rw [hcl, hA, mPS_f _ _ h4 h5 h6, mset_eq, pk_un h3, e0 i h1 h2 h4 h5 h6 h7 h8]
    · rw [hcl, show sc 0 1 = false from rfl, cond_false, mPS_f _ _ (by decide) (by decide) (by decide), mset_eq, pk_un (by decide)]; exact e01
    · rw [hcl, show sc 0 3 = false from rfl, cond_false, mPS_f _ _ (by decide) (by decide) (by decide), mset_eq, pk_us]
  rw [e1]
  refine fCi htr (q_in _ _ _ _) (by omega) ?_
  show (¬ (pI (0 ≤ n ∧ n ≤ nI s)) = 0 → mWB l g d k_X12_city Φ 0 0 22 [.ref 0, .int n] [.ref 0] M o 0 0) ∧ ((pI (0 ≤ n ∧ n ≤ nI s)) = 0 → mWB l g d k_X12_city Φ 0 0 18 [.ref 0, .int n] [.ref 0] M o 0 0)
  have key : 0 ≤ n ∧ n ≤ nI s → ∃ k, n = nI k ∧ k ≤ s := fun q => by
    have h1 := (fa_le _ _).mp q.1
    have h2 := (fa_le _ _).mp q.2
    rw [nI_toInt (by omega)] at h2
    have e0 : (0 : Int32).toInt = 0 := rfl
    refine ⟨n.toInt.toNat, ?_, by omega⟩
    rw [fa_eq, nI_toInt (by omega)]
    omega
  refine ⟨fun q => good ?_, fun q => bad (fun y => ?_)⟩
  · obtain ⟨k, rfl, h1⟩ := key (pI_1.mp q)
    exact ⟨k, rfl, by omega, h1⟩
  · obtain ⟨k, rfl, h1, h2⟩ := y
    refine pI_0.mp q ⟨?_, by rw [nI_leI (by omega) (by omega)]; exact h2⟩
    rw [show (0 : Int32) = nI 0 from rfl, nI_leI (by decide) (by omega)]
    exact Nat.zero_le _
end R43
