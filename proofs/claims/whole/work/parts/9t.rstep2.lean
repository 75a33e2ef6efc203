set_option maxRecDepth 100000
/-- the row of a step but for its end -/
def rowP (X : Mm) (i : Nat) (e : W5) : Prop := X (414 + i) 0 = nI e.1 ∧ (e.1 < 3 ∨ e.1 = 4 → X (414 + i) 1 = nI e.2.1) ∧ (e.1 = 0 → X (414 + i) 2 = nI e.2.2.1)
def RWp (X0 : Mm) (k c : Nat) (a : WA) (g : Prop) (X : Mm) : Prop := (∀ x, x ≠ 0 → x < 414 ∨ 493 < x → X x = X0 x) ∧ (∀ i, i ≠ 8 → i ≠ 30 → X 0 i = X0 0 i) ∧ X 0 8 = nI k ∧ (g → X 0 30 = nI a.1 ∧ (∀ i, i < a.1 → i ≠ c → rowW X i (a.2 i)) ∧ rowP X c (a.2 c) ∧ (a.2 c).2.2.2.1 = a.1)
section R45
variable {l : Launch} {g : mG} {d n : Nat} {X0 : Mm} {Φ : mR → Mm → Int64 → Prop}
theorem r_st181 (htr : l.stackTraces = false) (o : Int64) (hd : 3 ≤ d) (hn : n ≤ 150) (h2 : X0 0 2 = nI n) {k c : Nat} (hc : c < 80) {Y : Mm} {p : PS} {a : WA} (hp : p.1 ≤ n) (v : Int32) (hR : RWp X0 k c a (p.2.1 = 0) Y) (hΦ : ∀ X', RWk X0 k a ((pSgn (X0 1) n 59 p).2.1 = 0) X' → Φ (.inl none) (mPS X' (pSgn (X0 1) n 59 p)) o) : mWB l g d k_X12_readsStep Φ 0 0 181 [.ref 0, .int v, .ref (414 + c)] [] (mPS Y p) o 0 0 := by
  refine mGoOn (mOk (by decide)) rfl [] 400 ?_
  show mReq (mIsB (414 + c) 1) (mReq (mInB (3 : Int32) (mLn (414 + c))) (True ∧ mCal l g d k_X12_readsStep Φ 0 0 _ 191 k_X12_sign false [.ref 0, .int (59 : Int32)] [] [.ref 0, .int v, .ref (414 + c)] (mset (mPS Y p) (414 + c) 3 ((mPS Y p) 0 30)) o 0 0 0))
  rw [sB_5 (by omega), sL_5 (by omega), mPS_f _ _ (by decide) (by decide) (by decide), mPS_set _ _ (by omega)]
  have y2 : mset Y (414 + c) 3 (Y 0 30) 0 2 = nI n := by rw [mset_ne _ _ _ (by omega), hR.2.1 2 (by decide) (by decide)]; exact h2
  have y1 : mset Y (414 + c) 3 (Y 0 30) 1 = X0 1 := by rw [mset_ne _ _ _ (by omega)]; exact hR.1 1 (by decide) (by omega)
  have hsg := r_sign (l := l) (g := g) (d := d - 1) (mset Y (414 + c) 3 (Y 0 30)) p y2 (by omega) hp (by omega) 59
  rw [y1] at hsg
  refine mReq_i rfl (mReq_i rfl ⟨trivial, fCv htr hsg (by omega) (eR (hΦ _ ⟨fun x x1 x2 => ?_, fun i i1 i2 => ?_, ?_, fun q => ?_⟩))⟩)
  · rw [mset_ne _ _ _ (by omega)]; exact hR.1 x x1 x2
  · rw [mset_ne _ _ _ (by omega)]; exact hR.2.1 i i1 i2
  · rw [mset_ne _ _ _ (by omega)]; exact hR.2.2.1
  · obtain ⟨q1, q2, q3, q4⟩ := hR.2.2.2 ((pSgn_ok (by decide) hp).2 q).1
    refine ⟨by rw [mset_ne _ _ _ (by omega)]; exact q1, fun i hi => ?_⟩
    by_cases e : i = c
    · subst e
      unfold rowW
      rw [mset_eq, pk_un (by decide), pk_un (by decide), pk_un (by decide), pk_us, q4, q1]
      exact ⟨q3.1, q3.2.1, q3.2.2, fun _ => rfl⟩
    · unfold rowW
      rw [mset_ne _ _ _ (by omega)]
      exact q2 i hi e
/-- numbers of a step that goes, calls, turns or waits -/
theorem r_st40 (htr : l.stackTraces = false) (o : Int64) (hd : 5 ≤ d) (hn : n ≤ 150) (h2 : X0 0 2 = nI n) {M S : Nat} (h42 : X0 4 2 = nI M) (h40 : X0 4 0 = nI S) (hM : M ≤ 6) (hS : S ≤ 9) {k kd : Nat} (hkd : kd < 4) {X : Mm} {s : QW} (hf : s.1.2.1 = 0) (hp : s.1.1 ≤ n) (hsw : s.1.1 + 2 ≤ swd (X0 1) n (n - s.1.1) s.1.1 ∧ swd (X0 1) n (n - s.1.1) s.1.1 ≤ n) (hc : 2 * s.2.1 ≤ s.1.1) (hR : RWk X0 k s.2 True X)
    (hΦ : ∀ X', RWk X0 k (wAdd s.2 (kd, (wB (X0 1) n M S kd (swd (X0 1) n (n - s.1.1) s.1.1, s.1.2)).2.1, (wB (X0 1) n M S kd (swd (X0 1) n (n - s.1.1) s.1.1, s.1.2)).2.2, s.2.1 + 1, k)) ((pSgn (X0 1) n 59 (wB (X0 1) n M S kd (swd (X0 1) n (n - s.1.1) s.1.1, s.1.2)).1).2.1 = 0) X' → Φ (.inl none) (mPS X' (pSgn (X0 1) n 59 (wB (X0 1) n M S kd (swd (X0 1) n (n - s.1.1) s.1.1, s.1.2)).1)) o) : mWB l g d k_X12_readsStep Φ 0 0 40 [.ref 0, .int (nI kd), mJ] [] (mPS X s.1) o 0 0 := by
  obtain ⟨s1, s2⟩ := hsw
  have eX2 : X 0 2 = nI n := by rw [hR.2.1 2 (by decide) (by decide)]; exact h2
  have eX1 : X 1 = X0 1 := hR.1 1 (by decide) (by omega)
  have e30 : X 0 30 = nI s.2.1 := (hR.2.2.2 trivial).1
  have hc80 : s.2.1 < 80 := by omega
  refine mGoOn (mOk (by decide)) rfl [89,109,134,181] 400 ?_
  show True ∧ mCal l g d k_X12_readsStep Φ 0 0 _ 41 k_X12_skipWord false [.ref 0] [] [.ref 0, .int (nI kd), mJ] (mPS X s.1) o 0 0 0
  have hsk := r_skipWord (l := l) (g := g) (d := d - 1) X s.1 eX2 (by omega) hp (by omega)
  rw [eX1, show pSkw (X0 1) n s.1 = (swd (X0 1) n (n - s.1.1) s.1.1, s.1.2) from rfl] at hsk
  refine ⟨trivial, fCv htr hsk (by omega) ?_⟩
  generalize hP1 : ((swd (X0 1) n (n - s.1.1) s.1.1, s.1.2) : PS) = p1 at hΦ ⊢
  have hp1 : p1.1 ≤ n := by rw [← hP1]; exact s2
  have hpf : p1.2.1 = 0 := by rw [← hP1]; exact hf
  show mReq (mInB ((mPS X p1) 0 30) 80) ((Value.ref 0).category = 1 ∧ (mReq (mIsB (mRF 413 (((mPS X p1) 0 30).toNatClampNeg)) 1) (mReq (mInB (0 : Int32) (mLn (mRF 413 (((mPS X p1) 0 30).toNatClampNeg)))) (((3 : Int32) ≤ (nI kd) → mWB l g d k_X12_readsStep Φ 0 0 89 [.ref 0, .int (nI kd), .ref (mRF 413 (((mPS X p1) 0 30).toNatClampNeg))] [] (mset (mset (mPS X p1) 0 30 (((mPS X p1) 0 30) + (1 : Int32))) (mRF 413 (((mPS X p1) 0 30).toNatClampNeg)) 0 (nI kd)) o 0 0) ∧ (¬ (3 : Int32) ≤ (nI kd) → True ∧ mCal l g d k_X12_readsStep Φ 0 0 _ 85 k_X12_number false [.ref 0, .int (0 : Int32), .int (((mset (mset (mPS X p1) 0 30 (((mPS X p1) 0 30) + (1 : Int32))) (mRF 413 (((mPS X p1) 0 30).toNatClampNeg)) 0 (nI kd)) 4 2) - (1 : Int32))] [.int (1 : Int32), .ref (mRF 413 (((mPS X p1) 0 30).toNatClampNeg))] [.ref 0, .int (nI kd), .ref (mRF 413 (((mPS X p1) 0 30).toNatClampNeg))] (mset (mset (mPS X p1) 0 30 (((mPS X p1) 0 30) + (1 : Int32))) (mRF 413 (((mPS X p1) 0 30).toNatClampNeg)) 0 (nI kd)) o 0 0 1)))))
  have e30' : mPS X p1 0 30 = nI s.2.1 := by rw [mPS_f _ _ (by decide) (by decide) (by decide)]; exact e30
  rw [e30', nI_1, mIn_ok hc80 (by decide), nI_cl (by omega), rf_413, sB_5 (by omega), sL_5 (by omega), mPS_set0 _ _ (by decide) (by decide) (by decide), mPS_set _ _ (by omega), show (3 : Int32) = nI 3 from rfl, nI_leI (by decide) (by omega)]
  have hY : ∀ x, x ≠ 0 → x ≠ 414 + s.2.1 → mset (mset X 0 30 (nI (s.2.1 + 1))) (414 + s.2.1) 0 (nI kd) x = X x := fun x x1 x2 => by rw [mset_ne _ _ _ x2, mset_ne _ _ _ x1]
  have hY0 : ∀ i, i ≠ 30 → mset (mset X 0 30 (nI (s.2.1 + 1))) (414 + s.2.1) 0 (nI kd) 0 i = X 0 i := fun i hi => by rw [mset_ne _ _ _ (by omega), mset_eq, pk_un hi]
  have hY30 : mset (mset X 0 30 (nI (s.2.1 + 1))) (414 + s.2.1) 0 (nI kd) 0 30 = nI (s.2.1 + 1) := by rw [mset_ne _ _ _ (by omega), mset_eq, pk_us]
  have hYr : mset (mset X 0 30 (nI (s.2.1 + 1))) (414 + s.2.1) 0 (nI kd) (414 + s.2.1) 0 = nI kd := by rw [mset_eq, pk_us]
  generalize mset (mset X 0 30 (nI (s.2.1 + 1))) (414 + s.2.1) 0 (nI kd) = Y at hY hY0 hY30 hYr ⊢
  have y2 : Y 0 2 = nI n := by rw [hY0 2 (by decide)]; exact eX2
  have y1 : Y 1 = X0 1 := by rw [hY 1 (by decide) (by omega)]; exact eX1
  have y42 : mPS Y p1 4 2 = nI M := by rw [mPS_o _ _ (by decide), hY 4 (by decide) (by omega), hR.1 4 (by decide) (by omega)]; exact h42
  have hfr : ∀ (Z : Mm) (e : W5) (p : PS), (∀ x, x ≠ 414 + s.2.1 → Z x = Y x) → rowP Z s.2.1 e → e.2.2.2.1 = s.2.1 + 1 → RWp X0 k s.2.1 (wAdd s.2 e) (p.2.1 = 0) Z := by
    intro Z e p hZ he hend
    have eF : (wAdd s.2 e).2 s.2.1 = e := if_pos rfl
    refine ⟨fun x x1 x2 => ?_, fun i i1 i2 => ?_, ?_, fun _ => ⟨?_, fun i hi hne => ?_, ?_, ?_⟩⟩
    · rw [hZ x (by omega), hY x x1 (by omega)]; exact hR.1 x x1 x2
    · rw [hZ 0 (by omega), hY0 i i2]; exact hR.2.1 i i1 i2
    · rw [hZ 0 (by omega), hY0 8 (by decide)]; exact hR.2.2.1
    · rw [hZ 0 (by omega)]; exact hY30
    · have hi' : i < s.2.1 + 1 := hi
      have eFi : (wAdd s.2 e).2 i = s.2.2 i := if_neg hne
      rw [eFi]
      unfold rowW
      rw [hZ (414 + i) (by omega), hY (414 + i) (by omega) (by omega)]
      exact (hR.2.2.2 trivial).2 i (by omega)
    · rw [eF]; exact he
    · rw [eF]; exact hend
  have ewB : wB (X0 1) n M S kd p1 = if kd = 0 then ((pNum (X0 1) n 0 (nI S - 1) (pNum (X0 1) n 0 (nI M - 1) p1).2).2, nv (pNum (X0 1) n 0 (nI M - 1) p1).1, nv (pNum (X0 1) n 0 (nI S - 1) (pNum (X0 1) n 0 (nI M - 1) p1).2).1) else if kd < 3 then ((pNum (X0 1) n 0 (nI M - 1) p1).2, nv (pNum (X0 1) n 0 (nI M - 1) p1).1, 0) else (p1, 0, 0) := rfl
  rw [ewB] at hΦ
  clear ewB
  refine mReq_i rfl ⟨rfl, mReq_i rfl (mReq_i rfl ⟨fun h3 => ?_, fun h3 => ?_⟩)⟩
  · have ekd : kd = 3 := by omega
    subst ekd
    rw [if_neg (by decide), if_neg (by decide)] at hΦ
    refine mGoOn (mOk (by decide)) rfl [109,181] 400 ?_
    show (¬ (nI 3) = 0 → mWB l g d k_X12_readsStep Φ 0 0 109 [.ref 0, .int (nI 3), .ref (414 + s.2.1)] [] (mPS Y p1) o 0 0) ∧ ((nI 3) = 0 → True ∧ mCal l g d k_X12_readsStep Φ 0 0 _ 105 k_X12_number false [.ref 0, .int (0 : Int32), .int (((mPS Y p1) 4 0) - (1 : Int32))] [.int (2 : Int32), .ref (414 + s.2.1)] [.ref 0, .int (nI 3), .ref (414 + s.2.1)] (mPS Y p1) o 0 0 1)
    refine ⟨fun _ => ?_, fun y => absurd y (by decide)⟩
    refine mGoOn (mOk (by decide)) rfl [134,181] 400 ?_
    show (¬ (nI 3) = (4 : Int32) → mWB l g d k_X12_readsStep Φ 0 0 181 [.ref 0, .int (nI 3), .ref (414 + s.2.1)] [] (mPS Y p1) o 0 0) ∧ ((nI 3) = (4 : Int32) → True ∧ mCal l g d k_X12_readsStep Φ 0 0 _ 120 k_X12_number false [.ref 0, .int (0 : Int32), .int (60 : Int32)] [.int (1 : Int32), .ref (414 + s.2.1)] [.ref 0, .int (nI 3), .ref (414 + s.2.1)] (mPS Y p1) o 0 0 1)
    refine ⟨fun _ => ?_, fun y => absurd y (by decide)⟩
    exact r_st181 htr o (by omega) hn h2 hc80 hp1 _ (hfr Y (3, 0, 0, s.2.1 + 1, k) p1 (fun _ _ => rfl) ⟨hYr, fun z => absurd z (by show ¬ (3 < 3 ∨ 3 = 4); decide), fun z => absurd z (by show ¬ 3 = 0; decide)⟩ rfl) hΦ
  · have hkd3 : kd < 3 := by omega
    rw [y42]
    have hnum := r_number (l := l) (g := g) (d := d - 1) Y p1 y2 (by omega) hp1 (by omega) 0 (nI M - 1)
    rw [y1] at hnum
    refine mReq_i rfl ⟨trivial, fCi htr hnum (by omega) ?_⟩
    have k1 := (pNum_ok (T := X0 1) (lo := 0) (hi := nI M - 1) hp1).1
    have v1 := (num_nv (T := X0 1) (n := n) (N := M) (by omega) hp1).1
    generalize pNum (X0 1) n 0 (nI M - 1) p1 = r1 at k1 v1 hΦ ⊢
    show mReq (mIsB (414 + s.2.1) 1) (mReq (mInB (1 : Int32) (mLn (414 + s.2.1))) (mWB l g d k_X12_readsStep Φ 0 0 89 [.ref 0, .int (nI kd), .ref (414 + s.2.1)] [] (mset (mPS Y r1.2) (414 + s.2.1) 1 r1.1) o 0 0))
    rw [sB_5 (by omega), sL_5 (by omega), mPS_set _ _ (by omega), v1]
    have hZ : ∀ x, x ≠ 414 + s.2.1 → mset Y (414 + s.2.1) 1 (nI (nv r1.1)) x = Y x := fun x hx => mset_ne _ _ _ hx
    have hZ0 : mset Y (414 + s.2.1) 1 (nI (nv r1.1)) (414 + s.2.1) 0 = nI kd := by rw [mset_eq, pk_un (by decide)]; exact hYr
    have hZ1 : mset Y (414 + s.2.1) 1 (nI (nv r1.1)) (414 + s.2.1) 1 = nI (nv r1.1) := by rw [mset_eq, pk_us]
    generalize mset Y (414 + s.2.1) 1 (nI (nv r1.1)) = Z at hZ hZ0 hZ1 ⊢
    refine mReq_i rfl (mReq_i rfl ?_)
    refine mGoOn (mOk (by decide)) rfl [109,134,181] 400 ?_
    show (¬ (nI kd) = 0 → mWB l g d k_X12_readsStep Φ 0 0 109 [.ref 0, .int (nI kd), .ref (414 + s.2.1)] [] (mPS Z r1.2) o 0 0) ∧ ((nI kd) = 0 → True ∧ mCal l g d k_X12_readsStep Φ 0 0 _ 105 k_X12_number false [.ref 0, .int (0 : Int32), .int (((mPS Z r1.2) 4 0) - (1 : Int32))] [.int (2 : Int32), .ref (414 + s.2.1)] [.ref 0, .int (nI kd), .ref (414 + s.2.1)] (mPS Z r1.2) o 0 0 1)
    have z40 : mPS Z r1.2 4 0 = nI S := by rw [mPS_o _ _ (by decide), hZ 4 (by omega), hY 4 (by decide) (by omega), hR.1 4 (by decide) (by omega)]; exact h40
    rw [z40]
    refine ⟨fun y0 => ?_, fun y0 => ?_⟩
    · have hk0 : kd ≠ 0 := fun e => y0 (by rw [e]; rfl)
      rw [if_neg hk0, if_pos hkd3] at hΦ
      refine mGoOn (mOk (by decide)) rfl [134,181] 400 ?_
      show (¬ (nI kd) = (4 : Int32) → mWB l g d k_X12_readsStep Φ 0 0 181 [.ref 0, .int (nI kd), .ref (414 + s.2.1)] [] (mPS Z r1.2) o 0 0) ∧ ((nI kd) = (4 : Int32) → True ∧ mCal l g d k_X12_readsStep Φ 0 0 _ 120 k_X12_number false [.ref 0, .int (0 : Int32), .int (60 : Int32)] [.int (1 : Int32), .ref (414 + s.2.1)] [.ref 0, .int (nI kd), .ref (414 + s.2.1)] (mPS Z r1.2) o 0 0 1)
      rw [show (4 : Int32) = nI 4 from rfl, nI_eq (by omega) (by decide)]
      refine ⟨fun _ => ?_, fun y => absurd y (by omega)⟩
      exact r_st181 htr o (by omega) hn h2 hc80 k1 _ (hfr Z (kd, nv r1.1, 0, s.2.1 + 1, k) r1.2 hZ ⟨hZ0, fun _ => hZ1, fun z => absurd z hk0⟩ rfl) hΦ
    · have hk0 : kd = 0 := by
        have y1' : nI kd = nI 0 := y0
        rw [nI_eq (by omega) (by decide)] at y1'
        exact y1'
      subst hk0
      rw [if_pos rfl] at hΦ
      have z2 : Z 0 2 = nI n := by rw [hZ 0 (by omega)]; exact y2
      have z1 : Z 1 = X0 1 := by rw [hZ 1 (by omega)]; exact y1
      have hnum2 := r_number (l := l) (g := g) (d := d - 1) Z r1.2 z2 (by omega) k1 (by omega) 0 (nI S - 1)
      rw [z1] at hnum2
      refine mReq_i rfl ⟨trivial, fCi htr hnum2 (by omega) ?_⟩
      have k2 := (pNum_ok (T := X0 1) (lo := 0) (hi := nI S - 1) k1).1
      have v2 := (num_nv (T := X0 1) (n := n) (N := S) (by omega) k1).1
      generalize pNum (X0 1) n 0 (nI S - 1) r1.2 = r2 at k2 v2 hΦ ⊢
      show mReq (mIsB (414 + s.2.1) 1) (mReq (mInB (2 : Int32) (mLn (414 + s.2.1))) (mWB l g d k_X12_readsStep Φ 0 0 109 [.ref 0, .int (nI 0), .ref (414 + s.2.1)] [] (mset (mPS Z r2.2) (414 + s.2.1) 2 r2.1) o 0 0))
      rw [sB_5 (by omega), sL_5 (by omega), mPS_set _ _ (by omega), v2]
      refine mReq_i rfl (mReq_i rfl ?_)
      refine mGoOn (mOk (by decide)) rfl [134,181] 400 ?_
      show (¬ (nI 0) = (4 : Int32) → mWB l g d k_X12_readsStep Φ 0 0 181 [.ref 0, .int (nI 0), .ref (414 + s.2.1)] [] (mPS (mset Z (414 + s.2.1) 2 (nI (nv r2.1))) r2.2) o 0 0) ∧ ((nI 0) = (4 : Int32) → True ∧ mCal l g d k_X12_readsStep Φ 0 0 _ 120 k_X12_number false [.ref 0, .int (0 : Int32), .int (60 : Int32)] [.int (1 : Int32), .ref (414 + s.2.1)] [.ref 0, .int (nI 0), .ref (414 + s.2.1)] (mPS (mset Z (414 + s.2.1) 2 (nI (nv r2.1))) r2.2) o 0 0 1)
      refine ⟨fun _ => ?_, fun y => absurd y (by decide)⟩
      refine r_st181 htr o (by omega) hn h2 hc80 k2 _ (hfr (mset Z (414 + s.2.1) 2 (nI (nv r2.1))) (0, nv r1.1, nv r2.1, s.2.1 + 1, k) r2.2 (fun x hx => by rw [mset_ne _ _ _ hx]; exact hZ x hx) ⟨?_, fun _ => ?_, fun _ => ?_⟩ rfl) hΦ
      · rw [mset_eq, pk_un (by decide)]; exact hZ0
      · rw [mset_eq, pk_un (by decide)]; exact hZ1
      · rw [mset_eq, pk_us]
end R45
