set_option maxRecDepth 100000
def rwC (k : Nat) (D : CD) : Nat := if k = 0 then 5 else if k = 1 then 8 + (D 1).length else if k = 2 then 38 + (D 2).length else 52 + (D 3).length
theorem rwC_in {k : Nat} {D : CD} (hk : k < 4) (hD : cDok D) (hm : (D k).length ≠ most k) : (k = 0 → rwC k D = 5) ∧ (k = 1 → rwC k D = 8 + (D 1).length ∧ (D 1).length < 14) ∧ (k = 2 → rwC k D = 38 + (D 2).length ∧ (D 2).length < 6) ∧ (k = 3 → rwC k D = 52 + (D 3).length ∧ (D 3).length < 8) := by
  refine ⟨fun e => ?_, fun e => ?_, fun e => ?_, fun e => ?_⟩
  · subst e; rfl
  · subst e; have h1 : (D 1).length ≤ 14 := (hD.2 1 hk).1; have h2 : (D 1).length ≠ 14 := hm; exact ⟨rfl, by omega⟩
  · subst e; have h1 : (D 2).length ≤ 6 := (hD.2 2 hk).1; have h2 : (D 2).length ≠ 6 := hm; exact ⟨rfl, by omega⟩
  · subst e; have h1 : (D 3).length ≤ 8 := (hD.2 3 hk).1; have h2 : (D 3).length ≠ 8 := hm; exact ⟨rfl, by omega⟩
theorem RCt_row {X0 Y Y' : Mm} {D : CD} {k : Nat} (hk : k < 4) (hR : RCt X0 D Y) (hD : cDok D) (hm : (D k).length ≠ most k) (h : ∀ a, a ≠ rwC k D → Y' a = Y a) (h5 : k = 0 → ∀ i, i ≠ (D 0).length → Y' 5 i = Y 5 i) : RCt X0 D Y' := by
  obtain ⟨w0, w1, w2, w3⟩ := rwC_in hk hD hm
  have m0 : (D 0).length ≤ 9 := (hD.2 0 (by decide)).1
  have m1 : (D 1).length ≤ 14 := (hD.2 1 (by decide)).1
  have m2 : (D 2).length ≤ 6 := (hD.2 2 (by decide)).1
  have m3 : (D 3).length ≤ 8 := (hD.2 3 (by decide)).1
  obtain ⟨a1, a2, a3, b0, b1, b2, b3⟩ := hR
  have hk4 : k = 0 ∨ k = 1 ∨ k = 2 ∨ k = 3 := by omega
  refine ⟨fun a ha hc => ?_, fun i hi => ?_, fun j hj => ?_, fun i hi => ?_, fun i hi => ?_, fun i hi => ?_, fun i hi => ?_⟩
  · rw [h a (fun e => hc (by unfold rdC; omega))]; exact a1 a ha hc
  · rw [h 0 (by omega)]; exact a2 i hi
  · rw [h 3 (by omega)]; exact a3 j hj
  · by_cases q : k = 0
    · rw [h5 q i (by omega)]; exact b0 i hi
    · rw [h 5 (by omega)]; exact b0 i hi
  · rw [h (8 + i) (by omega)]; exact b1 i hi
  · rw [h (38 + i) (by omega)]; exact b2 i hi
  · rw [h (52 + i) (by omega)]; exact b3 i hi
theorem rTb_row {Y Y' : Mm} {D : CD} {k : Nat} (hk : k < 4) {e : Ent} (hT : rTb Y D) (hD : cDok D) (hm : (D k).length ≠ most k) (h : ∀ a, a ≠ rwC k D → Y' a = Y a) (h5 : k = 0 → ∀ i, i ≠ (D 0).length → Y' 5 i = Y 5 i)
    (n0 : k = 0 → Y' 5 (D 0).length = e.1) (n1 : k = 1 → Y' (8 + (D 1).length) 0 = e.1 ∧ Y' (8 + (D 1).length) 1 = e.2.1) (n2 : k = 2 → Y' (38 + (D 2).length) 0 = e.1 ∧ Y' (38 + (D 2).length) 1 = e.2.1 ∧ Y' (38 + (D 2).length) 2 = e.2.2) (n3 : k = 3 → Y' (52 + (D 3).length) 0 = e.1 ∧ Y' (52 + (D 3).length) 1 = e.2.1) : rTb Y' (updD D k (D k ++ [e])) := by
  obtain ⟨w0, w1, w2, w3⟩ := rwC_in hk hD hm
  have hk4 : k = 0 ∨ k = 1 ∨ k = 2 ∨ k = 3 := by omega
  refine rTb_set hk hT hD hm (fun i hi => ?_) (fun a h1 h2 q1 q2 q3 => h a (by omega)) n0 n1 n2 n3
  by_cases q : k = 0
  · exact h5 q i (by omega)
  · rw [h 5 (by omega)]
section R40
variable {l : Launch} {g : mG} {d n : Nat} {X0 Y : Mm} {D : CD} {p : PS} {Φ : mR → Mm → Int64 → Prop}
theorem r_c0 (htr : l.stackTraces = false) (o : Int64) (hd : 5 ≤ d) (hn : n ≤ 600) (hD : cDok D) (hm : (D 0).length ≠ 9) (Y2 : Y 0 2 = nI n) (Y1 : Y 1 = X0 1) (hp : p.1 ≤ n) (hR : RCt X0 D Y) (h7 : Y 0 7 = nI (tot D + 1)) (hΦ : ∀ X', RCt X0 (cE (X0 1) n D 0 (cB0 (X0 1) n p)).2 X' → ((cE (X0 1) n D 0 (cB0 (X0 1) n p)).1.2.1 = 0 → X' 0 7 = nI (tot (cE (X0 1) n D 0 (cB0 (X0 1) n p)).2)) → Φ (.inl none) (mPS X' (cE (X0 1) n D 0 (cB0 (X0 1) n p)).1) o) : mWB l g d k_X12_clause Φ 0 0 108 [.ref 0, .int (nI 0), .int (nI (D 0).length), mJ, mJ, mJ] [] (mPS Y p) o 0 0 := by
  have m0 : (D 0).length ≤ 9 := (hD.2 0 (by decide)).1
  refine mGoOn (mOk (by decide)) rfl [269] 400 ?_
  show True ∧ mCal l g d k_X12_clause Φ 0 0 _ 117 k_X12_number false [.ref 0, .int (0 : Int32), .int (30 : Int32)] [.int (nI (D 0).length), .ref 5] [.ref 0, .int (nI 0), .int (nI (D 0).length), mJ, mJ, mJ] (mPS Y p) o 0 0 1
  have hnum := r_number (l := l) (g := g) (d := d - 1) Y p Y2 hn hp (by omega) 0 30
  rw [Y1] at hnum
  refine ⟨trivial, fCi htr hnum (by omega) ?_⟩
  show mReq (mInB (nI (D 0).length) 9) (mWB l g d k_X12_clause Φ 0 0 269 [.ref 0, .int (nI 0), .int (nI (D 0).length), mJ, mJ, mJ] [] (mset (mPS Y (pNum (X0 1) n 0 30 p).2) 5 ((nI (D 0).length).toNatClampNeg) ((pNum (X0 1) n 0 30 p).1)) o 0 0)
  rw [mIn_ok (show (D 0).length < 9 by omega) (by decide), nI_cl (by omega), mPS_set _ _ (by decide)]
  have hrow : ∀ a, a ≠ rwC 0 D → mset Y 5 (D 0).length (pNum (X0 1) n 0 30 p).1 a = Y a := fun a ha => mset_ne _ _ _ ha
  have h5 : (0 : Nat) = 0 → ∀ i, i ≠ (D 0).length → mset Y 5 (D 0).length (pNum (X0 1) n 0 30 p).1 5 i = Y 5 i := fun _ i hi => by rw [mset_eq, pk_un hi]
  refine mReq_i rfl (mWB_wk (r_clE htr o (by omega) hn (D := D) (k := 0) (r := cB0 (X0 1) n p) (by decide) hD ?_ ?_ (pNum_ok hp).1 (RCt_row (by decide) hR hD hm hrow h5) ?_ (fun _ => rTb_row (by decide) hR.2.2.2 hD hm hrow h5 (fun _ => by rw [mset_eq, pk_us]; rfl) (fun z => absurd z (by decide)) (fun z => absurd z (by decide)) (fun z => absurd z (by decide))) hΦ) ⟨Or.inr rfl, Or.inr rfl, Or.inl rfl, Or.inl rfl, Or.inl rfl, Or.inl rfl, trivial⟩)
  · rw [mset_ne _ _ _ (by decide)]; exact Y2
  · rw [mset_ne _ _ _ (by decide)]; exact Y1
  · rw [mset_ne _ _ _ (by decide)]; exact h7
theorem r_c3 (htr : l.stackTraces = false) (o : Int64) (hd : 6 ≤ d) (hn : n ≤ 600) (hD : cDok D) (hm : (D 3).length ≠ 8) (Y2 : Y 0 2 = nI n) (Y1 : Y 1 = X0 1) (hp : p.1 ≤ n) (hR : RCt X0 D Y) (h7 : Y 0 7 = nI (tot D + 1)) (hΦ : ∀ X', RCt X0 (cE (X0 1) n D 3 (cB3 (X0 1) n (D 0).length p)).2 X' → ((cE (X0 1) n D 3 (cB3 (X0 1) n (D 0).length p)).1.2.1 = 0 → X' 0 7 = nI (tot (cE (X0 1) n D 3 (cB3 (X0 1) n (D 0).length p)).2)) → Φ (.inl none) (mPS X' (cE (X0 1) n D 3 (cB3 (X0 1) n (D 0).length p)).1) o) : mWB l g d k_X12_clause Φ 0 0 242 [.ref 0, .int (nI 3), .int (nI (D 3).length), mJ, mJ, mJ] [] (mPS Y p) o 0 0 := by
  have m3 : (D 3).length ≤ 8 := (hD.2 3 (by decide)).1
  have h30 : Y 3 0 = nI (D 0).length := hR.2.2.1 0 (by decide)
  refine mGoOn (mOk (by decide)) rfl [269] 400 ?_
  show mReq (mInB (nI (D 3).length) 8) (True ∧ mCal l g d k_X12_clause Φ 0 0 _ 250 k_X12_readStreet false [.ref 0] [.int (0 : Int32), .ref (mRF 51 ((nI (D 3).length).toNatClampNeg))] [.ref 0, .int (nI 3), .int (nI (D 3).length), mJ, mJ, mJ] (mPS Y p) o 0 0 1)
  rw [mIn_ok (show (D 3).length < 8 by omega) (by decide), nI_cl (by omega), rf_51]
  have hrs := r_readStreet (l := l) (g := g) (d := d - 1) (p := p) Y2 hn hp h30 (by omega)
  rw [Y1] at hrs
  refine mReq_i rfl ⟨trivial, fCi htr hrs (by omega) ?_⟩
  have k1 := (pNum_ok (T := X0 1) (lo := 0) (hi := nI (D 0).length - 1) hp).1
  have eB : cB3 (X0 1) n (D 0).length p = ((pNum (X0 1) n 0 23 (pNum (X0 1) n 0 (nI (D 0).length - 1) p).2).2, (pNum (X0 1) n 0 (nI (D 0).length - 1) p).1, (pNum (X0 1) n 0 23 (pNum (X0 1) n 0 (nI (D 0).length - 1) p).2).1, 0) := rfl
  rw [eB] at hΦ
  generalize pNum (X0 1) n 0 (nI (D 0).length - 1) p = r1 at k1 hΦ ⊢
  show mReq (mIsB (52 + (D 3).length) 1) (mReq (mInB (0 : Int32) (mLn (52 + (D 3).length))) (mReq (mInB (nI (D 3).length) 8) (True ∧ mCal l g d k_X12_clause Φ 0 0 _ 265 k_X12_number false [.ref 0, .int (0 : Int32), .int (23 : Int32)] [.int (1 : Int32), .ref (mRF 51 ((nI (D 3).length).toNatClampNeg))] [.ref 0, .int (nI 3), .int (nI (D 3).length), mJ, mJ, mJ] (mset (mPS Y r1.2) (52 + (D 3).length) 0 r1.1) o 0 0 1)))
  rw [sB_2 (by omega), sL_2 (by omega), mPS_set _ _ (by omega), mIn_ok (show (D 3).length < 8 by omega) (by decide), nI_cl (by omega), rf_51]
  have y2 : mset Y (52 + (D 3).length) 0 r1.1 0 2 = nI n := by rw [mset_ne _ _ _ (by omega)]; exact Y2
  have hnum := r_number (l := l) (g := g) (d := d - 1) (mset Y (52 + (D 3).length) 0 r1.1) r1.2 y2 hn k1 (by omega) 0 23
  rw [mset_ne _ (a := 52 + (D 3).length) (x := 1) _ _ (by omega), Y1] at hnum
  refine mReq_i rfl (mReq_i rfl (mReq_i rfl ⟨trivial, fCi htr hnum (by omega) ?_⟩))
  have k2 := (pNum_ok (T := X0 1) (lo := 0) (hi := 23) k1).1
  generalize pNum (X0 1) n 0 23 r1.2 = r2 at k2 hΦ ⊢
  show mReq (mIsB (52 + (D 3).length) 1) (mReq (mInB (1 : Int32) (mLn (52 + (D 3).length))) (mWB l g d k_X12_clause Φ 0 0 269 [.ref 0, .int (nI 3), .int (nI (D 3).length), mJ, mJ, mJ] [] (mset (mPS (mset Y (52 + (D 3).length) 0 r1.1) r2.2) (52 + (D 3).length) 1 r2.1) o 0 0))
  rw [sB_2 (by omega), sL_2 (by omega), mPS_set _ _ (by omega)]
  have hrow : ∀ a, a ≠ rwC 3 D → mset (mset Y (52 + (D 3).length) 0 r1.1) (52 + (D 3).length) 1 r2.1 a = Y a := fun a (ha : a ≠ 52 + (D 3).length) => by rw [mset_ne _ _ _ ha, mset_ne _ _ _ ha]
  have h5 : (3 : Nat) = 0 → ∀ i, i ≠ (D 0).length → mset (mset Y (52 + (D 3).length) 0 r1.1) (52 + (D 3).length) 1 r2.1 5 i = Y 5 i := fun z => absurd z (by decide)
  refine mReq_i rfl (mReq_i rfl (mWB_wk (r_clE htr o (by omega) hn (D := D) (k := 3) (r := (r2.2, r1.1, r2.1, 0)) (by decide) hD ?_ ?_ k2 (RCt_row (by decide) hR hD hm hrow h5) ?_ (fun _ => rTb_row (by decide) hR.2.2.2 hD hm hrow h5 (fun z => absurd z (by decide)) (fun z => absurd z (by decide)) (fun z => absurd z (by decide)) (fun _ => ?_)) hΦ) ⟨Or.inr rfl, Or.inr rfl, Or.inl rfl, Or.inl rfl, Or.inl rfl, Or.inl rfl, trivial⟩))
  · rw [hrow 0 (by show 0 ≠ 52 + _; omega)]; exact Y2
  · rw [hrow 1 (by show 1 ≠ 52 + _; omega)]; exact Y1
  · rw [hrow 0 (by show 0 ≠ 52 + _; omega)]; exact h7
  · rw [mset_eq, mset_eq, pk_un (by decide), pk_us, pk_us]; exact ⟨rfl, rfl⟩
theorem r_c2 (htr : l.stackTraces = false) (o : Int64) (hd : 6 ≤ d) (hn : n ≤ 600) (hD : cDok D) (hm : (D 2).length ≠ 6) (Y2 : Y 0 2 = nI n) (Y1 : Y 1 = X0 1) (hp : p.1 ≤ n) (hR : RCt X0 D Y) (h7 : Y 0 7 = nI (tot D + 1)) (hΦ : ∀ X', RCt X0 (cE (X0 1) n D 2 (cB2 (X0 1) n (D 0).length p)).2 X' → ((cE (X0 1) n D 2 (cB2 (X0 1) n (D 0).length p)).1.2.1 = 0 → X' 0 7 = nI (tot (cE (X0 1) n D 2 (cB2 (X0 1) n (D 0).length p)).2)) → Φ (.inl none) (mPS X' (cE (X0 1) n D 2 (cB2 (X0 1) n (D 0).length p)).1) o) : mWB l g d k_X12_clause Φ 0 0 197 [.ref 0, .int (nI 2), .int (nI (D 2).length), mJ, mJ, mJ] [] (mPS Y p) o 0 0 := by
  have m3 : (D 2).length ≤ 6 := (hD.2 2 (by decide)).1
  have h30 : Y 3 0 = nI (D 0).length := hR.2.2.1 0 (by decide)
  refine mGoOn (mOk (by decide)) rfl [269] 400 ?_
  show mReq (mInB (nI (D 2).length) 6) (True ∧ mCal l g d k_X12_clause Φ 0 0 _ 205 k_X12_readStreet false [.ref 0] [.int (0 : Int32), .ref (mRF 37 ((nI (D 2).length).toNatClampNeg))] [.ref 0, .int (nI 2), .int (nI (D 2).length), mJ, mJ, mJ] (mPS Y p) o 0 0 1)
  rw [mIn_ok (show (D 2).length < 6 by omega) (by decide), nI_cl (by omega), rf_37]
  have hrs := r_readStreet (l := l) (g := g) (d := d - 1) (p := p) Y2 hn hp h30 (by omega)
  rw [Y1] at hrs
  refine mReq_i rfl ⟨trivial, fCi htr hrs (by omega) ?_⟩
  have k1 := (pNum_ok (T := X0 1) (lo := 0) (hi := nI (D 0).length - 1) hp).1
  have eB : cB2 (X0 1) n (D 0).length p = ((pNum (X0 1) n 1 24 (pNum (X0 1) n 0 23 (pNum (X0 1) n 0 (nI (D 0).length - 1) p).2).2).2, (pNum (X0 1) n 0 (nI (D 0).length - 1) p).1, (pNum (X0 1) n 0 23 (pNum (X0 1) n 0 (nI (D 0).length - 1) p).2).1, (pNum (X0 1) n 1 24 (pNum (X0 1) n 0 23 (pNum (X0 1) n 0 (nI (D 0).length - 1) p).2).2).1) := rfl
  rw [eB] at hΦ
  generalize pNum (X0 1) n 0 (nI (D 0).length - 1) p = r1 at k1 hΦ ⊢
  show mReq (mIsB (38 + (D 2).length) 1) (mReq (mInB (0 : Int32) (mLn (38 + (D 2).length))) (mReq (mInB (nI (D 2).length) 6) (True ∧ mCal l g d k_X12_clause Φ 0 0 _ 220 k_X12_number false [.ref 0, .int (0 : Int32), .int (23 : Int32)] [.int (1 : Int32), .ref (mRF 37 ((nI (D 2).length).toNatClampNeg))] [.ref 0, .int (nI 2), .int (nI (D 2).length), mJ, mJ, mJ] (mset (mPS Y r1.2) (38 + (D 2).length) 0 r1.1) o 0 0 1)))
  rw [sB_3 (by omega), sL_3 (by omega), mPS_set _ _ (by omega), mIn_ok (show (D 2).length < 6 by omega) (by decide), nI_cl (by omega), rf_37]
  have y2 : mset Y (38 + (D 2).length) 0 r1.1 0 2 = nI n := by rw [mset_ne _ _ _ (by omega)]; exact Y2
  have hnum := r_number (l := l) (g := g) (d := d - 1) (mset Y (38 + (D 2).length) 0 r1.1) r1.2 y2 hn k1 (by omega) 0 23
  rw [mset_ne _ (a := 38 + (D 2).length) (x := 1) _ _ (by omega), Y1] at hnum
  refine mReq_i rfl (mReq_i rfl (mReq_i rfl ⟨trivial, fCi htr hnum (by omega) ?_⟩))
  have k2 := (pNum_ok (T := X0 1) (lo := 0) (hi := 23) k1).1
  generalize pNum (X0 1) n 0 23 r1.2 = r2 at k2 hΦ ⊢
  show mReq (mIsB (38 + (D 2).length) 1) (mReq (mInB (1 : Int32) (mLn (38 + (D 2).length))) (mReq (mInB (nI (D 2).length) 6) (True ∧ mCal l g d k_X12_clause Φ 0 0 _ 235 k_X12_number false [.ref 0, .int (1 : Int32), .int (24 : Int32)] [.int (2 : Int32), .ref (mRF 37 ((nI (D 2).length).toNatClampNeg))] [.ref 0, .int (nI 2), .int (nI (D 2).length), mJ, mJ, mJ] (mset (mPS (mset Y (38 + (D 2).length) 0 r1.1) r2.2) (38 + (D 2).length) 1 r2.1) o 0 0 1)))
  rw [sB_3 (by omega), sL_3 (by omega), mPS_set _ _ (by omega), mIn_ok (show (D 2).length < 6 by omega) (by decide), nI_cl (by omega), rf_37]
  have y3 : mset (mset Y (38 + (D 2).length) 0 r1.1) (38 + (D 2).length) 1 r2.1 0 2 = nI n := by rw [mset_ne _ _ _ (by omega)]; exact y2
  have hnum2 := r_number (l := l) (g := g) (d := d - 1) (mset (mset Y (38 + (D 2).length) 0 r1.1) (38 + (D 2).length) 1 r2.1) r2.2 y3 hn k2 (by omega) 1 24
  rw [mset_ne _ (a := 38 + (D 2).length) (x := 1) _ _ (by omega), mset_ne _ (a := 38 + (D 2).length) (x := 1) _ _ (by omega), Y1] at hnum2
  refine mReq_i rfl (mReq_i rfl (mReq_i rfl ⟨trivial, fCi htr hnum2 (by omega) ?_⟩))
  have k3 := (pNum_ok (T := X0 1) (lo := 1) (hi := 24) k2).1
  generalize pNum (X0 1) n 1 24 r2.2 = r3 at k3 hΦ ⊢
  show mReq (mIsB (38 + (D 2).length) 1) (mReq (mInB (2 : Int32) (mLn (38 + (D 2).length))) (mWB l g d k_X12_clause Φ 0 0 269 [.ref 0, .int (nI 2), .int (nI (D 2).length), mJ, mJ, mJ] [] (mset (mPS (mset (mset Y (38 + (D 2).length) 0 r1.1) (38 + (D 2).length) 1 r2.1) r3.2) (38 + (D 2).length) 2 r3.1) o 0 0))
  rw [sB_3 (by omega), sL_3 (by omega), mPS_set _ _ (by omega)]
  have hrow : ∀ a, a ≠ rwC 2 D → mset (mset (mset Y (38 + (D 2).length) 0 r1.1) (38 + (D 2).length) 1 r2.1) (38 + (D 2).length) 2 r3.1 a = Y a := fun a (ha : a ≠ 38 + (D 2).length) => by rw [mset_ne _ _ _ ha, mset_ne _ _ _ ha, mset_ne _ _ _ ha]
  have h5 : (2 : Nat) = 0 → ∀ i, i ≠ (D 0).length → mset (mset (mset Y (38 + (D 2).length) 0 r1.1) (38 + (D 2).length) 1 r2.1) (38 + (D 2).length) 2 r3.1 5 i = Y 5 i := fun z => absurd z (by decide)
  refine mReq_i rfl (mReq_i rfl (mWB_wk (r_clE htr o (by omega) hn (D := D) (k := 2) (r := (r3.2, r1.1, r2.1, r3.1)) (by decide) hD ?_ ?_ k3 (RCt_row (by decide) hR hD hm hrow h5) ?_ (fun _ => rTb_row (by decide) hR.2.2.2 hD hm hrow h5 (fun z => absurd z (by decide)) (fun z => absurd z (by decide)) (fun _ => ?_) (fun z => absurd z (by decide))) hΦ) ⟨Or.inr rfl, Or.inr rfl, Or.inl rfl, Or.inl rfl, Or.inl rfl, Or.inl rfl, trivial⟩))
  · rw [hrow 0 (by show 0 ≠ 38 + _; omega)]; exact Y2
  · rw [hrow 1 (by show 1 ≠ 38 + _; omega)]; exact Y1
  · rw [hrow 0 (by show 0 ≠ 38 + _; omega)]; exact h7
  · rw [mset_eq, mset_eq, mset_eq, pk_un (by decide), pk_un (by decide), pk_us, pk_un (by decide), pk_us, pk_us]; exact ⟨rfl, rfl, rfl⟩
theorem r_c1 (htr : l.stackTraces = false) (o : Int64) (hd : 6 ≤ d) (hn : n ≤ 600) (hD : cDok D) (hm : (D 1).length ≠ 14) (Y2 : Y 0 2 = nI n) (Y1 : Y 1 = X0 1) (hp : p.1 ≤ n) (hR : RCt X0 D Y) (h7 : Y 0 7 = nI (tot D + 1)) (hΦ : ∀ X', RCt X0 (cE (X0 1) n D 1 (cB1 (X0 1) n (D 0).length (D 1) p)).2 X' → ((cE (X0 1) n D 1 (cB1 (X0 1) n (D 0).length (D 1) p)).1.2.1 = 0 → X' 0 7 = nI (tot (cE (X0 1) n D 1 (cB1 (X0 1) n (D 0).length (D 1) p)).2)) → Φ (.inl none) (mPS X' (cE (X0 1) n D 1 (cB1 (X0 1) n (D 0).length (D 1) p)).1) o) : mWB l g d k_X12_clause Φ 0 0 124 [.ref 0, .int (nI 1), .int (nI (D 1).length), mJ, mJ, mJ] [] (mPS Y p) o 0 0 := by
  have m3 : (D 1).length ≤ 14 := (hD.2 1 (by decide)).1
  have h30 : Y 3 0 = nI (D 0).length := hR.2.2.1 0 (by decide)
  refine mGoOn (mOk (by decide)) rfl [175,269] 400 ?_
  show True ∧ mCal l g d k_X12_clause Φ 0 0 _ 125 k_X12_readStreet false [.ref 0] [] [.ref 0, .int (nI 1), .int (nI (D 1).length), mJ, mJ, mJ] (mPS Y p) o 0 0 1
  have hrs := r_readStreet (l := l) (g := g) (d := d - 1) (p := p) Y2 hn hp h30 (by omega)
  rw [Y1] at hrs
  refine ⟨trivial, fCi htr hrs (by omega) ?_⟩
  have k1 := (pNum_ok (T := X0 1) (lo := 0) (hi := nI (D 0).length - 1) hp).1
  have eB : cB1 (X0 1) n (D 0).length (D 1) p = (ifp ((pNum (X0 1) n 0 (nI (D 0).length - 1) (pBl (X0 1) n (pNum (X0 1) n 0 (nI (D 0).length - 1) p).2)).2.2.1 = 0 ∧ ((pNum (X0 1) n 0 (nI (D 0).length - 1) p).1 = (pNum (X0 1) n 0 (nI (D 0).length - 1) (pBl (X0 1) n (pNum (X0 1) n 0 (nI (D 0).length - 1) p).2)).1 ∨ lnIn (D 1) (pNum (X0 1) n 0 (nI (D 0).length - 1) p).1 (pNum (X0 1) n 0 (nI (D 0).length - 1) (pBl (X0 1) n (pNum (X0 1) n 0 (nI (D 0).length - 1) p).2)).1)) (pWr 2 (nI (skp (X0 1) n (pNum (X0 1) n 0 (nI (D 0).length - 1) p).2.1)) (pNum (X0 1) n 0 (nI (D 0).length - 1) (pBl (X0 1) n (pNum (X0 1) n 0 (nI (D 0).length - 1) p).2)).2) (pNum (X0 1) n 0 (nI (D 0).length - 1) (pBl (X0 1) n (pNum (X0 1) n 0 (nI (D 0).length - 1) p).2)).2, (pNum (X0 1) n 0 (nI (D 0).length - 1) p).1, (pNum (X0 1) n 0 (nI (D 0).length - 1) (pBl (X0 1) n (pNum (X0 1) n 0 (nI (D 0).length - 1) p).2)).1, 0) := rfl
  rw [eB] at hΦ
  clear eB
  generalize pNum (X0 1) n 0 (nI (D 0).length - 1) p = r1 at k1 hΦ ⊢
  show True ∧ mCal l g d k_X12_clause Φ 0 0 _ 130 k_X12_blanks false [.ref 0] [] [.ref 0, .int (nI 1), .int (nI (D 1).length), .int r1.1, mJ, mJ] (mPS Y r1.2) o 0 0 0
  have hbl := q_blanks (l := l) (g := g) (d := d - 1) Y r1.2 Y2 hn (by omega) (by omega)
  rw [Y1] at hbl
  refine ⟨trivial, fCv htr hbl (by omega) ?_⟩
  have kb : (pBl (X0 1) n r1.2).1 ≤ n := skp_in k1
  have eb : (pBl (X0 1) n r1.2).1 = skp (X0 1) n r1.2.1 := rfl
  show True ∧ mCal l g d k_X12_clause Φ 0 0 _ 140 k_X12_readStreet false [.ref 0] [] [.ref 0, .int (nI 1), .int (nI (D 1).length), .int r1.1, .int ((mPS Y (pBl (X0 1) n r1.2)) 0 4), mJ] (mPS Y (pBl (X0 1) n r1.2)) o 0 0 1
  rw [mPS_4]
  have hrs2 := r_readStreet (l := l) (g := g) (d := d - 1) (p := pBl (X0 1) n r1.2) Y2 hn kb h30 (by omega)
  rw [Y1] at hrs2
  refine ⟨trivial, fCi htr hrs2 (by omega) ?_⟩
  have k2 := (pNum_ok (T := X0 1) (lo := 0) (hi := nI (D 0).length - 1) kb).1
  rw [eb]
  generalize pNum (X0 1) n 0 (nI (D 0).length - 1) (pBl (X0 1) n r1.2) = r2 at k2 hΦ ⊢
  show (¬ ((mPS Y r2.2) 0 5) = 0 → mWB l g d k_X12_clause Φ 0 0 175 [.ref 0, .int (nI 1), .int (nI (D 1).length), .int r1.1, .int (nI (skp (X0 1) n r1.2.1)), .int r2.1] [] (mPS Y r2.2) o 0 0) ∧ (((mPS Y r2.2) 0 5) = 0 → (r1.1 = r2.1 → True ∧ mCal l g d k_X12_clause Φ 0 0 _ 172 k_X12_wrong false [.ref 0, .int (2 : Int32), .int (nI (skp (X0 1) n r1.2.1))] [] [.ref 0, .int (nI 1), .int (nI (D 1).length), .int r1.1, .int (nI (skp (X0 1) n r1.2.1)), .int r2.1] (mPS Y r2.2) o 0 0 0) ∧ (¬ r1.1 = r2.1 → True ∧ mCal l g d k_X12_clause Φ 0 0 _ 162 k_X12_isReadLane false [.ref 0, .int r1.1, .int r2.1] [] [.ref 0, .int (nI 1), .int (nI (D 1).length), .int r1.1, .int (nI (skp (X0 1) n r1.2.1)), .int r2.1] (mPS Y r2.2) o 0 0 1))
  rw [mPS_5]
  have k175 : ∀ q : PS, q.1 ≤ n → q = ifp (r2.2.2.1 = 0 ∧ (r1.1 = r2.1 ∨ lnIn (D 1) r1.1 r2.1)) (pWr 2 (nI (skp (X0 1) n r1.2.1)) r2.2) r2.2 → mWB l g d k_X12_clause Φ 0 0 175 [.ref 0, .int (nI 1), .int (nI (D 1).length), .int r1.1, .int (nI (skp (X0 1) n r1.2.1)), .int r2.1] [] (mPS Y q) o 0 0 := by
    intro q hq eq
    rw [← eq] at hΦ
    refine mGoOn (mOk (by decide)) rfl [269] 400 ?_
    show mReq (mInB (nI (D 1).length) 14) (mReq (mIsB (mRF 7 ((nI (D 1).length).toNatClampNeg)) 1) (mReq (mInB (0 : Int32) (mLn (mRF 7 ((nI (D 1).length).toNatClampNeg)))) (mReq (mInB (nI (D 1).length) 14) (mReq (mIsB (mRF 7 ((nI (D 1).length).toNatClampNeg)) 1) (mReq (mInB (1 : Int32) (mLn (mRF 7 ((nI (D 1).length).toNatClampNeg)))) (mWB l g d k_X12_clause Φ 0 0 269 [.ref 0, .int (nI 1), .int (nI (D 1).length), .int r1.1, .int (nI (skp (X0 1) n r1.2.1)), .int r2.1] [] (mset (mset (mPS Y q) (mRF 7 ((nI (D 1).length).toNatClampNeg)) 0 r1.1) (mRF 7 ((nI (D 1).length).toNatClampNeg)) 1 r2.1) o 0 0))))))
    rw [mIn_ok (show (D 1).length < 14 by omega) (by decide), nI_cl (by omega), rf_7, sB_2 (by omega), sL_2 (by omega), mPS_set _ _ (by omega), mPS_set _ _ (by omega)]
    have hrow : ∀ a, a ≠ rwC 1 D → mset (mset Y (8 + (D 1).length) 0 r1.1) (8 + (D 1).length) 1 r2.1 a = Y a := fun a (ha : a ≠ 8 + (D 1).length) => by rw [mset_ne _ _ _ ha, mset_ne _ _ _ ha]
    have h5 : (1 : Nat) = 0 → ∀ i, i ≠ (D 0).length → mset (mset Y (8 + (D 1).length) 0 r1.1) (8 + (D 1).length) 1 r2.1 5 i = Y 5 i := fun z => absurd z (by decide)
    refine mReq_i rfl (mReq_i rfl (mReq_i rfl (mReq_i rfl (mReq_i rfl (mReq_i rfl (mWB_wk (r_clE htr o (by omega) hn (D := D) (k := 1) (r := (q, r1.1, r2.1, 0)) (by decide) hD ?_ ?_ hq (RCt_row (by decide) hR hD hm hrow h5) ?_ (fun _ => rTb_row (by decide) hR.2.2.2 hD hm hrow h5 (fun z => absurd z (by decide)) (fun _ => ?_) (fun z => absurd z (by decide)) (fun z => absurd z (by decide))) hΦ) ⟨Or.inr rfl, Or.inr rfl, Or.inl rfl, Or.inl rfl, Or.inl rfl, Or.inl rfl, trivial⟩))))))
    · rw [hrow 0 (by show 0 ≠ 8 + _; omega)]; exact Y2
    · rw [hrow 1 (by show 1 ≠ 8 + _; omega)]; exact Y1
    · rw [hrow 0 (by show 0 ≠ 8 + _; omega)]; exact h7
    · rw [mset_eq, mset_eq, pk_un (by decide), pk_us, pk_us]; exact ⟨rfl, rfl⟩
  refine ⟨fun y => k175 _ k2 (by rw [ifp_f (fun u => y u.1)]), fun y => ⟨fun y2 => ?_, fun y2 => ⟨trivial, fCi htr (r_isReadLane ⟨hR.2.2.1 1 (by decide), hR.2.2.2.2.1⟩ m3 r1.1 r2.1) (by omega) ?_⟩⟩⟩
  · exact ⟨trivial, fCv htr (q_wrong 2 (nI (skp (X0 1) n r1.2.1)) Y r2.2) (by omega) (k175 _ (by rw [pWr_a]; exact k2) (by rw [ifp_t ⟨y, Or.inl y2⟩]))⟩
  · show ((pI (lnIn (D 1) r1.1 r2.1)) = 0 → mWB l g d k_X12_clause Φ 0 0 175 [.ref 0, .int (nI 1), .int (nI (D 1).length), .int r1.1, .int (nI (skp (X0 1) n r1.2.1)), .int r2.1] [] (mPS Y r2.2) o 0 0) ∧ (¬ (pI (lnIn (D 1) r1.1 r2.1)) = 0 → True ∧ mCal l g d k_X12_clause Φ 0 0 _ 172 k_X12_wrong false [.ref 0, .int (2 : Int32), .int (nI (skp (X0 1) n r1.2.1))] [] [.ref 0, .int (nI 1), .int (nI (D 1).length), .int r1.1, .int (nI (skp (X0 1) n r1.2.1)), .int r2.1] (mPS Y r2.2) o 0 0 0)
    refine ⟨fun y3 => k175 _ k2 (by rw [ifp_f (fun u => u.2.elim y2 (pI_0.mp y3))]), fun y3 => ?_⟩
    exact ⟨trivial, fCv htr (q_wrong 2 (nI (skp (X0 1) n r1.2.1)) Y r2.2) (by omega) (k175 _ (by rw [pWr_a]; exact k2) (by rw [ifp_t ⟨y, Or.inr (pI_1.mp y3)⟩]))⟩
end R40
