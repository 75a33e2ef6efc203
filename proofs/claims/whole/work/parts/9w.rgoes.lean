set_option maxRecDepth 100000
def cGo (l : Launch) (g : mG) (A X0 : Mm) (F : Nat → W5) (c N : Nat) : Prop := l.stackTraces = false → ∀ (d k : Nat) (fr : Int32) (i j : Nat) (e : EX) (m : Mm) (o : Int64) (Φ : mR → Mm → Int64 → Prop), (6 - k) + 10 ≤ d → k ≤ 6 → j ≤ c → (∀ t, i ≤ t → t < j → k ≤ (F t).2.2.2.2) → (200 - e.2.2.1) * 20000 + (j - i) < N → exI A e → rE A X0 e m → i ≤ c → (∀ e' m2, Ex A F N 0 i j e e' → rE A X0 e' m2 → Φ (.inl none) m2 o) → mWB l g d k_X12_goes Φ 0 0 2 [.ref 0, .int fr, .int (nI j), .int (nI i), mJ] [] m o 0 0
def cRp (l : Launch) (g : mG) (A X0 : Mm) (F : Nat → W5) (c N : Nat) : Prop := l.stackTraces = false → ∀ (d k : Nat) (fr : Int32) (i j t : Nat) (e : EX) (m : Mm) (o : Int64) (Φ : mR → Mm → Int64 → Prop), (6 - k) + 10 ≤ d → k ≤ 5 → i < c → (F i).1 = 4 → k ≤ (F i).2.2.2.2 → t ≤ 60 → (200 - e.2.2.1) * 20000 + (61 - t) * 200 < N → exI A e → rE A X0 e m → (∀ e' m2, Ex A F N 1 i t e e' → rE A X0 e' m2 → mWB l g d k_X12_goes Φ 0 0 86 [.ref 0, .int fr, .int (nI j), .int (nI i), mJ] [] m2 o 0 0) → mWB l g d k_X12_goes Φ 0 0 42 [.ref 0, .int fr, .int (nI j), .int (nI i), .int (nI t)] [] m o 0 0
section R48
variable {l : Launch} {g : mG} {A X0 : Mm} {F : Nat → W5} {c : Nat}
theorem rE_row {e : EX} {m : Mm} (h : rE A X0 e m) {i : Nat} {v : W5} (hi : i < 80) (hv : rowW X0 i v) : rowW m i v := by
  unfold rowW
  rw [h.2.1 (414 + i) (by omega) (by omega) (by omega) (by omega)]
  exact hv
theorem r_rp (hA : CtB A) (hc : c ≤ 75) (hF : ∀ i, i < c → okW (nM A) (nS A) 0 c F i) (hX : ∀ i, i < c → rowW X0 i (F i)) {N : Nat} (I0 : cGo l g A X0 F c N) (I1 : cRp l g A X0 F c N) : cRp l g A X0 F c (N + 1) := by
  intro htr d k fr i j t e m o Φ hd hk hi h4 hlv ht hN hI hE kk
  have ho := hF i hi
  have hr := rE_row hE (show i < 80 by omega) (hX i hi)
  obtain ⟨o1, ⟨o2, o3⟩, -, -, o5, -, -, o8⟩ := ho
  have e3 : m (414 + i) 3 = nI (F i).2.2.2.1 := hr.2.2.2 (by omega)
  have e1 : m (414 + i) 1 = nI (F i).2.1 := hr.2.1 (Or.inr h4)
  have e41 := hE.2.2.2.2.2.1
  have hb := hI.2.1
  refine mGoOn (mOk (by decide)) rfl [2,42,86] 400 ?_
  show mReq (mInB (nI i) 80) (mReq (mIsB (mRF 413 ((nI i).toNatClampNeg)) 1) (mReq (mInB (1 : Int32) (mLn (mRF 413 ((nI i).toNatClampNeg)))) (((m (mRF 413 ((nI i).toNatClampNeg)) 1) ≤ (nI t) → mWB l g d k_X12_goes Φ 0 0 86 [.ref 0, .int fr, .int (nI j), .int (nI i), .int (nI t)] [] m o 0 0) ∧ (¬ (m (mRF 413 ((nI i).toNatClampNeg)) 1) ≤ (nI t) → ((200 : Int32) ≤ (m 0 41) → mWB l g d k_X12_goes Φ 0 0 86 [.ref 0, .int fr, .int (nI j), .int (nI i), .int (nI t)] [] m o 0 0) ∧ (¬ (200 : Int32) ≤ (m 0 41) → mReq (mInB (nI i) 80) (mReq (mIsB (mRF 413 ((nI i).toNatClampNeg)) 1) (mReq (mInB (3 : Int32) (mLn (mRF 413 ((nI i).toNatClampNeg)))) (True ∧ mCal l g d k_X12_goes Φ 0 0 _ 77 k_X12_goes false [.ref 0, .int ((nI i) + (1 : Int32)), .int (m (mRF 413 ((nI i).toNatClampNeg)) 3)] [] [.ref 0, .int fr, .int (nI j), .int (nI i), .int (nI t)] m o 0 0 0))))))))
  rw [mIn_ok (show i < 80 by omega) (by decide), nI_cl (by omega), rf_413, sB_5 (by omega), sL_5 (by omega), e1, e3, e41, nI_leI (by omega) (by omega), show (200 : Int32) = nI 200 from rfl, nI_leI (by decide) (by omega), nI_1]
  have hdone : ¬ (t < (F i).2.1 ∧ e.2.2.1 < 200) → mWB l g d k_X12_goes Φ 0 0 86 [.ref 0, .int fr, .int (nI j), .int (nI i), .int (nI t)] [] m o 0 0 := fun q => mWB_wk (kk e m (Or.inr ⟨rfl, Or.inl ⟨q, rfl⟩⟩) hE) ⟨Or.inr rfl, Or.inr rfl, Or.inr rfl, Or.inr rfl, Or.inl rfl, trivial⟩
  refine mReq_i rfl (mReq_i rfl (mReq_i rfl ⟨fun z => hdone (fun y => by omega), fun z => ⟨fun z2 => hdone (fun y => by omega), fun z2 => ?_⟩⟩))
  refine mReq_i rfl (mReq_i rfl (mReq_i rfl ⟨trivial, ?_⟩))
  have hlv2 := (o5 h4).1
  have hcall : mHv l g (d - 1) k_X12_goes [.ref 0, .int (nI (i + 1)), .int (nI (F i).2.2.2.1)] m (fun m2 => ∃ e', Ex A F N 0 (i + 1) (F i).2.2.2.1 e e' ∧ rE A X0 e' m2) := by
    have d1 : d - 1 = (d - 1) := rfl
    generalize hdd : d - 1 = dd
    have hdd2 : (6 - (k + 1)) + 10 ≤ dd := by omega
    clear hd hdd d1
    refine (fun (d : Nat) (hd : (6 - (k + 1)) + 10 ≤ d) => ?_ : ∀ d, (6 - (k + 1)) + 10 ≤ d → mHv l g d k_X12_goes [.ref 0, .int (nI (i + 1)), .int (nI (F i).2.2.2.1)] m (fun m2 => ∃ e', Ex A F N 0 (i + 1) (F i).2.2.2.1 e e' ∧ rE A X0 e' m2)) dd hdd2
    refine nBv 2 rfl rfl rfl (by decide) rfl (fun htr o Φ hΦ => mGoOn (mOk (by decide)) rfl [2] 400 ?_)
    show mWB l g d k_X12_goes Φ 0 0 2 [.ref 0, .int (nI (i + 1)), .int (nI (F i).2.2.2.1), .int (nI (i + 1)), mJ] [] m o 0 0
    refine I0 htr d (k + 1) (nI (i + 1)) (i + 1) (F i).2.2.2.1 e m o Φ hd (by omega) o3 (fun u u1 u2 => by have := (o5 h4).2 u (by omega) u2; omega) ?_ hI hE (by omega) (fun e' m2 q1 q2 => hΦ _ ⟨e', q1, q2⟩)
    omega
  refine nCv htr hcall (by omega) ?_
  rintro m2 ⟨e2, L1, E2⟩
  have B := Ex_ok hA hF _ _ _ _ _ _ L1 hI (fun _ => o3) (fun z => absurd z (by decide))
  show mWB l g d k_X12_goes Φ 0 0 42 [.ref 0, .int fr, .int (nI j), .int (nI i), .int ((nI t) + (1 : Int32))] [] m2 o 0 0
  rw [nI_1]
  refine I1 htr d k fr i j (t + 1) e2 m2 o Φ hd hk hi h4 hlv (by omega) ?_ B.1 E2 (fun e' m3 q1 q2 => kk e' m3 (Or.inr ⟨rfl, Or.inr ⟨⟨by omega, by omega⟩, e2, L1, q1⟩⟩) q2)
  have := B.2
  have := B.1.2.1
  have q : (200 - e2.2.2.1) * 20000 ≤ (200 - e.2.2.1) * 20000 := Nat.mul_le_mul_right _ (by omega)
  omega
theorem r_go (hA : Sv A) (hc : c ≤ 75) (hF : ∀ i, i < c → okW (nM A) (nS A) 0 c F i) (hX : ∀ i, i < c → rowW X0 i (F i)) {N : Nat} (I0 : cGo l g A X0 F c N) (I1 : cRp l g A X0 F c N) : cGo l g A X0 F c (N + 1) := by
  intro htr d k fr i j e m o Φ hd hk hj hlv hN hI hE hic hΦ
  have e41 := hE.2.2.2.2.2.1
  have hb := hI.2.1
  by_cases hrun : ¬ (i < j ∧ e.2.2.1 < 200)
  · have hfin := hΦ e m (Or.inl ⟨rfl, Or.inl ⟨hrun, rfl⟩⟩) hE
    refine mGoOn (mOk (by decide)) rfl [2,42,86,143] 400 ?_
    show ((nI j) ≤ (nI i) → Φ (.inl none) m o ∧ 0 ≤ 0 ∧ 0 ≤ 0) ∧ (¬ (nI j) ≤ (nI i) → ((200 : Int32) ≤ (m 0 41) → Φ (.inl none) m o ∧ 0 ≤ 0 ∧ 0 ≤ 0) ∧ (¬ (200 : Int32) ≤ (m 0 41) → (Value.ref 0).category = 1 ∧ (mReq (mInB (nI i) 80) (mReq (mIsB (mRF 413 ((nI i).toNatClampNeg)) 1) (mReq (mInB (0 : Int32) (mLn (mRF 413 ((nI i).toNatClampNeg)))) ((¬ ((mset m 0 41 ((m 0 41) + (1 : Int32))) (mRF 413 ((nI i).toNatClampNeg)) 0) = (4 : Int32) → mReq (mInB (nI i) 80) (True ∧ mCal l g d k_X12_goes Φ 0 0 _ 100 k_X12_does false [.ref 0, .ref 494, .ref (mRF 413 ((nI i).toNatClampNeg))] [] [.ref 0, .int fr, .int (nI j), .int (nI i), mJ] (mset m 0 41 ((m 0 41) + (1 : Int32))) o 0 0 1)) ∧ (((mset m 0 41 ((m 0 41) + (1 : Int32))) (mRF 413 ((nI i).toNatClampNeg)) 0) = (4 : Int32) → mWB l g d k_X12_goes Φ 0 0 42 [.ref 0, .int fr, .int (nI j), .int (nI i), .int (0 : Int32)] [] (mset m 0 41 ((m 0 41) + (1 : Int32))) o 0 0)))))))
    rw [e41, nI_leI (by omega) (by omega), show (200 : Int32) = nI 200 from rfl, nI_leI (by decide) (by omega)]
    exact ⟨fun _ => eR hfin, fun z => ⟨fun _ => eR hfin, fun z2 => absurd (show i < j ∧ e.2.2.1 < 200 from ⟨by omega, by omega⟩) hrun⟩⟩
  · have hrun' : i < j ∧ e.2.2.1 < 200 := Classical.not_not.mp hrun
    have ho := hF i (by omega)
    have hr := rE_row hE (show i < 80 by omega) (hX i (by omega))
    obtain ⟨o1, ⟨o2, o3⟩, o4, -, o5, o6, o7, o8⟩ := ho
    have hlvi := hlv i (Nat.le_refl _) hrun'.1
    refine mGoOn (mOk (by decide)) rfl [2,42,86,143] 400 ?_
    show ((nI j) ≤ (nI i) → Φ (.inl none) m o ∧ 0 ≤ 0 ∧ 0 ≤ 0) ∧ (¬ (nI j) ≤ (nI i) → ((200 : Int32) ≤ (m 0 41) → Φ (.inl none) m o ∧ 0 ≤ 0 ∧ 0 ≤ 0) ∧ (¬ (200 : Int32) ≤ (m 0 41) → (Value.ref 0).category = 1 ∧ (mReq (mInB (nI i) 80) (mReq (mIsB (mRF 413 ((nI i).toNatClampNeg)) 1) (mReq (mInB (0 : Int32) (mLn (mRF 413 ((nI i).toNatClampNeg)))) ((¬ ((mset m 0 41 ((m 0 41) + (1 : Int32))) (mRF 413 ((nI i).toNatClampNeg)) 0) = (4 : Int32) → mReq (mInB (nI i) 80) (True ∧ mCal l g d k_X12_goes Φ 0 0 _ 100 k_X12_does false [.ref 0, .ref 494, .ref (mRF 413 ((nI i).toNatClampNeg))] [] [.ref 0, .int fr, .int (nI j), .int (nI i), mJ] (mset m 0 41 ((m 0 41) + (1 : Int32))) o 0 0 1)) ∧ (((mset m 0 41 ((m 0 41) + (1 : Int32))) (mRF 413 ((nI i).toNatClampNeg)) 0) = (4 : Int32) → mWB l g d k_X12_goes Φ 0 0 42 [.ref 0, .int fr, .int (nI j), .int (nI i), .int (0 : Int32)] [] (mset m 0 41 ((m 0 41) + (1 : Int32))) o 0 0)))))))
    have E1 : rE A X0 (exB e) (mset m 0 41 (nI (e.2.2.1 + 1))) := by
      obtain ⟨a1, a2, a3, a4, a5, a6, a7, a8⟩ := hE
      refine ⟨⟨fun a ha => by rw [mset_ne _ _ _ (by unfold cwA at ha; omega)]; exact a1.1 a ha, by rw [mset_eq, pk_un (by decide)]; exact a1.2⟩, fun a x1 x2 x3 x4 => by rw [mset_ne _ _ _ x1]; exact a2 a x1 x2 x3 x4, fun i i1 i2 i3 i4 => by rw [mset_eq, pk_un i3]; exact a3 i i1 i2 i3 i4, by rw [mset_ne _ _ _ (by decide)]; exact a4, by rw [mset_eq, pk_un (by decide)]; exact a5, by rw [mset_eq, pk_us]; rfl, by rw [mset_eq, pk_un (by decide)]; exact a7, by rw [mset_eq, pk_un (by decide)]; exact a8⟩
    have hr1 := rE_row E1 (show i < 80 by omega) (hX i (by omega))
    rw [e41, nI_1, nI_leI (by omega) (by omega), show (200 : Int32) = nI 200 from rfl, nI_leI (by decide) (by omega), mIn_ok (show i < 80 by omega) (by decide), nI_cl (by omega), rf_413, sB_5 (by omega), sL_5 (by omega)]
    generalize mset m 0 41 (nI (e.2.2.1 + 1)) = m1 at E1 hr1 ⊢
    rw [hr1.1, show (4 : Int32) = nI 4 from rfl, nI_eq (by omega) (by decide)]
    have k143 : ∀ (v : Value) (e1 : EX) (m2 : Mm), rE A X0 e1 m2 → exI A e1 → e.2.2.1 + 1 ≤ e1.2.2.1 → (∀ e', Ex A F N 0 (F i).2.2.2.1 j e1 e' → Ex A F (N + 1) 0 i j e e') → mWB l g d k_X12_goes Φ 0 0 143 [.ref 0, .int fr, .int (nI j), .int (nI i), mJ] [] m2 o 0 0 := by
      intro v e1 m2 E2 I2 hb2 hL
      have hr2 := rE_row E2 (show i < 80 by omega) (hX i (by omega))
      have e3 : m2 (414 + i) 3 = nI (F i).2.2.2.1 := hr2.2.2.2 (by omega)
      refine mGoOn (mOk (by decide)) rfl [2] 400 ?_
      show mReq (mInB (nI i) 80) (mReq (mIsB (mRF 413 ((nI i).toNatClampNeg)) 1) (mReq (mInB (3 : Int32) (mLn (mRF 413 ((nI i).toNatClampNeg)))) (mWB l g d k_X12_goes Φ 0 0 2 [.ref 0, .int fr, .int (nI j), .int (m2 (mRF 413 ((nI i).toNatClampNeg)) 3), mJ] [] m2 o 0 0)))
      rw [mIn_ok (show i < 80 by omega) (by decide), nI_cl (by omega), rf_413, sB_5 (by omega), sL_5 (by omega), e3]
      refine mReq_i rfl (mReq_i rfl (mReq_i rfl ?_))
      refine I0 htr d k fr (F i).2.2.2.1 j e1 m2 o Φ hd hk hj (fun u u1 u2 => hlv u (by omega) u2) ?_ I2 E2 (by omega) (fun e' m3 q1 q2 => hΦ e' m3 (hL e' q1) q2)
      have := I2.2.1
      have q : (200 - e1.2.2.1) * 20000 + 20000 ≤ (200 - e.2.2.1) * 20000 := by omega
      omega
    refine ⟨fun z => absurd z (by omega), fun _ => ⟨fun z => absurd z (by omega), fun _ => ⟨rfl, mReq_i rfl (mReq_i rfl (mReq_i rfl ⟨fun h4 => ?_, fun h4 => ?_⟩))⟩⟩⟩
    · have hX1 := (r_does (l := l) (g := g) (d := d - 1) hA E1.1 (by omega) (show i < 80 by omega) hr1 (by omega) o6 o7 (by rw [E1.2.2.2.1]; exact hI.1))
      rw [E1.2.2.2.1, E1.2.2.2.2.1] at hX1
      refine mReq_i rfl ⟨trivial, nCi htr hX1 (by omega) ?_⟩
      rintro x m2 ⟨p1, p2, p3, p4⟩
      have p1 : x = (doS A e.1 (F i) e.2.1).1 := p1
      have hS := exS_ok hA.1 o6 o7 hI hrun'.2
      have h01 := (doS_ok hA.1 hI.1 o6 o7 e.2.1).2
      have hES : ∀ m3 : Mm, (∀ a, a ≠ 0 → m3 a = m2 a) → (∀ t, t ≠ 37 → t ≠ 42 → m3 0 t = m2 0 t) → m3 0 42 = nI (exS A (F i) e).2.2.2.1 → m3 0 37 = nI (exS A (F i) e).2.2.2.2 → rE A X0 (exS A (F i) e) m3 := by
        intro m3 b1 b2 b3 b4
        obtain ⟨a1, a2, a3, a4, a5, a6, a7, a8⟩ := E1
        refine ⟨⟨fun a ha => by rw [b1 a (by unfold cwA at ha; omega), p2.1 a (by unfold cwA at ha; omega) (by unfold cwA at ha; omega) (by unfold cwA at ha; omega) (by unfold cwA at ha; omega)]; exact a1.1 a ha, by rw [b2 21 (by decide) (by decide), p2.2 21 (by decide)]; exact a1.2⟩, fun a x1 x2 x3 x4 => by rw [b1 a x1, p2.1 a x1 x2 x3 x4]; exact a2 a x1 x2 x3 x4, fun t i1 i2 i3 i4 => by rw [b2 t i1 i4, p2.2 t i2]; exact a3 t i1 i2 i3 i4, by rw [b1 494 (by decide), p3]; rfl, by rw [b2 40 (by decide) (by decide), p4]; rfl, by rw [b2 41 (by decide) (by decide), p2.2 41 (by decide)]; exact a6, b3, b4⟩
      have d42 : m2 0 42 = nI e.2.2.2.1 := by rw [p2.2 42 (by decide)]; exact E1.2.2.2.2.2.2.1
      have d37 : m2 0 37 = nI e.2.2.2.2 := by rw [p2.2 37 (by decide)]; exact E1.2.2.2.2.2.2.2
      show (Value.ref 0).category = 1 ∧ ((x = 0 → (Value.ref 0).category = 1 ∧ ((x = 0 → mWB l g d k_X12_goes Φ 0 0 143 [.ref 0, .int fr, .int (nI j), .int (nI i), .int x] [] (mset (mset m2 0 42 ((m2 0 42) + (0 : Int32))) 0 37 (((mset m2 0 42 ((m2 0 42) + (0 : Int32))) 0 37) + (1 : Int32))) o 0 0) ∧ (¬ x = 0 → mWB l g d k_X12_goes Φ 0 0 143 [.ref 0, .int fr, .int (nI j), .int (nI i), .int x] [] (mset (mset m2 0 42 ((m2 0 42) + (0 : Int32))) 0 37 (((mset m2 0 42 ((m2 0 42) + (0 : Int32))) 0 37) + (0 : Int32))) o 0 0))) ∧ (¬ x = 0 → (Value.ref 0).category = 1 ∧ ((x = 0 → mWB l g d k_X12_goes Φ 0 0 143 [.ref 0, .int fr, .int (nI j), .int (nI i), .int x] [] (mset (mset m2 0 42 ((m2 0 42) + (1 : Int32))) 0 37 (((mset m2 0 42 ((m2 0 42) + (1 : Int32))) 0 37) + (1 : Int32))) o 0 0) ∧ (¬ x = 0 → mWB l g d k_X12_goes Φ 0 0 143 [.ref 0, .int fr, .int (nI j), .int (nI i), .int x] [] (mset (mset m2 0 42 ((m2 0 42) + (1 : Int32))) 0 37 (((mset m2 0 42 ((m2 0 42) + (1 : Int32))) 0 37) + (0 : Int32))) o 0 0))))
      have hfin : ∀ m3, rE A X0 (exS A (F i) e) m3 → mWB l g d k_X12_goes Φ 0 0 143 [.ref 0, .int fr, .int (nI j), .int (nI i), .int x] [] m3 o 0 0 := fun m3 E3 => mWB_wk (k143 (.int x) (exS A (F i) e) m3 E3 hS (Nat.le_refl _) (fun e' L => Or.inl ⟨rfl, Or.inr ⟨hrun', Or.inr ⟨h4, L⟩⟩⟩)) ⟨Or.inr rfl, Or.inr rfl, Or.inr rfl, Or.inr rfl, Or.inl rfl, trivial⟩
      refine ⟨rfl, fun y => ⟨rfl, fun y2 => hfin _ (hES _ (fun a ha => by rw [mset_ne _ _ _ ha, mset_ne _ _ _ ha]) (fun t t1 t2 => by rw [mset_eq, pk_un t1, mset_eq, pk_un t2]) ?_ ?_), fun y2 => absurd y y2⟩, fun y => ⟨rfl, fun y2 => absurd y2 y, fun y2 => hfin _ (hES _ (fun a ha => by rw [mset_ne _ _ _ ha, mset_ne _ _ _ ha]) (fun t t1 t2 => by rw [mset_eq, pk_un t1, mset_eq, pk_un t2]) ?_ ?_)⟩⟩
      · rw [mset_eq, pk_un (by decide), mset_eq, pk_us, d42, nI_a0]
        show _ = nI (if _ then _ else _)
        rw [if_pos (by rw [← p1]; exact y)]
      · rw [mset_eq, pk_us, mset_eq, pk_un (by decide), d37, nI_1]
        show _ = nI (if _ then _ else _)
        rw [if_pos (by rw [← p1]; exact y)]
      · rw [mset_eq, pk_un (by decide), mset_eq, pk_us, d42, nI_1]
        show _ = nI (if _ then _ else _)
        rw [if_neg (by rw [← p1]; exact y)]
      · rw [mset_eq, pk_us, mset_eq, pk_un (by decide), d37, nI_a0]
        show _ = nI (if _ then _ else _)
        rw [if_neg (by rw [← p1]; exact y)]
    · have hlv5 := (o5 h4).1
      have hIB := exB_ok hI hrun'.2
      refine I1 htr d k fr i j 0 (exB e) m1 o Φ hd (by omega) (by omega) h4 hlvi (by decide) ?_ hIB E1 ?_
      · show (200 - (e.2.2.1 + 1)) * 20000 + (61 - 0) * 200 < N
        omega
      · intro e1 m2 L1 E2
        have B := Ex_ok hA.1 hF _ _ _ _ _ _ L1 hIB (fun z => absurd z (by decide)) (fun _ => by omega)
        refine mGoOn (mOk (by decide)) rfl [143] 400 ?_
        show mWB l g d k_X12_goes Φ 0 0 143 [.ref 0, .int fr, .int (nI j), .int (nI i), mJ] [] m2 o 0 0
        exact k143 .null e1 m2 E2 B.1 B.2 (fun e' L => Or.inl ⟨rfl, Or.inr ⟨hrun', Or.inl ⟨h4, e1, L1, L⟩⟩⟩)
theorem r_allG (hA : Sv A) (hc : c ≤ 75) (hF : ∀ i, i < c → okW (nM A) (nS A) 0 c F i) (hX : ∀ i, i < c → rowW X0 i (F i)) : ∀ N, cGo l g A X0 F c N ∧ cRp l g A X0 F c N
  | 0 => ⟨fun htr d k fr i j e m o Φ hd hk hj hlv hN => absurd hN (Nat.not_lt_zero _), fun htr d k fr i j t e m o Φ hd hk hi h4 hlv ht hN => absurd hN (Nat.not_lt_zero _)⟩
  | N + 1 => by
    obtain ⟨i0, i1⟩ := r_allG hA hc hF hX N
    exact ⟨r_go hA hc hF hX i0 i1, r_rp hA.1 hc hF hX i0 i1⟩
def fuE : Nat := 4000100
theorem fuE_lt {c : Nat} (hc : c ≤ 75) : (200 - 0) * 20000 + (c - 0) < fuE := by unfold fuE; omega
theorem r_goes (hA : Sv A) (hc : c ≤ 75) (hF : ∀ i, i < c → okW (nM A) (nS A) 0 c F i) (hX : ∀ i, i < c → rowW X0 i (F i)) {d : Nat} (hd : 16 ≤ d) {e : EX} {m : Mm} (hI : exI A e) (hE : rE A X0 e m) (hb : e.2.2.1 = 0) : mHv l g d k_X12_goes [.ref 0, .int 0, .int (nI c)] m (fun m2 => ∃ e', Ex A F fuE 0 0 c e e' ∧ rE A X0 e' m2) := by
  refine nBv 2 rfl rfl rfl (by decide) rfl (fun htr o Φ hΦ => mGoOn (mOk (by decide)) rfl [2] 400 ?_)
  show mWB l g d k_X12_goes Φ 0 0 2 [.ref 0, .int (0 : Int32), .int (nI c), .int (0 : Int32), mJ] [] m o 0 0
  exact (r_allG hA hc hF hX fuE).1 htr d 0 0 0 c e m o Φ hd (by decide) (Nat.le_refl _) (fun t _ ht => Nat.zero_le _) (by rw [hb]; exact fuE_lt hc) hI hE (Nat.zero_le _) (fun e' m2 q1 q2 => hΦ _ ⟨e', q1, q2⟩)
end R48
