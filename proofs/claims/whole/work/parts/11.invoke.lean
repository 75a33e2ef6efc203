theorem mMT_lt : mMT.all (fun q => decide (q.2.2.2.1 < 331) && decide (q.2.2.2.1 ≠ 167)) = true := by decide +kernel
theorem mMT_me {k i a kd : Nat} (hp : mMT.any (fun q => q.1 == mOc k && q.2.1 == i && q.2.2.1 == kd && q.2.2.2.1 == a) = true) : mMeP a ∧ (10 ≤ kd → ∃ host, (mCn (mOc k), i, mY a, host) ∈ mNW) ∧ (¬ 10 ≤ kd → Cond.methodLink (mCn (mOc k)) i (mY a) ∈ mGW) := by
  obtain ⟨q, hq, hq2⟩ := List.any_eq_true.mp hp
  simp only [Bool.and_eq_true, beq_iff_eq] at hq2
  obtain ⟨⟨⟨e1, e2⟩, e3⟩, e4⟩ := hq2
  have h1 := List.all_eq_true.mp mMT_lt q hq
  simp only [Bool.and_eq_true, decide_eq_true_eq] at h1
  rw [e4] at h1
  have h2 := List.all_eq_true.mp mMT_ok q hq
  unfold mMtB at h2
  rw [e1, e2, e3, e4] at h2
  refine ⟨mMeP_of (mOkM h1.1 h1.2), fun h => ?_, fun h => ?_⟩
  · rw [if_pos h] at h2
    cases hr : mNW[q.2.2.2.2]? with
    | none => rw [hr] at h2; cases h2
    | some r =>
      rw [hr] at h2
      simp only [Bool.and_eq_true, decide_eq_true_eq] at h2
      obtain ⟨r1, r2, r3, r4⟩ := r
      obtain ⟨⟨f1, f2⟩, f3⟩ := h2
      have hm := List.mem_of_getElem? hr
      dsimp only at f1 f2 f3
      rw [f1, f2, f3] at hm
      exact ⟨r4, hm⟩
  · rw [if_neg h, decide_eq_true_eq] at h2
    exact mGW_at _ h2 rfl
/-- the three kinds of answers, as one -/
theorem mCal_of {l : Launch} {g : mG} {d k : Nat} {Φ : mR → Mm → Int64 → Prop} {MC MS : Nat} {nx : Nat → List Value → List Value → Mm → Int64 → Nat → Nat → Prop} {pc a : Nat} {nt : Bool} {As R L : List Value} {m : Mm} {o : Int64} {cN sN c : Nat} (h : mCal l g d k Φ MC MS nx pc a nt As R L m o cN sN c) :
    ∃ (d' : Nat) (Ψ : mR → Mm → Int64 → Prop) (mc ms : Nat), d' + 1 ≤ d ∧ mSat l g d' a As m o Ψ mc ms ∧ cN + mc ≤ MC ∧ sN + ms ≤ MS ∧ (∀ v m' o', Ψ (.inl v) m' o' → nx (pc + 3) L (v.toList ++ R) m' o' (cN + mc) (sN + ms)) ∧ (bif nt then ∀ x m' o', ¬ Ψ (.inr x) m' o' else ∀ x m' o', Ψ (.inr x) m' o' → mXB l g d k Φ MC MS pc x L m' o' (cN + mc) (sN + ms)) := by
  unfold mCal at h
  split at h
  · obtain ⟨d', Ψ, Ξ, mc, ms, h1, h2, h3, h4, h5, h6⟩ := h
    refine ⟨d', mVX Ψ Ξ, mc, ms, h1, h2, h3, h4, fun v m' o' q => ?_, h6⟩
    cases v with
    | none => exact h5 m' o' q
    | some w => exact q.elim
  · obtain ⟨d', Ψ, Ξ, mc, ms, h1, h2, h3, h4, h5, h6⟩ := h
    refine ⟨d', mIX Ψ Ξ, mc, ms, h1, h2, h3, h4, fun v m' o' q => ?_, h6⟩
    cases v with
    | none => exact q.elim
    | some w => cases w with
      | int x => exact h5 x m' o' q
      | _ => exact q.elim
  · obtain ⟨d', Ψ, Ξ, mc, ms, h1, h2, h3, h4, h5, h6⟩ := h
    refine ⟨d', mLX Ψ Ξ, mc, ms, h1, h2, h3, h4, fun v m' o' q => ?_, h6⟩
    cases v with
    | none => exact q.elim
    | some w => cases w with
      | long x => exact h5 x m' o' q
      | _ => exact q.elim
  · obtain ⟨d', Ψ, h1, h2, h3, h4, h5⟩ := h
    refine ⟨d', mRX Ψ, 0, 0, h1, h2, h3, h4, fun v m' o' q => ?_, ?_⟩
    · cases v with
      | none => exact q.elim
      | some w => cases w with
        | ref x => exact h5 _ m' o' q
        | null => exact h5 _ m' o' q
        | _ => exact q.elim
    · cases nt
      · exact fun x m' o' q => q.elim
      · exact fun x m' o' q => q
theorem mNl_use {A : String} {i : Nat} {Y : MethodName} {host : String} {args : Array Value} {s : State} (h : va_Nw (.methodLinkNest A i Y host) s) : (Cond.methodLinkNest A i Y host).before args s = true := va_Nw.use rfl h
theorem mSig {a n : Nat} (h : (parseMethodDescriptor (mY a).desc).map (fun d => d.parameters.length) = some n) : ∀ sig, parseMethodDescriptor (mY a).desc = some sig → n = sig.parameters.length := fun sig q => by
  rw [q] at h
  exact (Option.some.inj h).symm
theorem mAc_1 : Cond.native arraycopyName ∈ mGW := mGW_at 530 (by decide +kernel) rfl
theorem mAc_2 : Cond.static arraycopyName ∈ mGW := mGW_at 529 (by decide +kernel) rfl
theorem mAc_3 : Cond.initialized "java/lang/System" ∈ mGW := mGW_at 113 (by decide +kernel) rfl
theorem mMi_1 : Cond.static Lib.Math.min.name ∈ mGW := mGW_at 526 (by decide +kernel) rfl
theorem mMi_2 : Cond.initialized "java/lang/Math" ∈ mGW := mGW_at 112 (by decide +kernel) rfl
theorem mMi_3 : Cond.code Lib.Math.min.name Lib.Math.min.code 2 (some .int) ∈ mGW := mGW_at 527 (by decide +kernel) rfl
theorem mMa_1 : Cond.static Lib.Math.max.name ∈ mGW := mGW_at 1010 (by decide +kernel) rfl
theorem mMa_3 : Cond.code Lib.Math.max.name Lib.Math.max.code 2 (some .int) ∈ mGW := mGW_at 1011 (by decide +kernel) rfl
theorem mNest_all : mMT.all (fun q => decide (q.2.2.1 < 10) || decide (mHd q.2.2.2.1 = [])) = true := by decide +kernel
theorem mNest_hd {k i a kd : Nat} (hp : mMT.any (fun q => q.1 == mOc k && q.2.1 == i && q.2.2.1 == kd && q.2.2.2.1 == a) = true) (h : 10 ≤ kd) : mHd a = [] := by
  obtain ⟨q, hq, hq2⟩ := List.any_eq_true.mp hp
  simp only [Bool.and_eq_true, beq_iff_eq] at hq2
  have h1 := List.all_eq_true.mp mNest_all q hq
  rw [hq2.1.2, hq2.2] at h1
  simp only [Bool.or_eq_true, decide_eq_true_eq] at h1
  rcases h1 with h1 | h1
  · omega
  · exact h1
theorem ms_invokestatic {l : Launch} {g : mG} {d k : Nat} {Φ : mR → Mm → Int64 → Prop} {MC MS : Nat} {pc len a b c : Nat} {ts : List Nat} {nx : Nat → List Value → List Value → Mm → Int64 → Nat → Nat → Prop} (hn : ∀ pc L S m o c s, nx pc L S m o c s → mWB l g d k Φ MC MS pc L S m o c s) {L S : List Value} {m : Mm} {o : Int64} {cN sN : Nat} {i : Nat}
    (hd : decode (mBy k) pc = .ok (.invokestatic i, len)) (hln : mLnB (.invokestatic i) len = true) (hp : mPay k pc (.invokestatic i) a b c ts = true) (h : mStep l g d k Φ MC MS nx pc (.invokestatic i, len, a, b, c, ts) L S m o cN sN) : mWB l g d k Φ MC MS pc L S m o cN sN := by
  intro p ev s mi args below meth cd H locs ls C hP hS hL
  obtain ⟨hx, hb, hml, hr, hlk, hown, hts, htab, htr, hW, hB⟩ := id C
  have e1 : len = 3 := Nat.eq_of_beq_eq_true hln
  subst e1
  have hp : (if a < 1000 then mMT.any (fun q => q.1 == mOc k && q.2.1 == i && q.2.2.1 == ts.getD 0 99 && q.2.2.2.1 == a) && decide ((mPl a).getD 4 0 = 1) && decide (b = (mPl a).getD 5 0) && (ts.getD 0 99 == 0 || ts.getD 0 99 == 10) else if a = 1002 then mKT.any (fun q => q.1 == mOc k && q.2.1 == i) else if 1003 ≤ a ∧ a ≤ 1005 then mJT.any (fun q => q.1 == mOc k && q.2.1 == i && q.2.2.1 == a) else true) = true := hp
  have h : (bif Nat.blt a 1000 then mReq (Nat.ble b S.length && Nat.ble ((S.drop b).map fun v => v.category).sum 8) (mCal l g d k Φ MC MS nx pc a (Nat.blt 9 (ts.getD 0 99)) (S.take b).reverse (S.drop b) L m o cN sN c)
    else bif Nat.beq a 1002 then mCpy S (fun n dp y sp x t => mReq (mIsB x 1) (mReq (mIsB y 1) (¬ sp < 0 ∧ ¬ dp < 0 ∧ ¬ n < 0 ∧ sp.toNatClampNeg + n.toNatClampNeg ≤ mLn x ∧ dp.toNatClampNeg + n.toNatClampNeg ≤ mLn y ∧ 1 ≤ d ∧ (t.map fun v => v.category).sum ≤ 8 ∧ nx (pc + 3) L t (mput m y (va_cpy (m x) (m y) sp.toNatClampNeg dp.toNatClampNeg n.toNatClampNeg)) o cN sN)))
    else bif Nat.beq a 1003 then m2i S (fun x y t => 1 ≤ d ∧ (t.map fun v => v.category).sum ≤ 8 ∧ cN ≤ MC ∧ sN ≤ MS ∧ nx (pc + 3) L (.int (if y < x then y else x) :: t) m o cN sN)
    else bif Nat.beq a 1004 then m2i S (fun x y t => 1 ≤ d ∧ (t.map fun v => v.category).sum ≤ 8 ∧ cN ≤ MC ∧ sN ≤ MS ∧ nx (pc + 3) L (.int (if x < y then y else x) :: t) m o cN sN)
    else False) := h
  have hcat : ∀ t : List Value, ((t.map (mtr (gA g))).map fun v => v.category).sum = (t.map fun v => v.category).sum := fun t => by
    rw [List.map_map]
    congr 1
    apply List.map_congr_left
    intro v _
    exact mtr_cat _ v
  cases ha : Nat.blt a 1000 with
  | true =>
    rw [ha, cond_true] at h
    rw [if_pos (by simpa [Nat.blt_eq] using ha)] at hp
    simp only [Bool.and_eq_true, decide_eq_true_eq, Bool.or_eq_true, beq_iff_eq] at hp
    obtain ⟨⟨⟨hp1, hp2⟩, hp3⟩, hp4⟩ := hp
    obtain ⟨hpl, h⟩ := mReq_of h
    rw [Bool.and_eq_true] at hpl
    have hlen : b ≤ S.length := Nat.le_of_ble_eq_true hpl.1
    have h8 : ((S.drop b).map fun v => v.category).sum ≤ 8 := Nat.le_of_ble_eq_true hpl.2
    obtain ⟨⟨m1, m2, m3, m4, m5, m6, m7, m8, m9⟩, hnest, hlink⟩ := mMT_me hp1
    obtain ⟨d', Ψ, mc, ms, hd1, hM, hc1, hc2, kk, kx⟩ := mCal_of h
    have hst : S.map (mtr (gA g)) = ((S.take b).reverse.map (mtr (gA g))).reverse ++ (S.drop b).map (mtr (gA g)) := by
      conv => lhs; rw [mSplit hlen]
      rw [List.map_append, ← List.map_reverse]
    have hal : ((S.take b).reverse.map (mtr (gA g))).length = (mPl a).getD 5 0 := by
      rw [List.length_map, List.length_reverse, List.length_take]
      omega
    have hpre : PreS s H (mPc g (S.take b).reverse m o) ((S.take b).reverse.map (mtr (gA g))) := ⟨mPc_blind, fun U hU hWm => ⟨rfl, mW_move hWm hW hS hU, by rw [hU]; exact hP, by rw [hU]; exact Nat.le_trans hB hS.1⟩⟩
    have hwd : ∀ w ∈ mWs a, ∀ (a' : Array Value) (U : State), s.WarmedH U.vm → w.before a' U = true := pay_in hts (mGoodIn m1)
    have hfr : (mRm d' mc ms).frames + 1 ≤ (mRm d MC MS).frames := hd1
    have hlo : 8 + (mNl a + 11) + (mRm d' mc ms).locals ≤ (mRm d MC MS).locals := by
      show 8 + (mNl a + 11) + 64 * d' ≤ 64 * d
      omega
    have hcode0 : (mCW a).before args s = true := hts _ (List.mem_cons_of_mem _ m1)
    have hini : (Cond.initialized (mY a).cls).before args s = true := hts _ (List.mem_cons_of_mem _ m2)
    have hstat : (Cond.static (mY a)).before args s = true := hts _ (List.mem_cons_of_mem _ (m3 hp2))
    have hfit : cN + mc ≤ (mRm d MC MS).cells ∧ sN + ms ≤ (mRm d MC MS).slots := ⟨hc1, hc2⟩
    have kk' : ∀ (v : Option Value) (m' : Mm) (o' : Int64), Ψ (.inl v) m' o' → mWB l g d k Φ MC MS (pc + 3) L (v.toList ++ S.drop b) m' o' (cN + mc) (sN + ms) := fun v m' o' q => hn _ _ _ _ _ _ _ (kk v m' o' q)
    have hroom : 2 * (F0 mi pc ls (S.map (mtr (gA g)))).monitorRoom + (((S.drop b).map (mtr (gA g))).map fun v => v.category).sum ≤ 8 := lv_room (by rw [hcat]; exact h8)
    rcases hp4 with hk0 | hk10
    · have hl : (Cond.methodLink (mCn (mOc k)) i (mY a)).before args s = true := hts _ (List.mem_cons_of_mem _ (hlink (by omega)))
      have kx' : ∀ (x : Nat) (m' : Mm) (o' : Int64), Ψ (.inr x) m' o' → mXB l g d k Φ MC MS pc x L m' o' (cN + mc) (sN + ms) := by
        rw [hk0] at kx
        exact kx
      cases hh : mHd a with
      | nil =>
        have hcw : mCW a = .code (mY a) (mBy a) (mNl a) (mRt a) := by unfold mCW; rw [hh]
        rw [hcw] at hcode0
        exact mGo (vx_runS (As := (S.take b).reverse.map (mtr (gA g))) (rest := (S.drop b).map (mtr (gA g))) ⟨hx, hb, hml, hown, hts⟩ hM ⟨⟨rfl, rfl, hfr, hlo, hwd, by rw [← hcw]; exact List.mem_cons_self, hcode0, hini, m6, mSig m9, hl⟩, hstat⟩ hpre rfl hal hL.1 hst hroom hd hfit) C hS hL kk' kx'
      | cons q0 q1 =>
        have hcw : mCW a = .codeWith (mY a) (mBy a) (mNl a) (mRt a) (mHd a) := by unfold mCW; rw [hh]
        rw [hcw] at hcode0
        exact mGo (vx_runSX (hh := mHd a) (As := (S.take b).reverse.map (mtr (gA g))) (rest := (S.drop b).map (mtr (gA g))) ⟨hx, hb, hml, hown, hts⟩ hM ⟨⟨rfl, rfl, hfr, hlo, hwd, by rw [← hcw]; exact List.mem_cons_self⟩, hcode0, hini, m6, mSig m9, hl, hstat⟩ hpre rfl hal hL.1 hst hroom hd hfit) C hS hL kk' kx'
    · obtain ⟨host, hhost⟩ := hnest (by omega)
      have kx' : ∀ x m' o', ¬ Ψ (.inr x) m' o' := by
        rw [hk10] at kx
        exact kx
      have hM' := mMet hM kx'
      have hnl : (Cond.methodLinkNest (mCn (mOc k)) i (mY a) host).before args s = true := mNl_use (hW.2.1 (mCn (mOc k), i, mY a, host) hhost)
      cases hh : mHd a with
      | nil =>
        have hcw : mCW a = .code (mY a) (mBy a) (mNl a) (mRt a) := by unfold mCW; rw [hh]
        rw [hcw] at hcode0
        exact mGo' (va_runSN (As := (S.take b).reverse.map (mtr (gA g))) (rest := (S.drop b).map (mtr (gA g))) ⟨hx, hb, hml, hown, hts⟩ hM' ⟨⟨⟨rfl, rfl, hfr, hlo, hwd, by rw [← hcw]; exact List.mem_cons_self⟩, hcode0, hini, m6, mSig m9, hnl⟩, hstat, trivial⟩ hpre rfl hal hL.1 hst hroom hd hfit) C hS hL kk'
      | cons q0 q1 => exact absurd hh (by have := mNest_hd hp1 (by omega); rw [this]; intro z; cases z)
  | false =>
    rw [ha, cond_false] at h
    have hna : ¬ a < 1000 := fun q => by
      have h9 : Nat.blt a 1000 = true := by simpa [Nat.blt_eq] using q
      rw [h9] at ha
      cases ha
    rw [if_neg hna] at hp
    cases ha2 : Nat.beq a 1002 with
    | true =>
      rw [ha2, cond_true] at h
      have e2 : a = 1002 := Nat.eq_of_beq_eq_true ha2
      rw [if_pos e2] at hp
      obtain ⟨n, dp, y, sp, x, t, rfl, h2⟩ := mCpy_of h
      obtain ⟨hxb, h3⟩ := mReq_of h2
      obtain ⟨hyb, h4, h5, h6, h7, h8, h9, h10, h11⟩ := mReq_of h3
      obtain ⟨hxn, hxk⟩ := mIsB_of hxb
      obtain ⟨hyn, hyk⟩ := mIsB_of hyb
      obtain ⟨q, hq, hq2⟩ := List.any_eq_true.mp hp
      simp only [Bool.and_eq_true, beq_iff_eq] at hq2
      have hq3 := List.all_eq_true.mp mKT_ok q hq
      unfold mKtB at hq3
      rw [hq2.1, hq2.2, decide_eq_true_eq] at hq3
      have hnf : nativeFrameWords "java/lang/System" "arraycopy" 5 ≤ 20 := by decide
      refine va_copyi (a := gA g y) hx hb (hml.trans hL.1.symm) hown (hts _ (List.mem_cons_of_mem _ (mGW_at _ hq3 rfl))) (hts _ (List.mem_cons_of_mem _ mAc_1)) (hts _ (List.mem_cons_of_mem _ mAc_2)) (hts _ (List.mem_cons_of_mem _ mAc_3)) hW.1 hP.1 hP.2 hS x y 0 0 (by rw [mLs_at g m o hxn, mCE_1 g m o hxk]) (by rw [mLs_at g m o hyn, mCE_1 g m o hyk]) rfl rfl rfl h4 h5 h6 h7 h8 (fun _ _ => rfl) h9 (by rw [hcat]; show _ + (nativeFrameWords "java/lang/System" "arraycopy" 5 + 11) ≤ 64 * d; omega) hd (fun H1 locs1 hP1 hD1 hS1 => ?_)
      rw [mLs_set g (m' := mput m y (va_cpy (m x) (m y) sp.toNatClampNeg dp.toNatClampNeg n.toNatClampNeg)) (o' := o) _ (by rw [mCE_1 g _ o hyk, mput_eq]) (fun j hj => mCE_eq g o (mput_ne m _ hj).symm)] at hP1 hD1
      exact hn _ _ _ _ _ _ _ h11 p ev s mi args below meth cd H1 locs1 ls C ⟨hP1, hD1⟩ hS1 hL
    | false =>
      rw [ha2, cond_false] at h
      rw [if_neg (by intro q; rw [q] at ha2; cases ha2)] at hp
      cases ha3 : Nat.beq a 1003 with
      | true =>
        rw [ha3, cond_true] at h
        have e3 : a = 1003 := Nat.eq_of_beq_eq_true ha3
        subst e3
        rw [if_pos (by omega)] at hp
        obtain ⟨x, y, t, rfl, h2, h3, h4, h5, h6⟩ := m2i_of h
        obtain ⟨q, hq, hq2⟩ := List.any_eq_true.mp hp
        simp only [Bool.and_eq_true, beq_iff_eq] at hq2
        have hq3 := List.all_eq_true.mp mJT_ok q hq
        unfold mJtB at hq3
        rw [hq2.1.1, hq2.1.2, hq2.2, decide_eq_true_eq] at hq3
        exact va_mmin hx hb (hml.trans hL.1.symm) hown (hts _ (List.mem_cons_of_mem _ (mGW_at _ hq3 rfl))) (hts _ (List.mem_cons_of_mem _ mMi_1)) (hts _ (List.mem_cons_of_mem _ mMi_2)) (hts _ (List.mem_cons_of_mem _ mMi_3)) h2 (by rw [hcat]; show _ + 13 ≤ 64 * d; omega) h4 h5 hd (hn _ _ _ _ _ _ _ h6 p ev s mi args below meth cd H locs ls C hP hS hL)
      | false =>
        rw [ha3, cond_false] at h
        cases ha4 : Nat.beq a 1004 with
        | true =>
          rw [ha4, cond_true] at h
          have e4 : a = 1004 := Nat.eq_of_beq_eq_true ha4
          subst e4
          rw [if_pos (by omega)] at hp
          obtain ⟨x, y, t, rfl, h2, h3, h4, h5, h6⟩ := m2i_of h
          obtain ⟨q, hq, hq2⟩ := List.any_eq_true.mp hp
          simp only [Bool.and_eq_true, beq_iff_eq] at hq2
          have hq3 := List.all_eq_true.mp mJT_ok q hq
          unfold mJtB at hq3
          rw [hq2.1.1, hq2.1.2, hq2.2, decide_eq_true_eq] at hq3
          exact va_mmax hx hb (hml.trans hL.1.symm) hown (hts _ (List.mem_cons_of_mem _ (mGW_at _ hq3 rfl))) (hts _ (List.mem_cons_of_mem _ mMa_1)) (hts _ (List.mem_cons_of_mem _ mMi_2)) (hts _ (List.mem_cons_of_mem _ mMa_3)) h2 (by rw [hcat]; show _ + 13 ≤ 64 * d; omega) h4 h5 hd (hn _ _ _ _ _ _ _ h6 p ev s mi args below meth cd H locs ls C hP hS hL)
        | false => rw [ha4, cond_false] at h; exact h.elim
