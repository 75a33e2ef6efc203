theorem mVirt_all : mMT.all (fun q => decide (q.2.2.1 = 0) || decide (mHd q.2.2.2.1 = [])) = true := by decide +kernel
theorem mVirt_hd {k i a kd : Nat} (hp : mMT.any (fun q => q.1 == mOc k && q.2.1 == i && q.2.2.1 == kd && q.2.2.2.1 == a) = true) (h : kd ≠ 0) : mHd a = [] := by
  obtain ⟨q, hq, hq2⟩ := List.any_eq_true.mp hp
  simp only [Bool.and_eq_true, beq_iff_eq] at hq2
  have h1 := List.all_eq_true.mp mVirt_all q hq
  rw [hq2.1.2, hq2.2] at h1
  simp only [Bool.or_eq_true, decide_eq_true_eq] at h1
  rcases h1 with h1 | h1
  · exact absurd h1 h
  · exact h1
theorem ms_invokevirtual {l : Launch} {g : mG} {d k : Nat} {Φ : mR → Mm → Int64 → Prop} {MC MS : Nat} {pc len a b c : Nat} {ts : List Nat} {nx : Nat → List Value → List Value → Mm → Int64 → Nat → Nat → Prop} (hn : ∀ pc L S m o c s, nx pc L S m o c s → mWB l g d k Φ MC MS pc L S m o c s) {L S : List Value} {m : Mm} {o : Int64} {cN sN : Nat} {i : Nat}
    (hd : decode (mBy k) pc = .ok (.invokevirtual i, len)) (hln : mLnB (.invokevirtual i) len = true) (hp : mPay k pc (.invokevirtual i) a b c ts = true) (h : mStep l g d k Φ MC MS nx pc (.invokevirtual i, len, a, b, c, ts) L S m o cN sN) : mWB l g d k Φ MC MS pc L S m o cN sN := by
  intro p ev s mi args below meth cd H locs ls C hP hS hL
  obtain ⟨hx, hb, hml, hr, hlk, hown, hts, htab, htr, hW, hB⟩ := id C
  have e1 : len = 3 := Nat.eq_of_beq_eq_true hln
  subst e1
  have hp : (if a < 1000 then mMT.any (fun q => q.1 == mOc k && q.2.1 == i && q.2.2.1 == ts.getD 0 99 && q.2.2.2.1 == a) && decide ((mPl a).getD 4 0 ≠ 1) && decide ((mY a).name ≠ "<init>") && decide (b = (mPl a).getD 5 0 + 1) && (if ts.getD 0 99 = 3 then decide ((mY a).cls = "java/lang/String") else (ts.getD 0 99 == 1 && (match vwCl[ts.getD 1 99]? with | some r => decide (r.1 = (mY a).cls) | none => false))) else true) = true := hp
  have h : (bif Nat.blt a 1000 then mReq (Nat.ble b S.length && Nat.ble ((S.drop b).map fun v => v.category).sum 8) (m1r (S.take b).reverse (fun z _ => (bif Nat.beq (ts.getD 0 99) 3 then (∃ i, i < mTx.length ∧ z = mSt i) else mReq (mIsB z (10 + ts.getD 1 99)) True) ∧ mCal l g d k Φ MC MS nx pc a false (S.take b).reverse (S.drop b) L m o cN sN c)) else False) := h
  have hcat : ∀ t : List Value, ((t.map (mtr (gA g))).map fun v => v.category).sum = (t.map fun v => v.category).sum := fun t => by
    rw [List.map_map]
    congr 1
    apply List.map_congr_left
    intro v _
    exact mtr_cat _ v
  cases ha : Nat.blt a 1000 with
  | false => rw [ha, cond_false] at h; exact h.elim
  | true =>
    rw [ha, cond_true] at h
    rw [if_pos (by simpa [Nat.blt_eq] using ha)] at hp
    simp only [Bool.and_eq_true, decide_eq_true_eq] at hp
    obtain ⟨⟨⟨⟨hp1, hp2⟩, hp3⟩, hp4⟩, hp5⟩ := hp
    obtain ⟨hpl, h⟩ := mReq_of h
    rw [Bool.and_eq_true] at hpl
    have hlen : b ≤ S.length := Nat.le_of_ble_eq_true hpl.1
    have h8 : ((S.drop b).map fun v => v.category).sum ≤ 8 := Nat.le_of_ble_eq_true hpl.2
    obtain ⟨z, As, hz, hrec, hcal⟩ := m1r_of h
    obtain ⟨⟨m1, m2, m3, m4, m5, m6, m7, m8, m9⟩, hnest, hlink⟩ := mMT_me hp1
    have hkd : ts.getD 0 99 = 3 ∨ ts.getD 0 99 = 1 := by
      by_cases q : ts.getD 0 99 = 3
      · exact Or.inl q
      · rw [if_neg q, Bool.and_eq_true, beq_iff_eq] at hp5
        exact Or.inr hp5.1
    have hcell : ∃ cellB : Cell, H[gA g z]? = some cellB ∧ cellB.vm.isStatics = false ∧ s.vm.findClass (mY a).cls = some cellB.cls := by
      rcases hkd with q | q
      · rw [if_pos q, decide_eq_true_eq] at hp5
        rw [q] at hrec
        obtain ⟨i9, hi9, rfl⟩ := hrec
        obtain ⟨-, -, -, w4, -, -, -, -, -, w10, -⟩ := hW
        rw [hp5, w10 i9 hi9]
        exact vk_recv w4 hi9 hS
      · rw [if_neg (by omega), Bool.and_eq_true] at hp5
        rw [q] at hrec
        obtain ⟨hzb, -⟩ := mReq_of (show mReq (mIsB z (10 + ts.getD 1 99)) True from hrec)
        obtain ⟨hzn, hzk⟩ := mIsB_of hzb
        have hp6 := hp5.2
        cases hq : vwCl[ts.getD 1 99]? with
        | none => rw [hq] at hp6; cases hp6
        | some r =>
          rw [hq] at hp6
          have hp7 : r.1 = (mY a).cls := of_decide_eq_true hp6
          rw [← hp7]
          exact va_recv hW.1 hP.1 hq (q0 := z) (by rw [mLs_at g m o hzn, mCE_ob g m o hzk])
    obtain ⟨d', Ψ, mc, ms, hd1, hM, hc1, hc2, kk, kx⟩ := mCal_of hcal
    rw [hz] at hM
    have hst : S.map (mtr (gA g)) = (As.map (mtr (gA g))).reverse ++ .ref (gA g z) :: (S.drop b).map (mtr (gA g)) := by
      conv => lhs; rw [mSplit hlen]
      rw [List.map_append, hz, List.reverse_cons, List.map_append, List.append_assoc, ← List.map_reverse]
      rfl
    have hal : (As.map (mtr (gA g))).length = (mPl a).getD 5 0 := by
      have h9 : (S.take b).reverse.length = b := by rw [List.length_reverse, List.length_take]; omega
      rw [hz, List.length_cons] at h9
      rw [List.length_map]
      omega
    have hpre : PreV s H (mY a).cls (gA g z) (mPc g (.ref z :: As) m o) (As.map (mtr (gA g))) := ⟨mPc_blind, hcell, fun U hU hWm => ⟨rfl, mW_move hWm hW hS hU, by rw [hU]; exact hP, by rw [hU]; exact Nat.le_trans hB hS.1⟩⟩
    have hwd : ∀ w ∈ mWs a, ∀ (a' : Array Value) (U : State), s.WarmedH U.vm → w.before a' U = true := pay_in hts (mGoodIn m1)
    have hfr : (mRm d' mc ms).frames + 1 ≤ (mRm d MC MS).frames := hd1
    have hlo : 8 + (mNl a + 11) + (mRm d' mc ms).locals ≤ (mRm d MC MS).locals := by
      show 8 + (mNl a + 11) + 64 * d' ≤ 64 * d
      omega
    have hcode0 : (mCW a).before args s = true := hts _ (List.mem_cons_of_mem _ m1)
    have hini : (Cond.initialized (mY a).cls).before args s = true := hts _ (List.mem_cons_of_mem _ m2)
    have hinst : (Cond.instanceMethod (mY a)).before args s = true := hts _ (List.mem_cons_of_mem _ (m4 hp2))
    have hsel : (Cond.selects (mY a).cls (mY a) (mY a)).before args s = true := hts _ (List.mem_cons_of_mem _ (m5 hp2 hp3))
    have hfit : cN + mc ≤ (mRm d MC MS).cells ∧ sN + ms ≤ (mRm d MC MS).slots := ⟨hc1, hc2⟩
    have kk' : ∀ (v : Option Value) (m' : Mm) (o' : Int64), Ψ (.inl v) m' o' → mWB l g d k Φ MC MS (pc + 3) L (v.toList ++ S.drop b) m' o' (cN + mc) (sN + ms) := fun v m' o' q => hn _ _ _ _ _ _ _ (kk v m' o' q)
    have hroom : 2 * (F0 mi pc ls (S.map (mtr (gA g)))).monitorRoom + (((S.drop b).map (mtr (gA g))).map fun v => v.category).sum ≤ 8 := lv_room (by rw [hcat]; exact h8)
    have hl : (Cond.methodLink (mCn (mOc k)) i (mY a)).before args s = true := hts _ (List.mem_cons_of_mem _ (hlink (by omega)))
    have hh : mHd a = [] := mVirt_hd hp1 (by omega)
    have hcw : mCW a = .code (mY a) (mBy a) (mNl a) (mRt a) := by unfold mCW; rw [hh]
    rw [hcw] at hcode0
    exact mGo (vx_runV (C := (mY a).cls) (As := As.map (mtr (gA g))) (rest := (S.drop b).map (mtr (gA g))) ⟨hx, hb, hml, hown, hts⟩ hM ⟨⟨rfl, rfl, hfr, hlo, hwd, by rw [← hcw]; exact List.mem_cons_self, hcode0, hini, m6, mSig m9, hl⟩, hinst, hsel⟩ hpre rfl hal hL.1 hst hroom hd hfit) C hS hL kk' kx
