set_option maxRecDepth 100000
/-! THE FIRST CELLS: calls -/
theorem bCall_of {k : Nat} {e : Instr × Nat × Nat × Nat × Nat × List Nat} {S : List Value} {σ : bS} {q : Nat × List Value × List Value} (h : bCall k e S σ = some q) :
    q = (e.2.2.1, (S.take e.2.2.2.1).reverse, S.drop e.2.2.2.1) ∧ e.2.2.1 < 331 ∧ e.2.2.1 ≠ 167 ∧ plainName (mY e.2.2.1).cls = true ∧ e.2.2.2.1 ≤ S.length ∧ ((S.drop e.2.2.2.1).map fun v => v.category).sum ≤ 8 ∧ mHd e.2.2.1 = [] ∧ (∀ v ∈ (S.take e.2.2.2.1).reverse, v.category = 1) ∧ e.2.2.2.1 ≤ mNl e.2.2.1 := by
  unfold bCall at h
  obtain ⟨hc, h⟩ := bq_of h
  simp only [Bool.and_eq_true] at hc
  obtain ⟨c1, c2, c3, c4, c5, c6, c7, c8⟩ := hc
  have hq : q = (e.2.2.1, (S.take e.2.2.2.1).reverse, S.drop e.2.2.2.1) := by
    split at h
    · exact (Option.some.inj (bq_of h).2).symm
    · exact (Option.some.inj (bq_of h).2).symm
    · exact (Option.some.inj (bq_of h).2).symm
    · cases h
  refine ⟨hq, (blt_if _ _).mp c1, fun z => ?_, c3, Nat.le_of_ble_eq_true c4, Nat.le_of_ble_eq_true c5, of_decide_eq_true c6, fun v hv => ?_, Nat.le_of_ble_eq_true c8⟩
  · rw [z] at c2
    exact absurd c2 (by decide)
  · exact Nat.eq_of_beq_eq_true (List.all_eq_true.mp c7 v (List.mem_reverse.mp hv))
theorem bCall_sound {l : Launch} {g : mG} {d d' k : Nat} {Q : List Frame → Array Value → State → State → Prop} {MC MS base pc : Nat} {e : Instr × Nat × Nat × Nat × Nat × List Nat} {L S : List Value} {σ σ' : bS} {q : Nat × List Value × List Value} (hG : bG g) (hk : mChk k = true) (he : mFind (mCd k) pc = some e) (hq : bCall k e S σ = some q) (hM : bSat l g d' q.1 q.2.1 σ σ') (hd' : d' + 1 ≤ d) (hmo : σ.1 ≤ σ'.1) (hbs : base ≤ σ.1) (h1 : σ'.1 - base ≤ MC) (h2 : bSl σ'.1 - bSl base ≤ MS)
    (kk : bWB l g d k Q MC MS base (pc + 3) L q.2.2 σ') : bWB l g d k Q MC MS base pc L S σ := by
  obtain ⟨rfl, c1, c2, c3, hlen, h8, hh, hcat1, c8⟩ := bCall_of hq
  obtain ⟨ins, len, a, b, c, ts⟩ := e
  obtain ⟨hd, hln, hp⟩ := mDec hk he
  intro p ev s mi args below meth cd H locs ls C hin hsz hP hS hL
  obtain ⟨hx, hb, hml, hr, hlk, hown, hts, htab, htr, hW, hB⟩ := id C
  have hM : bSat l g d' a (S.take b).reverse σ σ' := hM
  have kk : bWB l g d k Q MC MS base (pc + 3) L (S.drop b) σ' := kk
  have hlen : b ≤ S.length := hlen
  have h8 : ((S.drop b).map fun v => v.category).sum ≤ 8 := h8
  have hh : mHd a = [] := hh
  have hcat : ∀ t : List Value, ((t.map (mtr (gA g))).map fun v => v.category).sum = (t.map fun v => v.category).sum := fun t => by
    rw [List.map_map]
    congr 1
    apply List.map_congr_left
    intro v _
    exact mtr_cat _ v
  have hfr : (mRm d' (σ'.1 - σ.1) (bSl σ'.1 - bSl σ.1)).frames + 1 ≤ (mRm d MC MS).frames := hd'
  have hm := bSl_mono hbs
  have hm2 := bSl_mono hmo
  have hfit : (σ.1 - base) + (σ'.1 - σ.1) ≤ (mRm d MC MS).cells ∧ (bSl σ.1 - bSl base) + (bSl σ'.1 - bSl σ.1) ≤ (mRm d MC MS).slots := ⟨by show _ ≤ MC; omega, by show _ ≤ MS; omega⟩
  have hroom : 2 * (F0 mi pc ls (S.map (mtr (gA g)))).monitorRoom + (((S.drop b).map (mtr (gA g))).map fun v => v.category).sum ≤ 8 := lv_room (by rw [hcat]; exact h8)
  have hcw : mCW a = .code (mY a) (mBy a) (mNl a) (mRt a) := by unfold mCW; rw [hh]
  refine W_size (fun hle => ?_)
  have hHs := bP_size hG hP hbs hsz hS hle
  unfold bCall at hq
  have hq3 := (bq_of hq).2
  clear hq
  cases ins
  case invokespecial i =>
    have e1 : len = 3 := Nat.eq_of_beq_eq_true hln
    subst e1
    have hq : bq (mMT.any (fun q => q.1 == mOc k && q.2.1 == i && q.2.2.1 == ts.getD 0 99 && q.2.2.2.1 == a) && (Nat.beq b 1 && (Nat.beq ((mPl a).getD 5 0) 0 && (decide ((mY a).name = "<init>") && (decide ((mPl a).getD 4 0 ≠ 1) && (decide (mRt a = none) && ((S.take 1).all (fun v => match v with | .ref _ => true | _ => false)))))))) (some (a, (S.take b).reverse, S.drop b)) = some (a, (S.take b).reverse, S.drop b) := hq3
    obtain ⟨hc, -⟩ := bq_of hq
    rw [Bool.and_eq_true, Bool.and_eq_true, Bool.and_eq_true, Bool.and_eq_true, Bool.and_eq_true, Bool.and_eq_true, decide_eq_true_eq, decide_eq_true_eq, decide_eq_true_eq] at hc
    obtain ⟨hp1, hb1, h50, hni, h41, hrt, hall⟩ := hc
    have hb1 : b = 1 := Nat.eq_of_beq_eq_true hb1
    have h50 : (mPl a).getD 5 0 = 0 := Nat.eq_of_beq_eq_true h50
    subst hb1
    obtain ⟨⟨m1, m2, m3, m4, m5, m6, m7, m8, m9⟩, hnest, hlink⟩ := mMT_me hp1
    rw [hrt] at hcw
    rw [h50] at m9
    cases S with
    | nil => exact absurd (show 1 ≤ 0 from hlen) (by decide)
    | cons v R =>
      cases v with
      | ref z =>
        have hM : bSat l g d' a [.ref z] σ σ' := hM
        have hlo : 8 + (mNl a + 11) + (mRm d' (σ'.1 - σ.1) (bSl σ'.1 - bSl σ.1)).locals ≤ (mRm d MC MS).locals := by
          show 8 + (mNl a + 11) + 64 * d' ≤ 64 * d
          omega
        have hwd : ∀ w ∈ mWs a, ∀ (a' : Array Value) (U : State), s.WarmedH U.vm → w.before a' U = true := pay_in hts (mGoodIn m1)
        have hcode0 : (mCW a).before args s = true := hts _ (List.mem_cons_of_mem _ m1)
        rw [hcw] at hcode0
        have hini : (Cond.initialized (mY a).cls).before args s = true := hts _ (List.mem_cons_of_mem _ m2)
        have hinst : (Cond.instanceMethod (mY a)).before args s = true := hts _ (List.mem_cons_of_mem _ (m4 h41))
        have hpre : PreS s H (bPc g [.ref z] σ) [.ref (gA g z)] := ⟨bPc_blind, fun U hU hWm => ⟨rfl, mW_move hWm hW hS hU, by rw [hU]; exact hP, by rw [hU]; exact hHs, bOv.moved hWm.alike hin.2⟩⟩
        by_cases hkd : 10 ≤ ts.getD 0 99
        · obtain ⟨host, hhost⟩ := hnest hkd
          have hnl : (Cond.methodLinkNest (mCn (mOc k)) i (mY a) host).before args s = true := mNl_use (hW.2.1 (mCn (mOc k), i, mY a, host) hhost)
          exact bGo (R := R) hmo hbs (va_runIN (As := []) (b := gA g z) (rest := R.map (mtr (gA g))) ⟨hx, hb, hml, hown, hts⟩ hM ⟨⟨⟨rfl, rfl, hfr, hlo, hwd, by rw [← hcw]; exact List.mem_cons_self⟩, hcode0, hini, m6, mSig m9, hnl⟩, hni, hinst⟩ hpre rfl rfl hL.1 rfl hroom hd hfit) C hin hsz hS hL kk
        · have hl : (Cond.methodLink (mCn (mOc k)) i (mY a)).before args s = true := hts _ (List.mem_cons_of_mem _ (hlink hkd))
          exact bGo (R := R) hmo hbs (va_runI (As := []) (b := gA g z) (rest := R.map (mtr (gA g))) ⟨hx, hb, hml, hown, hts⟩ hM ⟨⟨rfl, rfl, hfr, hlo, hwd, by rw [← hcw]; exact List.mem_cons_self, hcode0, hini, m6, mSig m9, hl⟩, hni, hinst⟩ hpre rfl rfl hL.1 rfl hroom hd hfit) C hin hsz hS hL kk
      | _ => exact absurd hall (by intro z; cases z)
  case invokevirtual i =>
    have e1 : len = 3 := Nat.eq_of_beq_eq_true hln
    subst e1
    have hp : (if a < 1000 then mMT.any (fun q => q.1 == mOc k && q.2.1 == i && q.2.2.1 == ts.getD 0 99 && q.2.2.2.1 == a) && decide ((mPl a).getD 4 0 ≠ 1) && decide ((mY a).name ≠ "<init>") && decide (b = (mPl a).getD 5 0 + 1) && (if ts.getD 0 99 = 3 then decide ((mY a).cls = "java/lang/String") else (ts.getD 0 99 == 1 && (match vwCl[ts.getD 1 99]? with | some r => decide (r.1 = (mY a).cls) | none => false))) else true) = true := hp
    have hq : bq (Nat.beq (ts.getD 0 99) 1 && (Nat.beq b 1 && (match S with | .ref z :: _ => bHas σ z (10 + ts.getD 1 99) | _ => false))) (some (a, (S.take b).reverse, S.drop b)) = some (a, (S.take b).reverse, S.drop b) := hq3
    obtain ⟨hc, -⟩ := bq_of hq
    rw [Bool.and_eq_true, Bool.and_eq_true] at hc
    obtain ⟨hk1, hb1, hrec⟩ := hc
    have hk1 : ts.getD 0 99 = 1 := Nat.eq_of_beq_eq_true hk1
    have hb1 : b = 1 := Nat.eq_of_beq_eq_true hb1
    subst hb1
    have hp := (if_pos (show a < 1000 by have : a < 331 := c1; omega)).symm.trans hp
    rw [hk1, if_neg (by decide)] at hp
    simp only [Bool.and_eq_true, decide_eq_true_eq] at hp
    obtain ⟨⟨⟨⟨hp1, hp2⟩, hp3⟩, hp4⟩, hp5⟩ := hp
    obtain ⟨⟨m1, m2, m3, m4, m5, m6, m7, m8, m9⟩, hnest, hlink⟩ := mMT_me hp1
    cases S with
    | nil => exact absurd (show 1 ≤ 0 from hlen) (by decide)
    | cons v R =>
      cases v with
      | ref z =>
        have hM : bSat l g d' a [.ref z] σ σ' := hM
        have hrec : bHas σ z (10 + ts.getD 1 99) = true := hrec
        obtain ⟨hzn, hzs, hzk⟩ := bHas_of hrec
        have hcell : ∃ cellB : Cell, H[gA g z]? = some cellB ∧ cellB.vm.isStatics = false ∧ s.vm.findClass (mY a).cls = some cellB.cls := by
          have hp6 := hp5.2
          cases hq : vwCl[ts.getD 1 99]? with
          | none => rw [hq] at hp6; cases hp6
          | some r =>
            rw [hq] at hp6
            have hp7 : r.1 = (mY a).cls := of_decide_eq_true hp6
            rw [← hp7]
            exact va_recv hW.1 hP.P hq (q0 := ix z) (by rw [bLs_at g σ hzn hzs, bCE_ob g σ hzk])
        have hlo : 8 + (mNl a + 11) + (mRm d' (σ'.1 - σ.1) (bSl σ'.1 - bSl σ.1)).locals ≤ (mRm d MC MS).locals := by
          show 8 + (mNl a + 11) + 64 * d' ≤ 64 * d
          omega
        have hwd : ∀ w ∈ mWs a, ∀ (a' : Array Value) (U : State), s.WarmedH U.vm → w.before a' U = true := pay_in hts (mGoodIn m1)
        have hcode0 : (mCW a).before args s = true := hts _ (List.mem_cons_of_mem _ m1)
        rw [hcw] at hcode0
        have hini : (Cond.initialized (mY a).cls).before args s = true := hts _ (List.mem_cons_of_mem _ m2)
        have hinst : (Cond.instanceMethod (mY a)).before args s = true := hts _ (List.mem_cons_of_mem _ (m4 hp2))
        have hsel : (Cond.selects (mY a).cls (mY a) (mY a)).before args s = true := hts _ (List.mem_cons_of_mem _ (m5 hp2 hp3))
        have hl : (Cond.methodLink (mCn (mOc k)) i (mY a)).before args s = true := hts _ (List.mem_cons_of_mem _ (hlink (by omega)))
        have h50 : (mPl a).getD 5 0 = 0 := by omega
        rw [h50] at m9
        have hpre : PreV s H (mY a).cls (gA g z) (bPc g [.ref z] σ) [] := ⟨bPc_blind, hcell, fun U hU hWm => ⟨rfl, mW_move hWm hW hS hU, by rw [hU]; exact hP, by rw [hU]; exact hHs, bOv.moved hWm.alike hin.2⟩⟩
        exact bGo (R := R) hmo hbs (va_runV (C := (mY a).cls) (As := []) (b := gA g z) (rest := R.map (mtr (gA g))) ⟨hx, hb, hml, hown, hts⟩ hM ⟨⟨rfl, rfl, hfr, hlo, hwd, by rw [← hcw]; exact List.mem_cons_self, hcode0, hini, m6, mSig m9, hl⟩, hinst, hsel⟩ hpre rfl rfl hL.1 rfl hroom hd hfit) C hin hsz hS hL kk
      | _ => exact absurd hrec (by intro z; cases z)
  case invokestatic i =>
    have e1 : len = 3 := Nat.eq_of_beq_eq_true hln
    subst e1
    have hp : (if a < 1000 then mMT.any (fun q => q.1 == mOc k && q.2.1 == i && q.2.2.1 == ts.getD 0 99 && q.2.2.2.1 == a) && decide ((mPl a).getD 4 0 = 1) && decide (b = (mPl a).getD 5 0) && (ts.getD 0 99 == 0 || ts.getD 0 99 == 10) else if a = 1002 then mKT.any (fun q => q.1 == mOc k && q.2.1 == i) else if 1003 ≤ a ∧ a ≤ 1005 then mJT.any (fun q => q.1 == mOc k && q.2.1 == i && q.2.2.1 == a) else true) = true := hp
    have hq : bq (Nat.beq (ts.getD 0 99) 0) (some (a, (S.take b).reverse, S.drop b)) = some (a, (S.take b).reverse, S.drop b) := hq3
    obtain ⟨hk0, -⟩ := bq_of hq
    have hk0 : ts.getD 0 99 = 0 := Nat.eq_of_beq_eq_true hk0
    have hp := (if_pos (show a < 1000 by have : a < 331 := c1; omega)).symm.trans hp
    simp only [Bool.and_eq_true, decide_eq_true_eq] at hp
    obtain ⟨⟨⟨hp1, hp2⟩, hp3⟩, -⟩ := hp
    obtain ⟨⟨m1, m2, m3, m4, m5, m6, m7, m8, m9⟩, hnest, hlink⟩ := mMT_me hp1
    have hlo : 8 + (mNl a + 11) + (mRm d' (σ'.1 - σ.1) (bSl σ'.1 - bSl σ.1)).locals ≤ (mRm d MC MS).locals := by
      show 8 + (mNl a + 11) + 64 * d' ≤ 64 * d
      omega
    have hwd : ∀ w ∈ mWs a, ∀ (a' : Array Value) (U : State), s.WarmedH U.vm → w.before a' U = true := pay_in hts (mGoodIn m1)
    have hcode0 : (mCW a).before args s = true := hts _ (List.mem_cons_of_mem _ m1)
    rw [hcw] at hcode0
    have hini : (Cond.initialized (mY a).cls).before args s = true := hts _ (List.mem_cons_of_mem _ m2)
    have hstat : (Cond.static (mY a)).before args s = true := hts _ (List.mem_cons_of_mem _ (m3 hp2))
    have hl : (Cond.methodLink (mCn (mOc k)) i (mY a)).before args s = true := hts _ (List.mem_cons_of_mem _ (hlink (by omega)))
    have hst : S.map (mtr (gA g)) = ((S.take b).reverse.map (mtr (gA g))).reverse ++ (S.drop b).map (mtr (gA g)) := by
      conv => lhs; rw [mSplit hlen]
      rw [List.map_append, ← List.map_reverse]
    have hal : ((S.take b).reverse.map (mtr (gA g))).length = (mPl a).getD 5 0 := by
      rw [List.length_map, List.length_reverse, List.length_take]
      omega
    have hpre : PreS s H (bPc g (S.take b).reverse σ) ((S.take b).reverse.map (mtr (gA g))) := ⟨bPc_blind, fun U hU hWm => ⟨rfl, mW_move hWm hW hS hU, by rw [hU]; exact hP, by rw [hU]; exact hHs, bOv.moved hWm.alike hin.2⟩⟩
    exact bGo (R := S.drop b) hmo hbs (va_runS (As := (S.take b).reverse.map (mtr (gA g))) (rest := (S.drop b).map (mtr (gA g))) ⟨hx, hb, hml, hown, hts⟩ hM ⟨⟨rfl, rfl, hfr, hlo, hwd, by rw [← hcw]; exact List.mem_cons_self, hcode0, hini, m6, mSig m9, hl⟩, hstat⟩ hpre rfl hal hL.1 hst hroom hd hfit) C hin hsz hS hL kk
  all_goals cases hq3
theorem bx_sound {l : Launch} {g : mG} (hG : bG g) (htr : l.stackTraces = false) : ∀ (f dep d k st pc : Nat) (L S : List Value) (σ : bS) (r : bC) (Q : List Frame → Array Value → State → State → Prop) (MC MS base : Nat), mChk k = true → bx f dep k st pc L S σ = some r → dep + 1 ≤ d → base ≤ σ.1 → r.2.2.2.1 - base ≤ MC → bSl r.2.2.2.1 - bSl base ≤ MS → bWB l g d k Q MC MS base r.1 r.2.1 r.2.2.1 r.2.2.2 → bWB l g d k Q MC MS base pc L S σ := by
  intro f
  induction f with
  | zero => intro dep d k st pc L S σ r Q MC MS base hk h; cases h
  | succ f ih =>
    intro dep d k st pc L S σ r Q MC MS base hk h hd hbs h1 h2 kk
    rcases bx_one h with rfl | ⟨e, q, dp, r1, he, hq, rfl, hb1, hre, hst, hb2⟩ | ⟨e, r1, he, hs, hb2⟩
    · exact kk
    · have mo1 := bx_mo _ _ _ _ _ _ _ _ _ hb1
      have mo2 := bx_mo _ _ _ _ _ _ _ _ _ hb2
      have hm2 := bSl_mono mo2
      obtain ⟨rfl, c1, c2, c3, hlen, h8, hh, hcat1, c8⟩ := bCall_of hq
      have hka : mChk e.2.2.1 = true := mOk c1
      have hme := mMeP_of (mOkM c1 c2)
      have hln : (S.take e.2.2.2.1).reverse.length = e.2.2.2.1 := by
        rw [List.length_reverse, List.length_take]
        omega
      have hM : bSat l g (d - 1) e.2.2.1 (S.take e.2.2.2.1).reverse σ r1.2.2.2 := by
        refine bSat_of htr c3 hh hme.2.2.2.2.2.2.2.1 hcat1 (by rw [hln]; exact c8) ?_
        refine ih dp (d - 1) e.2.2.1 100000 0 _ [] σ r1 _ _ _ σ.1 hka hb1 (by omega) (Nat.le_refl _) (Nat.le_refl _) (Nat.le_refl _) ?_
        rw [hst]
        exact b_ret hka hre
      refine bCall_sound hG hk he hq hM (by omega) mo1 hbs (by omega) (by omega) ?_
      exact ih (dp + 1) d k st (pc + 3) L _ r1.2.2.2 r Q MC MS base hk hb2 hd (by omega) h1 h2 kk
    · have mo1 := bStep_mo _ _ _ _ _ _ _ hs
      have mo2 := bx_mo _ _ _ _ _ _ _ _ _ hb2
      have hm2 := bSl_mono mo2
      refine bStep_sound hG hk he hbs (by omega) (by omega) (by omega) hs ?_
      exact ih dep d k st r1.1 r1.2.1 r1.2.2.1 r1.2.2.2 r Q MC MS base hk hb2 hd (by omega) h1 h2 kk
