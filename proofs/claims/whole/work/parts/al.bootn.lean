set_option maxRecDepth 100000
/-! THE FIRST CELLS: they are made -/
def bNtB (q : Nat × Nat × Nat × Nat × Nat × Nat) : Bool := match vwCl[q.2.2.1]? with
  | some r => decide (lw_tbl[q.2.2.2.1]? = some (.classLink (mCn q.1) q.2.1 r.1)) && decide (lw_tbl[q.2.2.2.2.1]? = some (.instantiable r.1 r.2.2)) && decide (lw_tbl[q.2.2.2.2.2]? = some (.initialized r.1))
  | none => false
theorem bNT_ok : bNT.all bNtB = true := by decide +kernel
theorem bNT_of {q : Nat × Nat × Nat × Nat × Nat × Nat} (hq : q ∈ bNT) : ∃ r : vw_C, vwCl[q.2.2.1]? = some r ∧ Cond.classLink (mCn q.1) q.2.1 r.1 ∈ mGW ∧ Cond.instantiable r.1 r.2.2 ∈ mGW ∧ Cond.initialized r.1 ∈ mGW := by
  have h := List.all_eq_true.mp bNT_ok q hq
  unfold bNtB at h
  cases hr : vwCl[q.2.2.1]? with
  | none => rw [hr] at h; cases h
  | some r =>
    rw [hr] at h
    simp only [Bool.and_eq_true, decide_eq_true_eq] at h
    exact ⟨r, rfl, mGW_at _ h.1.1 rfl, mGW_at _ h.1.2 rfl, mGW_at _ h.2 rfl⟩
def bOtB (q : Nat × Nat × Nat) : Bool := decide (lw_tbl[q.2.2]? = some (.methodLink (mCn q.1) q.2.1 Lib.objectInit))
theorem bOT_ok : bOT.all bOtB = true := by decide +kernel
theorem bW_oi : Cond.instanceMethod Lib.objectInit ∈ mGW := mGW_at 122 (by decide +kernel) rfl
theorem bW_oc : Cond.code Lib.objectInit ⟨#[0xb1]⟩ 1 none ∈ mGW := mGW_at 123 (by decide +kernel) rfl
theorem bW_ai : Cond.arrayClass .int ∈ mGW := mGW_at 155 (by decide +kernel) rfl
theorem bW_ab : Cond.arrayClass .boolean ∈ mGW := mGW_at 1602 (by decide +kernel) rfl
theorem bW_al : Cond.arrayClass .long ∈ mGW := mGW_at 2040 (by decide +kernel) rfl
theorem bW_cn : Cond.classLink (mCn 3) 9 RX5 ∈ mGW := mGW_at 326 (by decide +kernel) rfl
theorem bW_ch : Cond.classLink (mCn 11) 54 RX3 ∈ mGW := mGW_at 320 (by decide +kernel) rfl
theorem bW_c4 : Cond.classLink (mCn 12) 32 ("[" ++ (FieldType.array .int).toString) ∈ mGW := mGW_at 1439 (by decide +kernel) rfl
theorem bW_c5 : Cond.classLink (mCn 12) 88 ("[" ++ (FieldType.array .boolean).toString) ∈ mGW := mGW_at 1441 (by decide +kernel) rfl
theorem bAl {l : Launch} {g : mG} {d k : Nat} {Q : List Frame → Array Value → State → State → Prop} {MC MS base pc : Nat} {L S : List Value} {σ : bS} {p : Program} {ev : Env} {s : State} {mi : MethodId} {args : Array Value} {below : List Frame} {meth : Method} {cd : Code} {H H1 : Heap} {locs : List Loc} {ls : Array Slot} (hG : bG g) (hbs : base ≤ σ.1) (kk : bWB l g d k Q MC MS base pc L (.ref (al σ.1) :: S) (bUp σ))
    (C : mCtx l g k p s mi args meth cd) (hin : ((mY k).name = "<init>" → meth.name = "<init>") ∧ bOv s) (hsz : s.heap.size = gB g + base) (hP : bP g σ H) (hS : va_S (mA g) s.heap H locs) (hL : lv_has ls (mNl k) (mLv (gA g) L)) (h9 : σ.1 < 917) (hHs : H.size = gB g + σ.1) (o1 : ∀ q, q < gB g + σ.1 → H1[q]? = H[q]?) (z1 : H1.size = gB g + σ.1 + 1) (hn : va_at g.1 vwCl (gB g + σ.1, bCE g σ (al σ.1)) H1) :
    W p l ev (mRm d MC MS) s mi args below meth cd H1 locs (σ.1 - base + 1) (bSl σ.1 - bSl base + mLn (al σ.1)) (Q below args s) (F0 mi pc ls (.ref (gB g + σ.1) :: S.map (mtr (gA g)))) := by
  have hm := bSl_mono hbs
  have o2 : ∀ q, q < H.size → H1[q]? = H[q]? := fun q hq => o1 q (by omega)
  have h0 := hS.1
  have k2 := kk p ev s mi args below meth cd H1 locs ls C hin hsz (bP_up hP o2 h9 (by rw [hG σ.1 h9]; exact hn)) ⟨by omega, fun x hx1 hx2 => (o2 x (by omega)).trans (hS.2.1 x hx1 hx2), hS.2.2⟩ hL
  have e5 : (bUp σ).1 - base = σ.1 - base + 1 := by
    show σ.1 + 1 - base = _
    omega
  have e6 : bSl (bUp σ).1 - bSl base = bSl σ.1 - bSl base + mLn (al σ.1) := by
    show bSl σ.1 + mLn (al σ.1) - bSl base = _
    omega
  rw [e5, e6] at k2
  have k3 : W p l ev (mRm d MC MS) s mi args below meth cd H1 locs (σ.1 - base + 1) (bSl σ.1 - bSl base + mLn (al σ.1)) (Q below args s) (F0 mi pc ls (.ref (gA g (al σ.1)) :: S.map (mtr (gA g)))) := k2
  rw [hG σ.1 h9] at k3
  exact k3
theorem bNw_of {σ : bS} {n len : Nat} (h : bNw σ n len = true) : σ.1 < 917 ∧ bIn σ = true ∧ mKd (al σ.1) = n ∧ mLn (al σ.1) = len := by
  unfold bNw at h
  rw [Bool.and_eq_true, Bool.and_eq_true, Bool.and_eq_true] at h
  exact ⟨(blt_if _ _).mp h.1, h.2.1, Nat.eq_of_beq_eq_true h.2.2.1, Nat.eq_of_beq_eq_true h.2.2.2⟩
theorem bZ_m {σ : bS} (hIn : bIn σ = true) (h9 : σ.1 < 917) : bM σ (al σ.1) = fun _ => 0 := by
  funext j
  exact (bIn_of hIn (k := al σ.1) (by rw [ix_al h9]; omega) j).1
theorem bZ_f {σ : bS} (hIn : bIn σ = true) (h9 : σ.1 < 917) (g : mG) : bRf g σ (al σ.1) = fun _ => none := by
  funext j
  unfold bRf
  rw [if_neg (by rw [(bIn_of hIn (k := al σ.1) (by rw [ix_al h9]; omega) j).2]; decide)]
theorem bs_new {l : Launch} {g : mG} {d k : Nat} {Q : List Frame → Array Value → State → State → Prop} {MC MS base pc len a b c : Nat} {ts : List Nat} {L S : List Value} {σ : bS} {r : bC} {i : Nat} (hG : bG g) (hbs : base ≤ σ.1) (hd1 : 1 ≤ d) (h1 : r.2.2.2.1 - base ≤ MC) (h2 : bSl r.2.2.2.1 - bSl base ≤ MS) (hd : decode (mBy k) pc = .ok (.new i, len)) (hln : mLnB (.new i) len = true) (hp : mPay k pc (.new i) a b c ts = true) (h : bStep k pc (.new i, len, a, b, c, ts) L S σ = some r) (kk : bWB l g d k Q MC MS base r.1 r.2.1 r.2.2.1 r.2.2.2) : bWB l g d k Q MC MS base pc L S σ := by
  intro p ev s mi args below meth cd H locs ls C hin hsz hP hS hL
  obtain ⟨hx, hb, hml, hr, hlk, hown, hts, htab, htr, hW, hB⟩ := id C
  have e1 : len = 3 := Nat.eq_of_beq_eq_true hln
  subst e1
  obtain ⟨hc, h3⟩ := bq_of h
  cases h3
  have kk : bWB l g d k Q MC MS base (pc + 3) L (.ref (al σ.1) :: S) (bUp σ) := kk
  have h1 : σ.1 + 1 - base ≤ MC := h1
  have h2 : bSl σ.1 + mLn (al σ.1) - bSl base ≤ MS := h2
  have hm := bSl_mono hbs
  rw [Bool.and_eq_true, Bool.and_eq_true, Bool.and_eq_true] at hc
  obtain ⟨h9, hIn, h10, hnt⟩ := hc
  have h9 : σ.1 < 917 := (blt_if _ _).mp h9
  obtain ⟨q, hq, hq2⟩ := List.any_eq_true.mp hnt
  rw [Bool.and_eq_true, Bool.and_eq_true] at hq2
  have q1 : q.1 = mOc k := Nat.eq_of_beq_eq_true hq2.1
  have q2 : q.2.1 = i := Nat.eq_of_beq_eq_true hq2.2.1
  have q3 : mKd (al σ.1) = 10 + q.2.2.1 := (Nat.eq_of_beq_eq_true hq2.2.2).symm
  obtain ⟨r, hr1, hw1, hw2, hw3⟩ := bNT_of hq
  rw [q1, q2] at hw1
  have hKn := hW.1.1 q.2.2.1 r hr1
  have hsz2 := mSize_of (al_lt h9) q3 hr1
  obtain ⟨ty0, hty, -⟩ := mTy_of hr1
  refine W_size (fun hle => ?_)
  have hHs := bP_size hG hP hbs hsz hS hle
  refine W.newcK hx hb hown (hts _ (List.mem_cons_of_mem _ hw1)) (hts _ (List.mem_cons_of_mem _ hw2)) (hts _ (List.mem_cons_of_mem _ hw3)) rfl hd (show σ.1 - base + 1 ≤ MC by omega) (show bSl σ.1 - bSl base + r.2.2 ≤ MS by omega) hKn.2.1 hHs (fun H1 kC hkC e1 z1 o1 => ?_)
  rw [← hsz2]
  refine bAl hG hbs kk C hin hsz hP hS hL h9 hHs o1 z1 ?_
  rw [bCE_ob g σ q3]
  refine ⟨r, hr1, (u_born ty0 hts (fun w hw => List.mem_cons_of_mem _ (mUs_of hr1 w hw)) hKn hkC e1 hty).to (fun j hj => ?_)⟩
  have e : vp_V ((List.range (mLn (al σ.1))).map (bFv g σ (al σ.1) q.2.2.1)) j = bFv g σ (al σ.1) q.2.2.1 j := by
    unfold vp_V
    rw [List.getD_eq_getElem?_getD, List.getElem?_map, List.getElem?_range (by omega)]
    rfl
  rw [e]
  unfold bFv
  have hz := bIn_of hIn (k := al σ.1) (by rw [ix_al h9]; omega) j
  rcases bTy_of hr1 hj with ⟨hm2, hp2⟩ | ⟨hm2, ty, hp2, hdv, -⟩
  · rw [Option.some.inj ((hty j hj).symm.trans hp2), if_neg (by rw [hm2]; decide), hz.1]
    rfl
  · rw [Option.some.inj ((hty j hj).symm.trans hp2), hdv, if_pos hm2, if_neg (by rw [hz.2]; decide)]
theorem bs_newarray_int {l : Launch} {g : mG} {d k : Nat} {Q : List Frame → Array Value → State → State → Prop} {MC MS base pc len a b c : Nat} {ts : List Nat} {L S : List Value} {σ : bS} {r : bC} (hG : bG g) (hbs : base ≤ σ.1) (hd1 : 1 ≤ d) (h1 : r.2.2.2.1 - base ≤ MC) (h2 : bSl r.2.2.2.1 - bSl base ≤ MS) (hd : decode (mBy k) pc = .ok (.newarray .int, len)) (hln : mLnB (.newarray .int) len = true) (hp : mPay k pc (.newarray .int) a b c ts = true) (h : bStep k pc (.newarray .int, len, a, b, c, ts) L S σ = some r) (kk : bWB l g d k Q MC MS base r.1 r.2.1 r.2.2.1 r.2.2.2) : bWB l g d k Q MC MS base pc L S σ := by
  intro p ev s mi args below meth cd H locs ls C hin hsz hP hS hL
  obtain ⟨hx, hb, hml, hr, hlk, hown, hts, htab, htr, hW, hB⟩ := id C
  obtain ⟨n, t, rfl, h⟩ := b1i_of h
  obtain ⟨hc, h3⟩ := bq_of h
  cases h3
  have kk : bWB l g d k Q MC MS base (pc + 2) L (.ref (al σ.1) :: t) (bUp σ) := kk
  have h1 : σ.1 + 1 - base ≤ MC := h1
  have h2 : bSl σ.1 + mLn (al σ.1) - bSl base ≤ MS := h2
  have hm := bSl_mono hbs
  rw [Bool.and_eq_true, Bool.and_eq_true, Bool.and_eq_true] at hc
  obtain ⟨hl2, hn, hnw, -⟩ := hc
  have e1 : len = 2 := Nat.eq_of_beq_eq_true hl2
  subst e1
  have hn := mInB_of hn
  have hn0 : ¬ n < 0 := fun q => hn (Or.inl q)
  have hn1 : n.toNatClampNeg < 1000 := Nat.not_le.mp fun q => hn (Or.inr q)
  obtain ⟨h9, hIn, hkd, hln2⟩ := bNw_of hnw
  have hkd : mKd (al σ.1) = 1 := hkd
  refine W_size (fun hle => ?_)
  have hHs := bP_size hG hP hbs hsz hS hle
  refine va_newaK (atype := .int) hx hb (hts _ (List.mem_cons_of_mem _ bW_ai)) rfl hd rfl hn0 rfl (by show n.toNatClampNeg * 4 ≤ _; omega) (show σ.1 - base + 1 ≤ MC by omega) (show bSl σ.1 - bSl base + n.toNatClampNeg ≤ MS by omega) hHs (fun H1 cA e1 z1 o1 hAr hNm => ?_)
  have hcA : s.vm.findClass ("[" ++ (FieldType.int).toString) = some (gC g 0) := (hW.1.2 0 _ rfl).2
  have hcB : gC g 0 = cA := Option.some.inj (hcA.symm.trans hNm)
  rw [← hln2]
  refine bAl hG hbs kk C hin hsz hP hS hL h9 hHs o1 z1 ?_
  rw [bCE_1 g σ hkd, hln2]
  show H1[gB g + σ.1]? = some (vp_cell (gC g 0) _)
  rw [e1, hcB, bZ_m hIn h9]
  rfl
theorem bs_newarray_long {l : Launch} {g : mG} {d k : Nat} {Q : List Frame → Array Value → State → State → Prop} {MC MS base pc len a b c : Nat} {ts : List Nat} {L S : List Value} {σ : bS} {r : bC} (hG : bG g) (hbs : base ≤ σ.1) (hd1 : 1 ≤ d) (h1 : r.2.2.2.1 - base ≤ MC) (h2 : bSl r.2.2.2.1 - bSl base ≤ MS) (hd : decode (mBy k) pc = .ok (.newarray .long, len)) (hln : mLnB (.newarray .long) len = true) (hp : mPay k pc (.newarray .long) a b c ts = true) (h : bStep k pc (.newarray .long, len, a, b, c, ts) L S σ = some r) (kk : bWB l g d k Q MC MS base r.1 r.2.1 r.2.2.1 r.2.2.2) : bWB l g d k Q MC MS base pc L S σ := by
  intro p ev s mi args below meth cd H locs ls C hin hsz hP hS hL
  obtain ⟨hx, hb, hml, hr, hlk, hown, hts, htab, htr, hW, hB⟩ := id C
  obtain ⟨n, t, rfl, h⟩ := b1i_of h
  obtain ⟨hc, h3⟩ := bq_of h
  cases h3
  have kk : bWB l g d k Q MC MS base (pc + 2) L (.ref (al σ.1) :: t) (bUp σ) := kk
  have h1 : σ.1 + 1 - base ≤ MC := h1
  have h2 : bSl σ.1 + mLn (al σ.1) - bSl base ≤ MS := h2
  have hm := bSl_mono hbs
  rw [Bool.and_eq_true, Bool.and_eq_true, Bool.and_eq_true] at hc
  obtain ⟨hl2, hn, hnw, -⟩ := hc
  have e1 : len = 2 := Nat.eq_of_beq_eq_true hl2
  subst e1
  have hn := mInB_of hn
  have hn0 : ¬ n < 0 := fun q => hn (Or.inl q)
  have hn1 : n.toNatClampNeg < 1000 := Nat.not_le.mp fun q => hn (Or.inr q)
  obtain ⟨h9, hIn, hkd, hln2⟩ := bNw_of hnw
  have hkd : mKd (al σ.1) = 3 := hkd
  refine W_size (fun hle => ?_)
  have hHs := bP_size hG hP hbs hsz hS hle
  refine va_newaK (atype := .long) hx hb (hts _ (List.mem_cons_of_mem _ bW_al)) rfl hd rfl hn0 rfl (by show n.toNatClampNeg * 8 ≤ _; omega) (show σ.1 - base + 1 ≤ MC by omega) (show bSl σ.1 - bSl base + n.toNatClampNeg ≤ MS by omega) hHs (fun H1 cA e1 z1 o1 hAr hNm => ?_)
  have hcA : s.vm.findClass ("[" ++ (FieldType.long).toString) = some (gC g 2) := (hW.1.2 2 _ rfl).2
  have hcB : gC g 2 = cA := Option.some.inj (hcA.symm.trans hNm)
  rw [← hln2]
  refine bAl hG hbs kk C hin hsz hP hS hL h9 hHs o1 z1 ?_
  rw [bCE_3 g σ hkd, hln2]
  show H1[gB g + σ.1]? = some (vp_cell (gC g 2) _)
  rw [e1, hcB]
  rfl
theorem bs_anewarray {l : Launch} {g : mG} {d k : Nat} {Q : List Frame → Array Value → State → State → Prop} {MC MS base pc len a b c : Nat} {ts : List Nat} {L S : List Value} {σ : bS} {r : bC} {i : Nat} (hG : bG g) (hbs : base ≤ σ.1) (hd1 : 1 ≤ d) (h1 : r.2.2.2.1 - base ≤ MC) (h2 : bSl r.2.2.2.1 - bSl base ≤ MS) (hd : decode (mBy k) pc = .ok (.anewarray i, len)) (hln : mLnB (.anewarray i) len = true) (hp : mPay k pc (.anewarray i) a b c ts = true) (h : bStep k pc (.anewarray i, len, a, b, c, ts) L S σ = some r) (kk : bWB l g d k Q MC MS base r.1 r.2.1 r.2.2.1 r.2.2.2) : bWB l g d k Q MC MS base pc L S σ := by
  intro p ev s mi args below meth cd H locs ls C hin hsz hP hS hL
  obtain ⟨hx, hb, hml, hr, hlk, hown, hts, htab, htr, hW, hB⟩ := id C
  obtain ⟨n, t, rfl, h⟩ := b1i_of h
  obtain ⟨hc, h3⟩ := bq_of h
  cases h3
  have kk : bWB l g d k Q MC MS base (pc + 3) L (.ref (al σ.1) :: t) (bUp σ) := kk
  have h1 : σ.1 + 1 - base ≤ MC := h1
  have h2 : bSl σ.1 + mLn (al σ.1) - bSl base ≤ MS := h2
  have hm := bSl_mono hbs
  rw [Bool.and_eq_true, Bool.and_eq_true, Bool.or_eq_true, Bool.and_eq_true, Bool.and_eq_true, Bool.and_eq_true, Bool.and_eq_true] at hc
  obtain ⟨hl3, hn, hnw⟩ := hc
  have e1 : len = 3 := Nat.eq_of_beq_eq_true hl3
  subst e1
  have hn := mInB_of hn
  have hn0 : ¬ n < 0 := fun q => hn (Or.inl q)
  have hn1 : n.toNatClampNeg < 1000 := Nat.not_le.mp fun q => hn (Or.inr q)
  refine W_size (fun hle => ?_)
  have hHs := bP_size hG hP hbs hsz hS hle
  rcases hnw with ⟨hnw, ho, hi⟩ | ⟨hnw, ho, hi⟩
  · obtain ⟨h9, hIn, hkd, hln2⟩ := bNw_of hnw
    have ho : mOc k = 3 := Nat.eq_of_beq_eq_true ho
    have hi : i = 9 := Nat.eq_of_beq_eq_true hi
    subst hi
    rw [ho] at hown
    refine W.anew (C := RX5) hx hb hown (hts _ (List.mem_cons_of_mem _ bW_cn)) (va_AO.use hin.2.1) rfl hd rfl hn0 (by omega) (show σ.1 - base + 1 ≤ MC by omega) (show bSl σ.1 - bSl base + n.toNatClampNeg ≤ MS by omega) (fun cA kA comp f1 f2 f3 f4 => ?_)
    have hcA : s.vm.findClass ("[" ++ (FieldType.object RX5).toString) = some (gC g 5) := by
      obtain ⟨-, -, -, -, -, z⟩ := (hW.1.2 5 _ rfl).2
      exact z
    have hcB : gC g 5 = cA := Option.some.inj (hcA.symm.trans f1)
    rw [← hln2]
    show W p l ev (mRm d MC MS) s mi args below meth cd _ locs (σ.1 - base + 1) (bSl σ.1 - bSl base + mLn (al σ.1)) (Q below args s) (F0 mi (pc + 3) ls (.ref H.size :: t.map (mtr (gA g))))
    rw [hHs]
    refine bAl hG hbs kk C hin hsz hP hS hL h9 hHs (fun q hq => by rw [Array.getElem?_push, if_neg (by omega)]) (by rw [Array.size_push, hHs]) ?_
    rw [bCE_4 g σ (by omega) (by omega), hkd, bZ_f hIn h9]
    show (H.push _)[gB g + σ.1]? = some (vp_cell (gC g 5) _)
    rw [Array.getElem?_push, if_pos hHs.symm, hcB, vp_cell_q, arrV_new]
    rfl
  · obtain ⟨h9, hIn, hkd, hln2⟩ := bNw_of hnw
    have ho : mOc k = 11 := Nat.eq_of_beq_eq_true ho
    have hi : i = 54 := Nat.eq_of_beq_eq_true hi
    subst hi
    rw [ho] at hown
    refine W.anew (C := RX3) hx hb hown (hts _ (List.mem_cons_of_mem _ bW_ch)) (va_AO.use hin.2.2.1) rfl hd rfl hn0 (by omega) (show σ.1 - base + 1 ≤ MC by omega) (show bSl σ.1 - bSl base + n.toNatClampNeg ≤ MS by omega) (fun cA kA comp f1 f2 f3 f4 => ?_)
    have hcA : s.vm.findClass ("[" ++ (FieldType.object RX3).toString) = some (gC g 6) := by
      obtain ⟨-, -, -, -, -, z⟩ := (hW.1.2 6 _ rfl).2
      exact z
    have hcB : gC g 6 = cA := Option.some.inj (hcA.symm.trans f1)
    rw [← hln2]
    show W p l ev (mRm d MC MS) s mi args below meth cd _ locs (σ.1 - base + 1) (bSl σ.1 - bSl base + mLn (al σ.1)) (Q below args s) (F0 mi (pc + 3) ls (.ref H.size :: t.map (mtr (gA g))))
    rw [hHs]
    refine bAl hG hbs kk C hin hsz hP hS hL h9 hHs (fun q hq => by rw [Array.getElem?_push, if_neg (by omega)]) (by rw [Array.size_push, hHs]) ?_
    rw [bCE_4 g σ (by omega) (by omega), hkd, bZ_f hIn h9]
    show (H.push _)[gB g + σ.1]? = some (vp_cell (gC g 6) _)
    rw [Array.getElem?_push, if_pos hHs.symm, hcB, vp_cell_q, arrV_new]
    rfl
theorem bMul_m (σ : bS) (n : Nat) : bM (bMul σ n) = bM σ := rfl
theorem bMul_f (σ : bS) (n x i : Nat) : bF (bMul σ n) x i = ((Nat.beq (al σ.1) x && decide (i < n)) || bF σ x i) := by
  show (((List.range n).map (fun j => (al σ.1, j)) ++ σ.2.2).any (fun q => Nat.beq q.1 x && Nat.beq q.2 i)) = _
  rw [List.any_append]
  congr 1
  cases hb : (Nat.beq (al σ.1) x && decide (i < n)) with
  | true =>
    rw [Bool.and_eq_true, decide_eq_true_eq] at hb
    refine List.any_eq_true.mpr ⟨(al σ.1, i), List.mem_map.mpr ⟨i, List.mem_range.mpr hb.2, rfl⟩, ?_⟩
    show (Nat.beq (al σ.1) x && Nat.beq i i) = true
    rw [hb.1, Nat.beq_refl]
    rfl
  | false =>
    rw [List.any_eq_false]
    intro q hq hq2
    obtain ⟨j, hj, rfl⟩ := List.mem_map.mp hq
    rw [Bool.and_eq_true] at hq2
    have e : j = i := Nat.eq_of_beq_eq_true hq2.2
    have h3 : (Nat.beq (al σ.1) x && decide (i < n)) = true := by
      rw [hq2.1, ← e, decide_eq_true (List.mem_range.mp hj)]
      rfl
    rw [h3] at hb
    cases hb
theorem bSl_rows {c n K : Nat} (h0 : mLn (al c) = n) (h : ∀ j, j < n → mLn (al (c + 1 + j)) = K) : bSl (c + 1 + n) = bSl c + n + n * K := by
  have key : ∀ m, m ≤ n → bSl (c + 1 + m) = bSl c + n + m * K := by
    intro m
    induction m with
    | zero =>
      intro _
      show bSl c + mLn (al c) = _
      rw [h0, Nat.zero_mul]
      rfl
    | succ m ih =>
      intro hm
      show bSl (c + 1 + m) + mLn (al (c + 1 + m)) = _
      rw [ih (by omega), h m (by omega), Nat.succ_mul]
      omega
  exact key n (Nat.le_refl n)
theorem bRw_of {σ : bS} {kd K n : Nat} (h : bRw σ kd K n = true) : ∀ j, j < n → mRF (al σ.1) j = al (σ.1 + 1 + j) ∧ mKd (al (σ.1 + 1 + j)) = kd ∧ mLn (al (σ.1 + 1 + j)) = K := by
  intro j hj
  have h1 := List.all_eq_true.mp h j (List.mem_range.mpr hj)
  rw [Bool.and_eq_true, Bool.and_eq_true] at h1
  exact ⟨Nat.eq_of_beq_eq_true h1.1, Nat.eq_of_beq_eq_true h1.2.1, Nat.eq_of_beq_eq_true h1.2.2⟩
/-- an outer array and its rows -/
theorem bP_mul {g : mG} {σ : bS} {H H1 : Heap} {n K co ci : Nat} (hG : bG g) (hP : bP g σ H) (hIn : bIn σ = true) (h9 : σ.1 + 1 + n ≤ 917) (hk4 : mKd (al σ.1) = co + 1) (hco : co = 3 ∨ co = 4) (hln : mLn (al σ.1) = n) (hrw : ∀ j, j < n → mRF (al σ.1) j = al (σ.1 + 1 + j) ∧ mKd (al (σ.1 + 1 + j)) = ci + 1 ∧ mLn (al (σ.1 + 1 + j)) = K) (hci : ci = 0 ∨ ci = 1) (ho : ∀ q, q < H.size → H1[q]? = H[q]?)
    (h0 : H1[gB g + σ.1]? = some (vp_cell (gC g co) (n, .inr (.inr (.inr (.inr (fun i => if i < n then some (gB g + σ.1 + 1 + i) else none))))))) (hr : ∀ j, j < n → H1[gB g + σ.1 + 1 + j]? = some (vp_cell (gC g ci) (K, .inl (fun _ => 0)))) : bP g (bMul σ n) H1 := by
  refine ⟨fun t ht => ?_, h9⟩
  have ht : t < σ.1 + 1 + n := ht
  have hne : ∀ i, i < 917 → i ≠ σ.1 → al i ≠ al σ.1 := fun i hi hn q => hn (by rw [← ix_al hi, q, ix_al (by omega)])
  have e : ∀ i, i < 917 → i ≠ σ.1 → bCE g (bMul σ n) (al i) = bCE g σ (al i) := fun i hi hn => bCE_eq g rfl (fun j => by
    rw [bMul_f]
    cases hb : Nat.beq (al σ.1) (al i) with
    | false => rfl
    | true => exact absurd (Nat.eq_of_beq_eq_true hb).symm (hne i hi hn))
  by_cases q : t = σ.1
  · subst q
    rw [hG σ.1 (by omega), bCE_4 g _ (by omega) (by omega), hk4, hln]
    show H1[gB g + σ.1]? = some (vp_cell (gC g (co + 1 - 1)) _)
    rw [h0, vp_cell_q, vp_cell_q, show co + 1 - 1 = co by omega]
    congr 2
    funext i
    congr 1
    unfold bRf
    rw [bMul_f, Nat.beq_refl, Bool.true_and, (bIn_of hIn (k := al σ.1) (by rw [ix_al (by omega)]; omega) i).2, Bool.or_false]
    by_cases hi : i < n
    · rw [if_pos hi, if_pos (decide_eq_true hi), (hrw i hi).1, hG _ (by omega), show gB g + (σ.1 + 1 + i) = gB g + σ.1 + 1 + i by omega]
    · rw [if_neg hi, if_neg (by rw [decide_eq_false hi]; decide)]
  · rw [e t (by omega) q]
    by_cases q2 : t < σ.1
    · exact bP_kept hP ho t q2
    · obtain ⟨j, rfl⟩ : ∃ j, t = σ.1 + 1 + j := ⟨t - (σ.1 + 1), by omega⟩
      obtain ⟨r1, r2, r3⟩ := hrw j (by omega)
      have hz : bM σ (al (σ.1 + 1 + j)) = fun _ => 0 := by
        funext i
        exact (bIn_of hIn (k := al (σ.1 + 1 + j)) (by rw [ix_al (by omega)]; omega) i).1
      rw [hG _ (by omega)]
      rcases hci with rfl | rfl
      · rw [bCE_1 g σ r2, r3, hz]
        show H1[gB g + (σ.1 + 1 + j)]? = _
        rw [show gB g + (σ.1 + 1 + j) = gB g + σ.1 + 1 + j by omega, hr j (by omega)]
      · rw [bCE_2 g σ r2, r3, hz]
        show H1[gB g + (σ.1 + 1 + j)]? = _
        rw [show gB g + (σ.1 + 1 + j) = gB g + σ.1 + 1 + j by omega, hr j (by omega)]
theorem bs_multi {l : Launch} {g : mG} {d k : Nat} {Q : List Frame → Array Value → State → State → Prop} {MC MS base pc len a b c : Nat} {ts : List Nat} {L S : List Value} {σ : bS} {r : bC} {i dm : Nat} (hG : bG g) (hbs : base ≤ σ.1) (hd1 : 1 ≤ d) (h1 : r.2.2.2.1 - base ≤ MC) (h2 : bSl r.2.2.2.1 - bSl base ≤ MS) (hd : decode (mBy k) pc = .ok (.multianewarray i dm, len)) (hln : mLnB (.multianewarray i dm) len = true) (hp : mPay k pc (.multianewarray i dm) a b c ts = true) (h : bStep k pc (.multianewarray i dm, len, a, b, c, ts) L S σ = some r) (kk : bWB l g d k Q MC MS base r.1 r.2.1 r.2.2.1 r.2.2.2) : bWB l g d k Q MC MS base pc L S σ := by
  intro p ev s mi args below meth cd H locs ls C hin hsz hP hS hL
  obtain ⟨hx, hb, hml, hr, hlk, hown, hts, htab, htr, hW, hB⟩ := id C
  obtain ⟨K, t1, hS0, h3⟩ := b1i_of h
  obtain ⟨n, t, ht0, h4⟩ := b1i_of h3
  clear h h3
  subst ht0
  subst hS0
  obtain ⟨hc, h5⟩ := bq_of h4
  cases h5
  have kk : bWB l g d k Q MC MS base (pc + 4) L (.ref (al σ.1) :: t) (bMul σ n.toNatClampNeg) := kk
  have h1 : σ.1 + 1 + n.toNatClampNeg - base ≤ MC := h1
  have h2 : bSl (σ.1 + 1 + n.toNatClampNeg) - bSl base ≤ MS := h2
  have hm := bSl_mono hbs
  simp only [Bool.and_eq_true, Bool.or_eq_true] at hc
  obtain ⟨hl4, hdm, hn, hK, ho, h9, hnw⟩ := hc
  have e1 : len = 4 := Nat.eq_of_beq_eq_true hl4
  subst e1
  have hdm : dm = 2 := Nat.eq_of_beq_eq_true hdm
  subst hdm
  have ho : mOc k = 12 := Nat.eq_of_beq_eq_true ho
  have h9 : σ.1 + 1 + n.toNatClampNeg ≤ 917 := Nat.le_of_ble_eq_true h9
  have hn := mInB_of hn
  have hn0 : ¬ n < 0 := fun q => hn (Or.inl q)
  have hn1 : n.toNatClampNeg < 1000 := Nat.not_le.mp fun q => hn (Or.inr q)
  have hK := mInB_of hK
  have hK0 : ¬ K < 0 := fun q => hK (Or.inl q)
  have hK1 : K.toNatClampNeg < 1000 := Nat.not_le.mp fun q => hK (Or.inr q)
  rw [ho] at hown
  refine W_size (fun hle => ?_)
  have hHs := bP_size hG hP hbs hsz hS hle
  have hmon : ∀ x : Nat, σ.1 + 1 + x - base = σ.1 - base + 1 + x := fun x => by omega
  rcases hnw with ⟨hnw, hi, hrw⟩ | ⟨hnw, hi, hrw⟩
  · obtain ⟨-, hIn, hkd, hln2⟩ := bNw_of hnw
    have hi : i = 32 := Nat.eq_of_beq_eq_true hi
    subst hi
    have hrw := bRw_of hrw
    have hsl := bSl_rows hln2 (fun j hj => (hrw j hj).2.2)
    intro T hT Xs
    obtain ⟨vm₁, cA, comp, -, fA, fC, hO, -, X', step⟩ := Xs.multianewarray2F (ty := .int) hx hown (hts _ (List.mem_cons_of_mem _ bW_c4)) (va_AOA.use hin.2.2.2.1) (hts _ (List.mem_cons_of_mem _ bW_ai)) (g := F0 mi pc ls (.int K :: .int n :: t.map (mtr (gA g)))) rfl (by rw [hb]; exact hd) rfl hn0 hK0 (by omega) (by show K.toNatClampNeg * 4 ≤ _; omega) (by omega) rfl rfl (show σ.1 - base + (1 + n.toNatClampNeg) ≤ MC by omega) (show bSl σ.1 - bSl base + (n.toNatClampNeg + n.toNatClampNeg * K.toNatClampNeg) ≤ MS by omega)
    have gA1 : s.vm.findClass ("[" ++ (FieldType.array .int).toString) = some (gC g 3) := (hW.1.2 3 _ rfl).2
    have gA2 : s.vm.findClass (FieldType.array .int).toString = some (gC g 0) := (hW.1.2 0 _ rfl).2
    have ecA : gC g 3 = cA := Option.some.inj (gA1.symm.trans fA)
    have ecC : gC g 0 = comp := Option.some.inj (gA2.symm.trans fC)
    subst ecA
    subst ecC
    generalize hF : Jvm.Free.Multi.fill (T.setVm vm₁) (gC g 3) (gC g 0) n.toNatClampNeg K.toNatClampNeg (defaultValue .int) n.toNatClampNeg = F at X' step
    have hTh : (T.setVm vm₁).heap = H := hT
    obtain ⟨f1, f2, -, -⟩ := Jvm.Free.Multi.fill_facts (T.setVm vm₁) (gC g 3) (gC g 0) n.toNatClampNeg K.toNatClampNeg (defaultValue .int) n.toNatClampNeg
    rw [hF, hTh, hHs] at f1 f2
    have hold : ∀ x : Nat, x < H.size → F.heap[x]? = H[x]? := fun x hx => by
      have := Jvm.Free.Multi.fill_old (T.setVm vm₁) (gC g 3) (gC g 0) n.toNatClampNeg K.toNatClampNeg (defaultValue .int) (a := x) (by rw [hTh]; exact hx) n.toNatClampNeg
      rw [hF, hTh] at this
      exact this
    have hrow : ∀ j : Nat, j < n.toNatClampNeg → F.heap[gB g + σ.1 + 1 + j]? = some (vp_cell (gC g 0) (K.toNatClampNeg, .inl (fun _ => 0))) := fun j hj => by
      have := Jvm.Free.Multi.fill_inner (T.setVm vm₁) (gC g 3) (gC g 0) n.toNatClampNeg K.toNatClampNeg (defaultValue .int) n.toNatClampNeg j hj
      rw [hF, hTh, hHs] at this
      rw [this]
      unfold Jvm.Free.Multi.innerC
      rw [arrV_new]
      rfl
    rw [vr_outer] at f2
    have h0 := hS.1
    have k2 := kk p ev s mi args below meth cd F.heap locs ls C hin hsz (bP_mul hG hP hIn h9 hkd (by omega) hln2 hrw (by omega) hold f2 hrow) ⟨by omega, fun x hx1 hx2 => (hold x (by omega)).trans (hS.2.1 x hx1 hx2), hS.2.2⟩ hL
    have e5 : (bMul σ n.toNatClampNeg).1 - base = σ.1 - base + 1 + n.toNatClampNeg := hmon _
    have e6 : bSl (bMul σ n.toNatClampNeg).1 - bSl base = bSl σ.1 - bSl base + n.toNatClampNeg + n.toNatClampNeg * K.toNatClampNeg := by
      show bSl (σ.1 + 1 + n.toNatClampNeg) - bSl base = _
      omega
    rw [e5, e6] at k2
    have k3 : W p l ev (mRm d MC MS) s mi args below meth cd F.heap locs (σ.1 - base + 1 + n.toNatClampNeg) (bSl σ.1 - bSl base + n.toNatClampNeg + n.toNatClampNeg * K.toNatClampNeg) (Q below args s) (F0 mi (pc + 4) ls (.ref (gA g (al σ.1)) :: t.map (mtr (gA g)))) := k2
    rw [hG σ.1 (by omega), ← hHs, ← hTh] at k3
    obtain ⟨t2, a1, b1⟩ := k3 F rfl X'
    exact ⟨t2, step t2 a1, b1⟩
  · obtain ⟨-, hIn, hkd, hln2⟩ := bNw_of hnw
    have hi : i = 88 := Nat.eq_of_beq_eq_true hi
    subst hi
    have hrw := bRw_of hrw
    have hsl := bSl_rows hln2 (fun j hj => (hrw j hj).2.2)
    intro T hT Xs
    obtain ⟨vm₁, cA, comp, -, fA, fC, hO, -, X', step⟩ := Xs.multianewarray2F (ty := .boolean) hx hown (hts _ (List.mem_cons_of_mem _ bW_c5)) (va_AOA.use hin.2.2.2.2) (hts _ (List.mem_cons_of_mem _ bW_ab)) (g := F0 mi pc ls (.int K :: .int n :: t.map (mtr (gA g)))) rfl (by rw [hb]; exact hd) rfl hn0 hK0 (by omega) (by show K.toNatClampNeg * 1 ≤ _; omega) (by omega) rfl rfl (show σ.1 - base + (1 + n.toNatClampNeg) ≤ MC by omega) (show bSl σ.1 - bSl base + (n.toNatClampNeg + n.toNatClampNeg * K.toNatClampNeg) ≤ MS by omega)
    have gA1 : s.vm.findClass ("[" ++ (FieldType.array .boolean).toString) = some (gC g 4) := (hW.1.2 4 _ rfl).2
    have gA2 : s.vm.findClass (FieldType.array .boolean).toString = some (gC g 1) := (hW.1.2 1 _ rfl).2
    have ecA : gC g 4 = cA := Option.some.inj (gA1.symm.trans fA)
    have ecC : gC g 1 = comp := Option.some.inj (gA2.symm.trans fC)
    subst ecA
    subst ecC
    generalize hF : Jvm.Free.Multi.fill (T.setVm vm₁) (gC g 4) (gC g 1) n.toNatClampNeg K.toNatClampNeg (defaultValue .boolean) n.toNatClampNeg = F at X' step
    have hTh : (T.setVm vm₁).heap = H := hT
    obtain ⟨f1, f2, -, -⟩ := Jvm.Free.Multi.fill_facts (T.setVm vm₁) (gC g 4) (gC g 1) n.toNatClampNeg K.toNatClampNeg (defaultValue .boolean) n.toNatClampNeg
    rw [hF, hTh, hHs] at f1 f2
    have hold : ∀ x : Nat, x < H.size → F.heap[x]? = H[x]? := fun x hx => by
      have := Jvm.Free.Multi.fill_old (T.setVm vm₁) (gC g 4) (gC g 1) n.toNatClampNeg K.toNatClampNeg (defaultValue .boolean) (a := x) (by rw [hTh]; exact hx) n.toNatClampNeg
      rw [hF, hTh] at this
      exact this
    have hrow : ∀ j : Nat, j < n.toNatClampNeg → F.heap[gB g + σ.1 + 1 + j]? = some (vp_cell (gC g 1) (K.toNatClampNeg, .inl (fun _ => 0))) := fun j hj => by
      have := Jvm.Free.Multi.fill_inner (T.setVm vm₁) (gC g 4) (gC g 1) n.toNatClampNeg K.toNatClampNeg (defaultValue .boolean) n.toNatClampNeg j hj
      rw [hF, hTh, hHs] at this
      rw [this]
      unfold Jvm.Free.Multi.innerC
      rw [arrV_new]
      rfl
    rw [vr_outer] at f2
    have h0 := hS.1
    have k2 := kk p ev s mi args below meth cd F.heap locs ls C hin hsz (bP_mul hG hP hIn h9 hkd (by omega) hln2 hrw (by omega) hold f2 hrow) ⟨by omega, fun x hx1 hx2 => (hold x (by omega)).trans (hS.2.1 x hx1 hx2), hS.2.2⟩ hL
    have e5 : (bMul σ n.toNatClampNeg).1 - base = σ.1 - base + 1 + n.toNatClampNeg := hmon _
    have e6 : bSl (bMul σ n.toNatClampNeg).1 - bSl base = bSl σ.1 - bSl base + n.toNatClampNeg + n.toNatClampNeg * K.toNatClampNeg := by
      show bSl (σ.1 + 1 + n.toNatClampNeg) - bSl base = _
      omega
    rw [e5, e6] at k2
    have k3 : W p l ev (mRm d MC MS) s mi args below meth cd F.heap locs (σ.1 - base + 1 + n.toNatClampNeg) (bSl σ.1 - bSl base + n.toNatClampNeg + n.toNatClampNeg * K.toNatClampNeg) (Q below args s) (F0 mi (pc + 4) ls (.ref (gA g (al σ.1)) :: t.map (mtr (gA g)))) := k2
    rw [hG σ.1 (by omega), ← hHs, ← hTh] at k3
    obtain ⟨t2, a1, b1⟩ := k3 F rfl X'
    exact ⟨t2, step t2 a1, b1⟩
theorem bs_object {l : Launch} {g : mG} {d k : Nat} {Q : List Frame → Array Value → State → State → Prop} {MC MS base pc len a b c : Nat} {ts : List Nat} {L S : List Value} {σ : bS} {r : bC} {i : Nat} (hG : bG g) (hbs : base ≤ σ.1) (hd1 : 1 ≤ d) (h1 : r.2.2.2.1 - base ≤ MC) (h2 : bSl r.2.2.2.1 - bSl base ≤ MS) (hd : decode (mBy k) pc = .ok (.invokespecial i, len)) (hln : mLnB (.invokespecial i) len = true) (hp : mPay k pc (.invokespecial i) a b c ts = true) (h : bStep k pc (.invokespecial i, len, a, b, c, ts) L S σ = some r) (kk : bWB l g d k Q MC MS base r.1 r.2.1 r.2.2.1 r.2.2.2) : bWB l g d k Q MC MS base pc L S σ := by
  intro p ev s mi args below meth cd H locs ls C hin hsz hP hS hL
  obtain ⟨hx, hb, hml, hr, hlk, hown, hts, htab, htr, hW, hB⟩ := id C
  have e1 : len = 3 := Nat.eq_of_beq_eq_true hln
  subst e1
  obtain ⟨x, t, rfl, h⟩ := b1r_of h
  obtain ⟨hc, h3⟩ := bq_of h
  cases h3
  have kk : bWB l g d k Q MC MS base (pc + 3) L t σ := kk
  rw [Bool.and_eq_true, Bool.and_eq_true] at hc
  obtain ⟨-, h8, hot⟩ := hc
  have h8 : (t.map fun v => v.category).sum ≤ 8 := Nat.le_of_ble_eq_true h8
  obtain ⟨q, hq, hq2⟩ := List.any_eq_true.mp hot
  rw [Bool.and_eq_true] at hq2
  have q1 : q.1 = mOc k := Nat.eq_of_beq_eq_true hq2.1
  have q2 : q.2.1 = i := Nat.eq_of_beq_eq_true hq2.2
  have hq3 : lw_tbl[q.2.2]? = some (.methodLink (mCn q.1) q.2.1 Lib.objectInit) := of_decide_eq_true (List.all_eq_true.mp bOT_ok q hq)
  rw [q1, q2] at hq3
  have hcat : ((t.map (mtr (gA g))).map fun v => v.category).sum = (t.map fun v => v.category).sum := by
    rw [List.map_map]
    congr 1
    apply List.map_congr_left
    intro v _
    exact mtr_cat _ v
  have hr0 : 2 * (F0 mi pc ls ((Value.ref x :: t).map (mtr (gA g)))).monitorRoom + ((t.map (mtr (gA g))).map fun v => v.category).sum ≤ 8 := lv_room (by rw [hcat]; exact h8)
  exact W.objInit hx hb hown (hts _ (List.mem_cons_of_mem _ (mGW_at _ hq3 rfl))) (hts _ (List.mem_cons_of_mem _ bW_oi)) (hts _ (List.mem_cons_of_mem _ bW_oc)) rfl (hL.1.trans hml.symm) rfl hd hd1 (show _ + 12 ≤ 64 * d by omega) (kk p ev s mi args below meth cd H locs ls C hin hsz hP hS hL)
