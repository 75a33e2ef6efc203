set_option maxRecDepth 100000
/-! FLOORMOD, BITS, ROWS -/
def jfm (x y : Int32) : Int32 := if 0 ≤ x ^^^ y then jrem x y else if jrem x y = 0 then jrem x y else jrem x y + y
theorem sgn_bt (x : Int32) : 0 ≤ x ↔ bt x 31 = false := by
  have h1 : (0 ≤ x) ↔ (0 : Int) ≤ x.toInt := fa_le 0 x
  rw [h1]
  have h2 : x.toInt = x.toBitVec.toInt := rfl
  have h3 : bt x 31 = x.toBitVec.msb := by unfold bt; rw [BitVec.msb_eq_getLsbD_last]
  rw [h2, h3, BitVec.toInt_eq_msb_cond]
  have h4 := x.toBitVec.isLt
  cases x.toBitVec.msb
  · simp
  · simp only [if_true]
    constructor
    · intro q; omega
    · intro q; cases q
theorem jfm24 (x : Int32) : jfm x 24 = fm24 x := by
  have hs : (0 ≤ x ^^^ 24) ↔ 0 ≤ x := by
    rw [sgn_bt, sgn_bt, b_xor]
    have : bt 24 31 = false := by decide +kernel
    rw [this]
    simp
  have h2 := jrem_toInt x (n := 24) (k := 24) rfl (by decide)
  have h3 := tmod24 x.toInt
  have h5 := Int.tmod_add_mul_tdiv x.toInt 24
  rw [fa_eq, fm_toInt]
  unfold jfm
  have e0 : (0 : Int32).toInt = 0 := rfl
  by_cases hx : 0 ≤ x
  · rw [if_pos (hs.mpr hx), h2, Int.tmod_eq_emod_of_nonneg]
    exact (fa_le 0 x).mp hx
  · rw [if_neg (fun q => hx (hs.mp q))]
    have hx2 : x.toInt < 0 := by
      have h8 : ¬ (0 : Int32).toInt ≤ x.toInt := fun q => hx ((fa_le 0 x).mpr q)
      rw [e0] at h8
      exact Int.not_le.mp h8
    have h6 : x.toInt.tmod 24 ≤ 0 := by
      have e1 : x.toInt.tmod 24 = - ((-x.toInt).tmod 24) := by rw [Int.neg_tmod, Int.neg_neg]
      have := Int.tmod_nonneg 24 (by omega : 0 ≤ - x.toInt)
      omega
    by_cases hz : jrem x 24 = 0
    · rw [if_pos hz, h2]
      have := (fa_eq _ _).mp hz
      rw [h2, e0] at this
      omega
    · rw [if_neg hz]
      have h7 : x.toInt.tmod 24 ≠ 0 := fun q => hz (by rw [fa_eq, h2, q]; rfl)
      rw [Int32.toInt_add, h2]
      show (x.toInt.tmod 24 + 24).bmod (2 ^ 32) = _
      rw [Int.bmod_eq_of_le_mul_two (by omega) (by omega)]
      omega
def jbc (x : Int32) : Int32 :=
  let a := x - (jushr x 1 &&& 1431655765)
  let b := (a &&& 858993459) + (jushr a 2 &&& 858993459)
  let c := (b + jushr b 4) &&& 252645135
  let e := c + jushr c 8
  let f := e + jushr e 16
  f &&& 63
def pc24 (x : Int32) : Nat := fa_cnt (bt x) 24
theorem one24_pc (x : Int32) : one24 x = pc24 x := by
  unfold one24 pc24
  generalize 24 = n
  induction n with
  | zero => rfl
  | succ n ih =>
    cases h : bt x n with
    | true => rw [fa_cnt_yes h, cnt_t (show hB x n from h), ih]
    | false => rw [fa_cnt_no h, cnt_f (show ¬ hB x n from by unfold hB; rw [h]; decide), ih]
theorem jbc_ok : ∀ n, n < 512 → jbc (nI n) = nI (pc24 (nI n)) := by
  unfold jbc jushr
  decide +kernel
theorem jbc_one {n : Nat} (h : n < 512) : jbc (nI n) = nI (one24 (nI n)) := by rw [jbc_ok n h, one24_pc]
/-- the lowest bit of a number -/
def low (n : Nat) : Nat := fa_first (fun i => n.testBit i) 9
def z62 (y s : Int32) : Int32 := if y ≤ 4 then s + jushr y 1 else (s + 2) + jushr (jushr y 2) 1
def z49 (y s : Int32) : Int32 := if y ≤ 16 then z62 y s else z62 (jushr y 4) (s + 4)
def z34 (y s : Int32) : Int32 := if y ≤ 256 then z49 y s else z49 (jushr y 8) (s + 8)
def z19 (y s : Int32) : Int32 := if y ≤ 65536 then z34 y s else z34 (jushr y 16) (s + 16)
def jnz (x : Int32) : Int32 := if 0 < (x ^^^ (-1)) &&& (x - 1) then z19 ((x ^^^ (-1)) &&& (x - 1)) 1 else ((x ^^^ (-1)) &&& (x - 1)) &&& 32
theorem low_ok : ∀ n, n < 512 → n ≠ 0 → low n < 9 ∧ jnz (nI n) = nI (low n) := by
  unfold jnz z19 z34 z49 z62 jushr
  decide +kernel
section J2
variable {l : Launch} {g : mG} {d k : Nat} {Φ : mR → Mm → Int64 → Prop} {MC MS : Nat}
theorem vx_ofWF {y : MethodName} {ws ws' : List Cond} {rm : Room} {Pc : Array Value → State → Prop} {Qc : Array Value → State → Outcome → State → Prop} {XC : String → State → State → Prop} {mc ms : Nat} {free : Addr → Prop} {cc : ByteArray} {maxL : Nat} {ret : Option FieldType}
    (hy : plainFor y = true) (hw : ws = Cond.code y cc maxL ret :: ws')
    (body : ∀ p e s m args below meth c s₁, BodyLoose p l y (headSpec ws rm) cc maxL ret e s m args below meth c s₁ → c.maxLocals = maxL → (∀ x ∈ c.exceptionTable.toList, False) → Pc args s →
      W p l e (headSpec ws rm).room s m args below meth c s.heap [] 0 0 (vx_MQ below Qc XC args s mc ms free) (entryFrame m args maxL)) : vx_Met l y ws rm Pc Qc XC mc ms free := by
  refine MetFree.of_bodySF (code := cc) (maxLocals := maxL) (ret := ret) hy ?_ ?_
  · intro args s m h hn
    obtain ⟨meth, c, h1, h2, h3, h4, h5, h6, -, -⟩ := Cond.code_spec hn (atoms_spec (ws := ws) h _ (by rw [hw]; exact List.mem_cons_self))
    exact ⟨meth, c, h1, h2, h3, h4, h5, h6⟩
  · intro p e s m args below meth c s₁ B hml hP _
    have hh0 : s₁.heap = s.heap := by rw [B.state]; rfl
    have ht : ∀ x ∈ c.exceptionTable.toList, False := by
      obtain ⟨meth9, c9, h1, h2, -, -, -, -, h7, -⟩ := Cond.code_spec B.named (atoms_spec (ws := ws) B.pre _ (by rw [hw]; exact List.mem_cons_self))
      cases Option.some.inj (h1.symm.trans B.method)
      cases Option.some.inj (h2.symm.trans (Stand.of_body B).code)
      intro x hx
      rw [Array.isEmpty_iff.mp h7] at hx
      cases hx
    obtain ⟨t, a1, o, b1, b2, b3⟩ := body p e s m args below meth c s₁ B hml ht hP s₁ hh0 (Stand.of_body B)
    exact ⟨t, o, a1, b1, b2, b3⟩
theorem mSat_ofF {mc ms : Nat} {As : List Value} {m : Mm} {o : Int64} (htr : l.stackTraces = false) (hpn : plainFor (mY k) = true) (hH : mHd k = []) (hoc : mCn (mOc k) = (mY k).cls) (r : Nat) (hc : ∀ v ∈ As, v.category = 1) (hn : mNl k = As.length + r)
    (h : mWB l g d k Φ mc ms 0 (As ++ List.replicate r mJ) [] m o 0 0) : mSat l g d k As m o Φ mc ms := by
  have hcw : mCW k = .code (mY k) (mBy k) (mNl k) (mRt k) := by unfold mCW; rw [hH]
  refine vx_ofWF (cc := mBy k) (maxL := mNl k) (ret := mRt k) hpn (by unfold mWs; rw [hcw]) ?_
  intro p e s mi args below meth c s₁ B hml htab hv
  obtain ⟨rfl, hWd, hPm, hBs⟩ := hv
  rw [lg_entry_eq]
  refine h p e s mi _ below meth c s.heap [] _ ⟨B.exec, B.bytes, hml, B.returns, B.notSynchronized, ?_, atoms_spec (ws := mWs k) B.pre, ?_, htr, hWd, hBs⟩ hPm va_S.rf (mEntry hc hn)
  · rw [hoc]
    exact findClass_of_methodNamed B.named
  · rw [hH]
    cases ht : c.exceptionTable.toList with
    | nil => rfl
    | cons x t => exact (htab x (by rw [ht]; exact List.mem_cons_self)).elim
theorem j_floorMod (m : Mm) (x : Int32) {y : Int32} (hy : y ≠ 0) : mFi l g d k_J9_floorMod_7cf53 [.int x, .int y] m (jfm x y) m := by
  intro htr o
  refine mSat_ofF htr (by decide +kernel) rfl rfl 1 (m1c_of rfl) rfl (mGoOn (mOk (by decide)) rfl [] 400 ?_)
  have hΦ : mΦi (jfm x y) m o (.inl (some (.int (jfm x y)))) m o := ⟨rfl, rfl, rfl⟩
  generalize mΦi (jfm x y) m o = Φ at hΦ ⊢
  show ¬ y = 0 ∧ ((0 ≤ (x ^^^ y) → Φ (.inl (some (.int (jrem x y)))) m o ∧ 0 ≤ 0 ∧ 0 ≤ 0) ∧ (¬ 0 ≤ (x ^^^ y) → ((jrem x y) = 0 → Φ (.inl (some (.int (jrem x y)))) m o ∧ 0 ≤ 0 ∧ 0 ≤ 0) ∧ (¬ (jrem x y) = 0 → Φ (.inl (some (.int ((jrem x y) + y)))) m o ∧ 0 ≤ 0 ∧ 0 ≤ 0)))
  unfold jfm at hΦ
  refine ⟨hy, fun h => ?_, fun h => ⟨fun h2 => ?_, fun h2 => ?_⟩⟩
  · rw [if_pos h] at hΦ; exact eR hΦ
  · rw [if_neg h, if_pos h2] at hΦ; exact eR hΦ
  · rw [if_neg h, if_neg h2] at hΦ; exact eR hΦ
theorem mJT_any {k i a : Nat} (hp : mJT.any (fun q => q.1 == mOc k && q.2.1 == i && q.2.2.1 == a) = true) : Cond.methodLink (mCn (mOc k)) i (mJn a) ∈ mGW := by
  obtain ⟨q, hq, hq2⟩ := List.any_eq_true.mp hp
  simp only [Bool.and_eq_true, beq_iff_eq] at hq2
  have hq3 := List.all_eq_true.mp mJT_ok q hq
  unfold mJtB at hq3
  rw [hq2.1.1, hq2.1.2, hq2.2, decide_eq_true_eq] at hq3
  exact mGW_at _ hq3 rfl
theorem mMe_fm : mMeP 118 := mMeP_of (mOkM (by decide) (by decide))
/-- Math.floorMod, as a step -/
theorem ms_fmod {pc i b c : Nat} {ts : List Nat} (hk : mChk k = true) (he : mFind (mCd k) pc = some (.invokestatic i, 3, 1005, b, c, ts)) (htr2 : l.stackTraces = false) {L R : List Value} {m : Mm} {o : Int64} {cN sN : Nat} {x y : Int32} (hd1 : 1 ≤ d) (h8 : (R.map fun v => v.category).sum ≤ 8) (hc : cN ≤ MC) (hs : sN ≤ MS) (hy : y ≠ 0)
    (kk : mWB l g d k Φ MC MS (pc + 3) L (.int (jfm x y) :: R) m o cN sN) : mWB l g d k Φ MC MS pc L (.int y :: .int x :: R) m o cN sN := by
  intro p ev s mi args below meth cd H locs ls C hP hS hL
  obtain ⟨hx, hb, hml, hr, hlk, hown, hts, htab, htr, hW, hB⟩ := id C
  obtain ⟨hd, -, hp⟩ := mDec hk he
  have hp : mJT.any (fun q => q.1 == mOc k && q.2.1 == i && q.2.2.1 == 1005) = true := hp
  have hl : (Cond.methodLink (mCn (mOc k)) i (mY 118)).before args s = true := hts _ (List.mem_cons_of_mem _ (mJT_any hp))
  obtain ⟨m1, m2, m3, m4, m5, m6, m7, m8, m9⟩ := mMe_fm
  have hM : mSat l g (d - 1) 118 [.int x, .int y] m o (mΦi (jfm x y) m o) 0 0 := j_floorMod m x hy htr2 o
  have hcat : ∀ t : List Value, ((t.map (mtr (gA g))).map fun v => v.category).sum = (t.map fun v => v.category).sum := fun t => by
    rw [List.map_map]
    congr 1
    apply List.map_congr_left
    intro v _
    exact mtr_cat _ v
  have hpre : PreS s H (mPc g [.int x, .int y] m o) ([Value.int x, .int y].map (mtr (gA g))) := ⟨mPc_blind, fun U hU hWm => ⟨rfl, mW_move hWm hW hS hU, by rw [hU]; exact hP, by rw [hU]; exact Nat.le_trans hB hS.1⟩⟩
  have hwd : ∀ w ∈ mWs 118, ∀ (a' : Array Value) (U : State), s.WarmedH U.vm → w.before a' U = true := pay_in hts (mGoodIn m1)
  have hfr : (mRm (d - 1) 0 0).frames + 1 ≤ (mRm d MC MS).frames := by show d - 1 + 1 ≤ d; omega
  have hlo : 8 + (mNl 118 + 11) + (mRm (d - 1) 0 0).locals ≤ (mRm d MC MS).locals := by
    show 8 + (mNl 118 + 11) + 64 * (d - 1) ≤ 64 * d
    omega
  have hcw : mCW 118 = .code (mY 118) (mBy 118) (mNl 118) (mRt 118) := rfl
  have hcode0 : (mCW 118).before args s = true := hts _ (List.mem_cons_of_mem _ m1)
  rw [hcw] at hcode0
  have hini : (Cond.initialized (mY 118).cls).before args s = true := hts _ (List.mem_cons_of_mem _ m2)
  have hstat : (Cond.static (mY 118)).before args s = true := hts _ (List.mem_cons_of_mem _ (m3 rfl))
  have hfit : cN + 0 ≤ (mRm d MC MS).cells ∧ sN + 0 ≤ (mRm d MC MS).slots := ⟨hc, hs⟩
  have hroom : 2 * (F0 mi pc ls ((Value.int y :: .int x :: R).map (mtr (gA g)))).monitorRoom + ((R.map (mtr (gA g))).map fun v => v.category).sum ≤ 8 := lv_room (by rw [hcat]; exact h8)
  refine mGo (vx_runS (As := [Value.int x, .int y].map (mtr (gA g))) (rest := R.map (mtr (gA g))) ⟨hx, hb, hml, hown, hts⟩ hM ⟨⟨rfl, rfl, hfr, hlo, hwd, by rw [← hcw]; exact List.mem_cons_self, hcode0, hini, m6, mSig m9, hl⟩, hstat⟩ hpre rfl rfl hL.1 rfl hroom hd hfit) C hS hL ?_ ?_
  · intro v m' o' q
    rcases v with _ | v
    · exact q.elim
    · cases v with
      | int z =>
        obtain ⟨rfl, rfl, rfl⟩ := q
        exact kk
      | _ => exact q.elim
  · intro z m' o' q
    exact q.elim
theorem j_bitCount (m : Mm) {n : Nat} (hn : n < 512) : mFi l g d k_J6_bitCount_0f7a4 [.int (nI n)] m (nI (one24 (nI n))) m := by
  rw [← jbc_one hn]
  refine nFi 0 rfl rfl rfl (by decide) rfl (fun htr o Φ hΦ => mGoOn (mOk (by decide)) rfl [] 400 ?_)
  show Φ (.inl (some (.int (((((((((nI n) - ((jushr (nI n) (1 : Int32)) &&& (1431655765 : Int32))) &&& (858993459 : Int32)) + ((jushr ((nI n) - ((jushr (nI n) (1 : Int32)) &&& (1431655765 : Int32))) (2 : Int32)) &&& (858993459 : Int32))) + (jushr ((((nI n) - ((jushr (nI n) (1 : Int32)) &&& (1431655765 : Int32))) &&& (858993459 : Int32)) + ((jushr ((nI n) - ((jushr (nI n) (1 : Int32)) &&& (1431655765 : Int32))) (2 : Int32)) &&& (858993459 : Int32))) (4 : Int32))) &&& (252645135 : Int32)) + (jushr ((((((nI n) - ((jushr (nI n) (1 : Int32)) &&& (1431655765 : Int32))) &&& (858993459 : Int32)) + ((jushr ((nI n) - ((jushr (nI n) (1 : Int32)) &&& (1431655765 : Int32))) (2 : Int32)) &&& (858993459 : Int32))) + (jushr ((((nI n) - ((jushr (nI n) (1 : Int32)) &&& (1431655765 : Int32))) &&& (858993459 : Int32)) + ((jushr ((nI n) - ((jushr (nI n) (1 : Int32)) &&& (1431655765 : Int32))) (2 : Int32)) &&& (858993459 : Int32))) (4 : Int32))) &&& (252645135 : Int32)) (8 : Int32))) + (jushr (((((((nI n) - ((jushr (nI n) (1 : Int32)) &&& (1431655765 : Int32))) &&& (858993459 : Int32)) + ((jushr ((nI n) - ((jushr (nI n) (1 : Int32)) &&& (1431655765 : Int32))) (2 : Int32)) &&& (858993459 : Int32))) + (jushr ((((nI n) - ((jushr (nI n) (1 : Int32)) &&& (1431655765 : Int32))) &&& (858993459 : Int32)) + ((jushr ((nI n) - ((jushr (nI n) (1 : Int32)) &&& (1431655765 : Int32))) (2 : Int32)) &&& (858993459 : Int32))) (4 : Int32))) &&& (252645135 : Int32)) + (jushr ((((((nI n) - ((jushr (nI n) (1 : Int32)) &&& (1431655765 : Int32))) &&& (858993459 : Int32)) + ((jushr ((nI n) - ((jushr (nI n) (1 : Int32)) &&& (1431655765 : Int32))) (2 : Int32)) &&& (858993459 : Int32))) + (jushr ((((nI n) - ((jushr (nI n) (1 : Int32)) &&& (1431655765 : Int32))) &&& (858993459 : Int32)) + ((jushr ((nI n) - ((jushr (nI n) (1 : Int32)) &&& (1431655765 : Int32))) (2 : Int32)) &&& (858993459 : Int32))) (4 : Int32))) &&& (252645135 : Int32)) (8 : Int32))) (16 : Int32))) &&& (63 : Int32))))) m o ∧ 0 ≤ 0 ∧ 0 ≤ 0
  exact eR hΦ
theorem j_ntz (m : Mm) {n : Nat} (hn : n < 512) (h0 : n ≠ 0) : mFi l g d k_J6_numberOfTrailingZeros_0f7a4 [.int (nI n)] m (nI (low n)) m := by
  rw [← (low_ok n hn h0).2]
  generalize nI n = x
  refine nFi 1 rfl rfl rfl (by decide) rfl (fun htr o Φ hΦ => ?_)
  have h62 : ∀ y s : Int32, Φ (.inl (some (.int (z62 y s)))) m o → mWB l g d k_J6_numberOfTrailingZeros_0f7a4 Φ 0 0 62 [.int y, .int s] [] m o 0 0 := by
    intro y s h
    refine mGoOn (mOk (by decide)) rfl [] 400 ?_
    show (y ≤ (4 : Int32) → Φ (.inl (some (.int (s + (jushr y (1 : Int32)))))) m o ∧ 0 ≤ 0 ∧ 0 ≤ 0) ∧ (¬ y ≤ (4 : Int32) → Φ (.inl (some (.int ((s + (2 : Int32)) + (jushr (jushr y (2 : Int32)) (1 : Int32)))))) m o ∧ 0 ≤ 0 ∧ 0 ≤ 0)
    unfold z62 at h
    refine ⟨fun q => ?_, fun q => ?_⟩
    · rw [if_pos q] at h; exact eR h
    · rw [if_neg q] at h; exact eR h
  have h49 : ∀ y s : Int32, Φ (.inl (some (.int (z49 y s)))) m o → mWB l g d k_J6_numberOfTrailingZeros_0f7a4 Φ 0 0 49 [.int y, .int s] [] m o 0 0 := by
    intro y s h
    refine mGoOn (mOk (by decide)) rfl [62] 400 ?_
    show (y ≤ (16 : Int32) → mWB l g d k_J6_numberOfTrailingZeros_0f7a4 Φ 0 0 62 [.int y, .int s] [] m o 0 0) ∧ (¬ y ≤ (16 : Int32) → mWB l g d k_J6_numberOfTrailingZeros_0f7a4 Φ 0 0 62 [.int (jushr y (4 : Int32)), .int (s + (4 : Int32))] [] m o 0 0)
    unfold z49 at h
    refine ⟨fun q => h62 _ _ ?_, fun q => h62 _ _ ?_⟩
    · rw [if_pos q] at h; exact h
    · rw [if_neg q] at h; exact h
  have h34 : ∀ y s : Int32, Φ (.inl (some (.int (z34 y s)))) m o → mWB l g d k_J6_numberOfTrailingZeros_0f7a4 Φ 0 0 34 [.int y, .int s] [] m o 0 0 := by
    intro y s h
    refine mGoOn (mOk (by decide)) rfl [49] 400 ?_
    show (y ≤ (256 : Int32) → mWB l g d k_J6_numberOfTrailingZeros_0f7a4 Φ 0 0 49 [.int y, .int s] [] m o 0 0) ∧ (¬ y ≤ (256 : Int32) → mWB l g d k_J6_numberOfTrailingZeros_0f7a4 Φ 0 0 49 [.int (jushr y (8 : Int32)), .int (s + (8 : Int32))] [] m o 0 0)
    unfold z34 at h
    refine ⟨fun q => h49 _ _ ?_, fun q => h49 _ _ ?_⟩
    · rw [if_pos q] at h; exact h
    · rw [if_neg q] at h; exact h
  have h8 : ∀ y : Int32, Φ (.inl (some (.int (if 0 < y then z19 y 1 else y &&& 32)))) m o → mWB l g d k_J6_numberOfTrailingZeros_0f7a4 Φ 0 0 8 [.int y, mJ] [] m o 0 0 := by
    intro y h
    refine mGoOn (mOk (by decide)) rfl [34] 400 ?_
    show (0 < y → (y ≤ (65536 : Int32) → mWB l g d k_J6_numberOfTrailingZeros_0f7a4 Φ 0 0 34 [.int y, .int (1 : Int32)] [] m o 0 0) ∧ (¬ y ≤ (65536 : Int32) → mWB l g d k_J6_numberOfTrailingZeros_0f7a4 Φ 0 0 34 [.int (jushr y (16 : Int32)), .int ((1 : Int32) + (16 : Int32))] [] m o 0 0)) ∧ (¬ 0 < y → Φ (.inl (some (.int (y &&& (32 : Int32))))) m o ∧ 0 ≤ 0 ∧ 0 ≤ 0)
    unfold z19 at h
    refine ⟨fun q => ⟨fun q2 => h34 _ _ ?_, fun q2 => h34 _ _ ?_⟩, fun q => ?_⟩
    · rw [if_pos q, if_pos q2] at h; exact h
    · rw [if_pos q, if_neg q2] at h; exact h
    · rw [if_neg q] at h; exact eR h
  refine mGoOn (mOk (by decide)) rfl [8] 400 ?_
  exact h8 _ hΦ
/-- a row whose first n places hold v -/
def fil (f : Nat → Int32) (n : Nat) (v : Int32) : Nat → Int32 := fun i => if i < n then v else f i
theorem j_fill (m : Mm) {a n : Nat} (ha : mIsB a 1 = true) (hl : mLn a = n) (hn : n < 2 ^ 31) (v : Int32) : mFu l g d k_J7_fill_53178 [.ref a, .int v] m (mput m a (fil (m a) n v)) := by
  have hB := mIsB_of ha
  have hA : mArrB a = true := by
    unfold mArrB
    rw [hB.2, (show Nat.blt a mNc = true by simpa [Nat.blt_eq] using hB.1)]
    rfl
  refine nFu 2 rfl rfl rfl (by decide) rfl (fun htr o Φ hΦ => mGoOn (mOk (by decide)) rfl [5] 400 ?_)
  show mReq (mArrB a) (mWB l g d k_J7_fill_53178 Φ 0 0 5 [.ref a, .int v, .int (0 : Int32), .int (Int32.ofNat (mLn a))] [] m o 0 0)
  refine mReq_i hA ?_
  rw [hl]
  refine mLoopZ (P := fun k => ∀ m', m' = mput m a (fil (m a) k v) → mWB l g d k_J7_fill_53178 Φ 0 0 5 [.ref a, .int v, .int (nI k), .int (nI n)] [] m' o 0 0) (N := n) ?_ ?_ m ?_
  · intro m' e
    refine mGoOn (mOk (by decide)) rfl [5] 400 ?_
    show ((nI n) ≤ (nI n) → Φ (.inl none) m' o ∧ 0 ≤ 0 ∧ 0 ≤ 0) ∧ (¬ (nI n) ≤ (nI n) → mReq (mIsB a 1) (mReq (mInB (nI n) (mLn a)) (mWB l g d k_J7_fill_53178 Φ 0 0 5 [.ref a, .int v, .int ((nI n) + (1 : Int32)), .int (nI n)] [] (mset m' a ((nI n).toNatClampNeg) v) o 0 0)))
    simp (disch := omega) only [mReq_tt, nI_0a, nI_a0, nI_cl, mIn_ok, lit_add, lit_sub, add_lit, lit_le, le_lit, lit_lt, lt_lit, eq_lit, nI_add, nI_1, nI_leI, nI_ltI, nI_eq, mIn_lit, mIn_0, mIn_1, mIn_2, mIn_3, nI_l0, nI_p0, rf_22, rf_44, rf_60, rf_69, rf_391, rf_7, rf_37, rf_51, rf_230, rf_401, rf_413, rf_496, rf_513, rf_518, sB_2, sB_3, sB_4, sB_5, sB_6, sB_7, sL_2, sL_3, sL_4, sL_5, sL_6, sL_7, not_true_eq_false, not_false_eq_true, false_implies, true_implies, true_and, and_true, eq_self, true_or, or_true, Nat.le_refl, Nat.zero_add, Nat.add_zero]
    rw [e]
    exact hΦ
  · intro k hk ih m' e
    refine mGoOn (mOk (by decide)) rfl [5] 400 ?_
    show ((nI n) ≤ (nI k) → Φ (.inl none) m' o ∧ 0 ≤ 0 ∧ 0 ≤ 0) ∧ (¬ (nI n) ≤ (nI k) → mReq (mIsB a 1) (mReq (mInB (nI k) (mLn a)) (mWB l g d k_J7_fill_53178 Φ 0 0 5 [.ref a, .int v, .int ((nI k) + (1 : Int32)), .int (nI n)] [] (mset m' a ((nI k).toNatClampNeg) v) o 0 0)))
    have hfk : ¬ n ≤ k := by omega
    simp (disch := omega) only [mReq_tt, nI_0a, nI_a0, nI_cl, mIn_ok, lit_add, lit_sub, add_lit, lit_le, le_lit, lit_lt, lt_lit, eq_lit, nI_add, nI_1, nI_leI, nI_ltI, nI_eq, mIn_lit, mIn_0, mIn_1, mIn_2, mIn_3, nI_l0, nI_p0, rf_22, rf_44, rf_60, rf_69, rf_391, rf_7, rf_37, rf_51, rf_230, rf_401, rf_413, rf_496, rf_513, rf_518, sB_2, sB_3, sB_4, sB_5, sB_6, sB_7, sL_2, sL_3, sL_4, sL_5, sL_6, sL_7, not_true_eq_false, not_false_eq_true, false_implies, true_implies, true_and, and_true, eq_self, true_or, or_true, Nat.le_refl, Nat.zero_add, Nat.add_zero, ha, hl, hfk]
    refine ih _ ?_
    rw [e]
    funext x j
    rw [mset_ap]
    by_cases q : x = a
    · subst q
      simp only [mput_eq, true_and]
      unfold fil
      by_cases q2 : j = k
      · rw [if_pos q2, if_pos (by omega)]
      · rw [if_neg q2]
        by_cases q3 : j < k
        · rw [if_pos q3, if_pos (by omega)]
        · rw [if_neg q3, if_neg (by omega)]
    · rw [if_neg (fun z => q z.1), mput_ne _ _ q, mput_ne _ _ q]
  · funext x j
    by_cases q : x = a
    · subst q
      rw [mput_eq]
      unfold fil
      rw [if_neg (by omega)]
    · rw [mput_ne _ _ q]
/-- 'at' of the class: 0 outside -/
def atv (f : Nat → Int32) (n : Nat) (j : Int32) : Int32 := if 0 ≤ j ∧ j < nI n then f j.toNatClampNeg else 0
theorem atv_in {f : Nat → Int32} {n k : Nat} (h : k < n) (hn : n < 2 ^ 31) : atv f n (nI k) = f k := by
  unfold atv
  rw [if_pos ⟨nI_pos' (by omega), nI_lt h hn⟩, nI_clamp (by omega)]
theorem atv_out {f : Nat → Int32} {n : Nat} {j : Int32} (h : ¬ (0 ≤ j ∧ j < nI n)) : atv f n j = 0 := if_neg h
theorem arrB_of {a : Nat} (ha : mIsB a 1 = true) : mArrB a = true := by
  have hB := mIsB_of ha
  unfold mArrB
  rw [hB.2, (show Nat.blt a mNc = true by simpa [Nat.blt_eq] using hB.1)]
  rfl
theorem mIn_of {j : Int32} {n : Nat} (h1 : 0 ≤ j) (h2 : j < nI n) (hn : n < 2 ^ 31) : mInB j n = true ∧ j.toNatClampNeg < n := by
  obtain ⟨k, hk, rfl⟩ := (in_In (s := j) hn).mp ⟨h1, by
    rw [fa_le]
    have := (fa_lt _ _).mp h2
    rw [nI_toInt hn] at this
    have h0 := (fa_le _ _).mp h1
    have e0 : (0 : Int32).toInt = 0 := rfl
    rw [e0] at h0
    have h3 : (nI n - 1).toInt = (n : Int) - 1 := by
      rw [Int32.toInt_sub, nI_toInt hn]
      show ((n : Int) - 1).bmod (2 ^ 32) = _
      rw [Int.bmod_eq_of_le_mul_two] <;> omega
    omega⟩
  exact ⟨mIn_nI hk hn, by rw [nI_clamp (by omega)]; exact hk⟩
theorem x_atG (m : Mm) {a n : Nat} (ha : mIsB a 1 = true) (hl : mLn a = n) (hn : n < 2 ^ 31) (j : Int32) : mFi l g d k_X11_at [.ref a, .int j] m (atv (m a) n j) m := by
  refine nFi 0 rfl rfl rfl (by decide) rfl (fun htr o Φ hΦ => mGoOn (mOk (by decide)) rfl [] 400 ?_)
  show (j < 0 → Φ (.inl (some (.int (0 : Int32)))) m o ∧ 0 ≤ 0 ∧ 0 ≤ 0) ∧ (¬ j < 0 → mReq (mArrB a) (((Int32.ofNat (mLn a)) ≤ j → Φ (.inl (some (.int (0 : Int32)))) m o ∧ 0 ≤ 0 ∧ 0 ≤ 0) ∧ (¬ (Int32.ofNat (mLn a)) ≤ j → mReq (mIsB a 1) (mReq (mInB j (mLn a)) (Φ (.inl (some (.int (m a j.toNatClampNeg)))) m o ∧ 0 ≤ 0 ∧ 0 ≤ 0)))))
  rw [hl]
  have ee : Int32.ofNat n = nI n := rfl
  rw [ee]
  refine ⟨fun h => ?_, fun h => mReq_i (arrB_of ha) ⟨fun h2 => ?_, fun h2 => ?_⟩⟩
  · rw [atv_out (fun q => (fa_of_lt h).2.1 q.1)] at hΦ
    exact eR hΦ
  · rw [atv_out (fun q => (fa_of_lt q.2).2.1 h2)] at hΦ
    exact eR hΦ
  · have h3 := fa_of_nlt h
    have h4 := fa_of_nle h2
    refine mReq_i ha (mReq_i (mIn_of h3 h4 hn).1 ?_)
    unfold atv at hΦ
    rw [if_pos ⟨h3, h4⟩] at hΦ
    exact eR hΦ
theorem x_at (m : Mm) {a n k : Nat} (ha : mIsB a 1 = true) (hl : mLn a = n) (hn : n < 2 ^ 31) (hk : k < n) : mFi l g d k_X11_at [.ref a, .int (nI k)] m (m a k) m := by
  have h := x_atG (l := l) (g := g) (d := d) m ha hl hn (nI k)
  rwa [atv_in hk hn] at h
/-- 'put' of the class: nothing outside -/
def ptv (m : Mm) (a n : Nat) (j v : Int32) : Mm := if 0 ≤ j ∧ j < nI n then mset m a j.toNatClampNeg v else m
theorem x_putG (m : Mm) {a n : Nat} (ha : mIsB a 1 = true) (hl : mLn a = n) (hn : n < 2 ^ 31) (j v : Int32) : mFu l g d k_X11_put [.ref a, .int j, .int v] m (ptv m a n j v) := by
  refine nFu 0 rfl rfl rfl (by decide) rfl (fun htr o Φ hΦ => mGoOn (mOk (by decide)) rfl [] 400 ?_)
  show (j < 0 → Φ (.inl none) m o ∧ 0 ≤ 0 ∧ 0 ≤ 0) ∧ (¬ j < 0 → mReq (mArrB a) (((Int32.ofNat (mLn a)) ≤ j → Φ (.inl none) m o ∧ 0 ≤ 0 ∧ 0 ≤ 0) ∧ (¬ (Int32.ofNat (mLn a)) ≤ j → mReq (mIsB a 1) (mReq (mInB j (mLn a)) (Φ (.inl none) (mset m a j.toNatClampNeg v) o ∧ 0 ≤ 0 ∧ 0 ≤ 0)))))
  rw [hl]
  have ee : Int32.ofNat n = nI n := rfl
  rw [ee]
  unfold ptv at hΦ
  refine ⟨fun h => ?_, fun h => mReq_i (arrB_of ha) ⟨fun h2 => ?_, fun h2 => ?_⟩⟩
  · rw [if_neg (fun q => (fa_of_lt h).2.1 q.1)] at hΦ
    exact eR hΦ
  · rw [if_neg (fun q => (fa_of_lt q.2).2.1 h2)] at hΦ
    exact eR hΦ
  · have h3 := fa_of_nlt h
    have h4 := fa_of_nle h2
    refine mReq_i ha (mReq_i (mIn_of h3 h4 hn).1 ?_)
    rw [if_pos ⟨h3, h4⟩] at hΦ
    exact eR hΦ
theorem x_put (m : Mm) {a n k : Nat} (ha : mIsB a 1 = true) (hl : mLn a = n) (hn : n < 2 ^ 31) (hk : k < n) (v : Int32) : mFu l g d k_X11_put [.ref a, .int (nI k), .int v] m (mset m a k v) := by
  have h := x_putG (l := l) (g := g) (d := d) m ha hl hn (nI k) v
  unfold ptv at h
  rwa [if_pos ⟨nI_pos' (by omega), nI_lt hk hn⟩, nI_clamp (by omega)] at h
/-- the first n of x, behind them what y held -/
def cpf (f h : Nat → Int32) (n : Nat) : Nat → Int32 := fun i => if i < n then f i else h i
theorem x_copyRow (m : Mm) {x y n : Nat} (hx : mIsB x 1 = true) (hlx : mLn x = n) (hy : mIsB y 1 = true) (hly : mLn y = n) (hn : n < 2 ^ 31) (hd : 1 ≤ d) : mFu l g d k_X11_copyRow [.ref x, .ref y] m (mput m y (cpf (m x) (m y) n)) := by
  refine nFu 0 rfl rfl rfl (by decide) rfl (fun htr o Φ hΦ => mGoOn (mOk (by decide)) rfl [] 400 ?_)
  show mReq (mArrB x) (mReq (mArrB y) (1 ≤ d ∧ (([.int (0 : Int32), .ref y, .int (0 : Int32), .ref x] : List Value).map fun v => v.category).sum ≤ 8 ∧ 0 ≤ 0 ∧ 0 ≤ 0 ∧ (mReq (mIsB x 1) (mReq (mIsB y 1) (¬ (0 : Int32) < 0 ∧ ¬ (0 : Int32) < 0 ∧ ¬ (if (Int32.ofNat (mLn y)) < (Int32.ofNat (mLn x)) then (Int32.ofNat (mLn y)) else (Int32.ofNat (mLn x))) < 0 ∧ 0 + (if (Int32.ofNat (mLn y)) < (Int32.ofNat (mLn x)) then (Int32.ofNat (mLn y)) else (Int32.ofNat (mLn x))).toNatClampNeg ≤ mLn x ∧ 0 + (if (Int32.ofNat (mLn y)) < (Int32.ofNat (mLn x)) then (Int32.ofNat (mLn y)) else (Int32.ofNat (mLn x))).toNatClampNeg ≤ mLn y ∧ 1 ≤ d ∧ (([] : List Value).map fun v => v.category).sum ≤ 8 ∧ (Φ (.inl none) (mput m y (va_cpy (m x) (m y) 0 0 ((if (Int32.ofNat (mLn y)) < (Int32.ofNat (mLn x)) then (Int32.ofNat (mLn y)) else (Int32.ofNat (mLn x))).toNatClampNeg))) o ∧ 0 ≤ 0 ∧ 0 ≤ 0))))))
  rw [hlx, hly]
  have ee : Int32.ofNat n = nI n := rfl
  rw [ee]
  have e1 : (if nI n < nI n then nI n else nI n) = nI n := by split <;> rfl
  rw [e1]
  refine mReq_i (arrB_of hx) (mReq_i (arrB_of hy) ⟨hd, Nat.le_of_ble_eq_true rfl, Nat.le_refl _, Nat.le_refl _, mReq_i hx (mReq_i hy ⟨by decide, by decide, nI_pos hn, ?_, ?_, hd, Nat.le_of_ble_eq_true rfl, ?_⟩)⟩)
  · rw [nI_clamp hn]; omega
  · rw [nI_clamp hn]; omega
  · rw [nI_clamp hn]
    have e2 : va_cpy (m x) (m y) 0 0 n = cpf (m x) (m y) n := by
      funext i
      unfold cpf
      by_cases q : i < n
      · rw [if_pos q, pk_cpy_in (Nat.zero_le _) (by omega)]
        congr 1
        omega
      · rw [if_neg q, pk_cpy_out (Or.inr (by omega))]
    rw [e2]
    exact eR hΦ
theorem x_places (m : Mm) {a n N : Nat} (ha : mIsB a 1 = true) (hl : mLn a = n) (hn : n < 2 ^ 31) (hN : N ≤ n) (hN2 : N < 32) (v : Int32) : mFi l g d k_X11_places [.ref a, .int (nI N), .int v] m (msk (fun i => m a i = v) N) m := by
  have hA := arrB_of ha
  refine nFi 2 rfl rfl rfl (by decide) rfl (fun htr o Φ hΦ => mGoOn (mOk (by decide)) rfl [5] 400 ?_)
  show mWB l g d k_X11_places Φ 0 0 5 [.ref a, .int (nI N), .int v, .int (0 : Int32), .int (0 : Int32)] [] m o 0 0
  refine mLoopZ (P := fun k => mWB l g d k_X11_places Φ 0 0 5 [.ref a, .int (nI N), .int v, .int (msk (fun i => m a i = v) k), .int (nI k)] [] m o 0 0) (N := N) (mGoOn (mOk (by decide)) rfl [5] 400 ?_) (fun k hi ih => mGoOn (mOk (by decide)) rfl [5] 400 ?_)
  · show ((nI N) ≤ (nI N) → Φ (.inl (some (.int (msk (fun i => m a i = v) N)))) m o ∧ 0 ≤ 0 ∧ 0 ≤ 0) ∧ (¬ (nI N) ≤ (nI N) → mReq (mArrB a) (((Int32.ofNat (mLn a)) ≤ (nI N) → Φ (.inl (some (.int (msk (fun i => m a i = v) N)))) m o ∧ 0 ≤ 0 ∧ 0 ≤ 0) ∧ (¬ (Int32.ofNat (mLn a)) ≤ (nI N) → mReq (mIsB a 1) (mReq (mInB (nI N) (mLn a)) ((¬ (m a ((nI N).toNatClampNeg)) = v → mWB l g d k_X11_places Φ 0 0 5 [.ref a, .int (nI N), .int v, .int (msk (fun i => m a i = v) N), .int ((nI N) + (1 : Int32))] [] m o 0 0) ∧ ((m a ((nI N).toNatClampNeg)) = v → mWB l g d k_X11_places Φ 0 0 5 [.ref a, .int (nI N), .int v, .int ((msk (fun i => m a i = v) N) ||| (jshl (1 : Int32) (nI N))), .int ((nI N) + (1 : Int32))] [] m o 0 0))))))
    simp (disch := omega) only [mReq_tt, nI_0a, nI_a0, nI_cl, mIn_ok, lit_add, lit_sub, add_lit, lit_le, le_lit, lit_lt, lt_lit, eq_lit, nI_add, nI_1, nI_leI, nI_ltI, nI_eq, mIn_lit, mIn_0, mIn_1, mIn_2, mIn_3, nI_l0, nI_p0, rf_22, rf_44, rf_60, rf_69, rf_391, rf_7, rf_37, rf_51, rf_230, rf_401, rf_413, rf_496, rf_513, rf_518, sB_2, sB_3, sB_4, sB_5, sB_6, sB_7, sL_2, sL_3, sL_4, sL_5, sL_6, sL_7, not_true_eq_false, not_false_eq_true, false_implies, true_implies, true_and, and_true, eq_self, true_or, or_true, Nat.le_refl, Nat.zero_add, Nat.add_zero, ha, hl, hA]
    exact hΦ
  show ((nI N) ≤ (nI k) → Φ (.inl (some (.int (msk (fun i => m a i = v) k)))) m o ∧ 0 ≤ 0 ∧ 0 ≤ 0) ∧ (¬ (nI N) ≤ (nI k) → mReq (mArrB a) (((Int32.ofNat (mLn a)) ≤ (nI k) → Φ (.inl (some (.int (msk (fun i => m a i = v) k)))) m o ∧ 0 ≤ 0 ∧ 0 ≤ 0) ∧ (¬ (Int32.ofNat (mLn a)) ≤ (nI k) → mReq (mIsB a 1) (mReq (mInB (nI k) (mLn a)) ((¬ (m a ((nI k).toNatClampNeg)) = v → mWB l g d k_X11_places Φ 0 0 5 [.ref a, .int (nI N), .int v, .int (msk (fun i => m a i = v) k), .int ((nI k) + (1 : Int32))] [] m o 0 0) ∧ ((m a ((nI k).toNatClampNeg)) = v → mWB l g d k_X11_places Φ 0 0 5 [.ref a, .int (nI N), .int v, .int ((msk (fun i => m a i = v) k) ||| (jshl (1 : Int32) (nI k))), .int ((nI k) + (1 : Int32))] [] m o 0 0))))))
  have hf : ¬ N ≤ k := by omega
  simp (disch := omega) only [mReq_tt, nI_0a, nI_a0, nI_cl, mIn_ok, lit_add, lit_sub, add_lit, lit_le, le_lit, lit_lt, lt_lit, eq_lit, nI_add, nI_1, nI_leI, nI_ltI, nI_eq, mIn_lit, mIn_0, mIn_1, mIn_2, mIn_3, nI_l0, nI_p0, rf_22, rf_44, rf_60, rf_69, rf_391, rf_7, rf_37, rf_51, rf_230, rf_401, rf_413, rf_496, rf_513, rf_518, sB_2, sB_3, sB_4, sB_5, sB_6, sB_7, sL_2, sL_3, sL_4, sL_5, sL_6, sL_7, not_true_eq_false, not_false_eq_true, false_implies, true_implies, true_and, and_true, eq_self, true_or, or_true, Nat.le_refl, Nat.zero_add, Nat.add_zero, ha, hl, hA, hf]
  have ee : Int32.ofNat n = nI n := rfl
  have hf2 : ¬ n ≤ k := by omega
  rw [ee]
  simp (disch := omega) only [mReq_tt, nI_0a, nI_a0, nI_cl, mIn_ok, lit_add, lit_sub, add_lit, lit_le, le_lit, lit_lt, lt_lit, eq_lit, nI_add, nI_1, nI_leI, nI_ltI, nI_eq, mIn_lit, mIn_0, mIn_1, mIn_2, mIn_3, nI_l0, nI_p0, rf_22, rf_44, rf_60, rf_69, rf_391, rf_7, rf_37, rf_51, rf_230, rf_401, rf_413, rf_496, rf_513, rf_518, sB_2, sB_3, sB_4, sB_5, sB_6, sB_7, sL_2, sL_3, sL_4, sL_5, sL_6, sL_7, not_true_eq_false, not_false_eq_true, false_implies, true_implies, true_and, and_true, eq_self, true_or, or_true, Nat.le_refl, Nat.zero_add, Nat.add_zero, ha, hl, hf2]
  exact ⟨fun h => by rw [msk_f h] at ih; exact ih, fun h => by rw [msk_t h] at ih; exact ih⟩
end J2
