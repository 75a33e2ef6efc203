/-! THE TABLES ARE RIGHT: each entry of the code tables decodes, each link is a word of the tables -/
def mFtB (q : Nat × Nat × Nat × Nat × Nat × Nat) : Bool := match vwCl[q.2.2.1]? with
  | some r => decide (q.2.2.2.1 < r.2.2) && decide (lw_tbl[q.2.2.2.2.2]? = some (.fieldLink (mCn q.1) q.2.1 (r.2.1 q.2.2.2.1).1 (r.2.1 q.2.2.2.1).2.1 (r.2.1 q.2.2.2.1).2.2.1)) && decide (q.2.2.2.2.1 = if mIsRef q.2.2.1 q.2.2.2.1 = true then 1 else 0) && (decide (q.2.2.2.2.1 = 1) || !(r.2.1 q.2.2.2.1).2.2.2)
  | none => false
theorem mFT_ok : mFT.all mFtB = true := by decide +kernel
def mMtB (q : Nat × Nat × Nat × Nat × Nat) : Bool :=
  if 10 ≤ q.2.2.1 then (match mNW[q.2.2.2.2]? with
    | some r => decide (r.1 = mCn q.1) && decide (r.2.1 = q.2.1) && decide (r.2.2.1 = mY q.2.2.2.1)
    | none => false)
  else decide (lw_tbl[q.2.2.2.2]? = some (.methodLink (mCn q.1) q.2.1 (mY q.2.2.2.1)))
theorem mMT_ok : mMT.all mMtB = true := by decide +kernel
def mKsB (q : Nat × Nat × Nat × Nat × Nat) : Bool := decide (lw_tbl[q.2.2.2.1]? = some (.constant (mCn q.1) q.2.1 (Int32.ofNat q.2.2.1))) || decide (lw_tbl[q.2.2.2.1]? = some (.constantLong (mCn q.1) q.2.1 (Int64.ofNat q.2.2.1)))
theorem mKs_ok : mKs.all mKsB = true := by decide +kernel
def mKtB (q : Nat × Nat × Nat) : Bool := decide (lw_tbl[q.2.2]? = some (.methodLink (mCn q.1) q.2.1 arraycopyName))
theorem mKT_ok : mKT.all mKtB = true := by decide +kernel
def mJn (a : Nat) : MethodName := if a = 1003 then Lib.Math.min.name else if a = 1004 then Lib.Math.max.name else ⟨"java/lang/Math", "floorMod", "(II)I"⟩
def mJtB (q : Nat × Nat × Nat × Nat) : Bool := decide (lw_tbl[q.2.2.2]? = some (.methodLink (mCn q.1) q.2.1 (mJn q.2.2.1)))
theorem mJT_ok : mJT.all mJtB = true := by decide +kernel
/-- a word that is this code, whatever its bytes -/
def mCwB (y : MethodName) (n : Nat) (r : Option FieldType) (hh : List (Nat × Nat × Nat × Nat)) : Option Cond → Bool
  | some (.code y' _ n' r') => decide (y' = y) && decide (n' = n) && decide (r' = r) && decide (hh = [])
  | some (.codeWith y' _ n' r' h') => decide (y' = y) && decide (n' = n) && decide (r' = r) && decide (h' = hh) && decide (hh ≠ [])
  | _ => false
/-- a method's own words -/
def mMeB (k : Nat) : Bool :=
  mCwB (mY k) (mNl k) (mRt k) (mHd k) (lw_tbl[(mPl k).getD 0 0]?) && decide (lw_tbl[(mPl k).getD 1 0]? = some (.initialized (mY k).cls)) &&
  (if (mPl k).getD 4 0 = 1 then decide (lw_tbl[(mPl k).getD 2 0]? = some (.static (mY k))) else decide (lw_tbl[(mPl k).getD 2 0]? = some (.instanceMethod (mY k)))) &&
  (if (mPl k).getD 4 0 = 1 ∨ (mY k).name = "<init>" then true else decide (lw_tbl[(mPl k).getD 3 0]? = some (.selects (mY k).cls (mY k) (mY k)))) &&
  decide ((mY k).cls ≠ "java/lang/invoke/MethodHandle") && decide ((mY k).cls ≠ "java/lang/invoke/VarHandle") && decide (mNl k ≤ 40) && decide (mCn (mOc k) = (mY k).cls) &&
  decide ((parseMethodDescriptor (mY k).desc).map (fun d => d.parameters.length) = some ((mPl k).getD 5 0))
def mLit : Int → Int32
  | .ofNat n => Int32.ofNat n
  | .negSucc n => -(Int32.ofNat (n + 1))
def mPay (k pc : Nat) (ins : Instr) (a b c : Nat) (ts : List Nat) : Bool := match ins with
  | .iconst n => decide (Int32.ofInt n = mLit n)
  | .bipush n => decide ((Int8.ofInt n).toInt32 = mLit n)
  | .sipush n => decide ((Int16.ofInt n).toInt32 = mLit n)
  | .iinc i n => decide (Int32.ofInt n = mLit n) && decide (i < mNl k)
  | .istore i => decide (i < mNl k)
  | .istore_n i => decide (i.val < mNl k)
  | .astore i => decide (i < mNl k)
  | .astore_n i => decide (i.val < mNl k)
  | .lstore i => decide (i + 1 < mNl k)
  | .lstore_n i => decide (i.val + 1 < mNl k)
  | .ireturn => if a = 0 then decide (mRt k = some .int) else if a = 1 then decide (mRt k = some .boolean) else true
  | .lreturn => decide (mRt k = some .long)
  | .return_ => decide (mRt k = none)
  | .areturn => if a = 0 then (match mRt k with | some (.object _) => true | some (.array _) => true | _ => false) else true
  | .goto off => decide ((pc : Int) + off = (a : Int))
  | .ifCond _ off => decide ((pc : Int) + off = (a : Int))
  | .if_icmp _ off => decide ((pc : Int) + off = (a : Int))
  | .ifnull off => decide ((pc : Int) + off = (a : Int))
  | .ifnonnull off => decide ((pc : Int) + off = (a : Int))
  | .tableswitch dflt lo hi offs => decide ((pc : Int) + dflt = (a : Int)) && decide (offs.toList.map (fun z => (pc : Int) + z) = ts.map (fun t : Nat => (t : Int))) && decide (hi = lo + (ts.length : Int) - 1)
  | .lookupswitch dflt ps => decide ((pc : Int) + dflt = (a : Int)) && decide (ps.toList.map (fun z => (pc : Int) + z.2) = ts.map (fun t : Nat => (t : Int))) && (ps.toList.zip (ps.toList.drop 1)).all (fun (x, y) => x.1 < y.1)
  | .getfield i => if a < 13 then mFT.any (fun q => q.1 == mOc k && q.2.1 == i && q.2.2.1 == a && q.2.2.2.1 == b && q.2.2.2.2.1 == c) else true
  | .putfield i => if a < 13 then mFT.any (fun q => q.1 == mOc k && q.2.1 == i && q.2.2.1 == a && q.2.2.2.1 == b && q.2.2.2.2.1 == c) else true
  | .invokestatic i => if a < 1000 then mMT.any (fun q => q.1 == mOc k && q.2.1 == i && q.2.2.1 == ts.getD 0 99 && q.2.2.2.1 == a) && decide ((mPl a).getD 4 0 = 1) && decide (b = (mPl a).getD 5 0) && (ts.getD 0 99 == 0 || ts.getD 0 99 == 10) else if a = 1002 then mKT.any (fun q => q.1 == mOc k && q.2.1 == i) else if 1003 ≤ a ∧ a ≤ 1005 then mJT.any (fun q => q.1 == mOc k && q.2.1 == i && q.2.2.1 == a) else true
  | .invokevirtual i => if a < 1000 then mMT.any (fun q => q.1 == mOc k && q.2.1 == i && q.2.2.1 == ts.getD 0 99 && q.2.2.2.1 == a) && decide ((mPl a).getD 4 0 ≠ 1) && decide ((mY a).name ≠ "<init>") && decide (b = (mPl a).getD 5 0 + 1) && (if ts.getD 0 99 = 3 then decide ((mY a).cls = "java/lang/String") else (ts.getD 0 99 == 1 && (match vwCl[ts.getD 1 99]? with | some r => decide (r.1 = (mY a).cls) | none => false))) else true
  | .ldc i => if c = 1 then mStr.any (fun q => q.1 == mCn (mOc k) && q.2.1 == i && q.2.2 == a) else if c = 2 then mKs.any (fun q => q.1 == mOc k && q.2.1 == i && q.2.2.1 == a && decide (lw_tbl[q.2.2.2.1]? = some (.constant (mCn q.1) q.2.1 (Int32.ofNat q.2.2.1)))) else true
  | .ldc_w i => if c = 2 then mKs.any (fun q => q.1 == mOc k && q.2.1 == i && q.2.2.1 == a && decide (lw_tbl[q.2.2.2.1]? = some (.constant (mCn q.1) q.2.1 (Int32.ofNat q.2.2.1)))) else true
  | .ldc2_w i => if c = 2 then mKs.any (fun q => q.1 == mOc k && q.2.1 == i && q.2.2.1 == a && decide (lw_tbl[q.2.2.2.1]? = some (.constantLong (mCn q.1) q.2.1 (Int64.ofNat q.2.2.1)))) else true
  | _ => true
def mLn1 : Instr → Nat
  | .bipush _ => 2 | .iload _ => 2 | .lload _ => 2 | .aload _ => 2 | .istore _ => 2 | .lstore _ => 2 | .astore _ => 2 | .ldc _ => 2
  | .sipush _ => 3 | .iinc _ _ => 3 | .goto _ => 3 | .ifCond _ _ => 3 | .if_icmp _ _ => 3 | .ifnull _ => 3 | .ifnonnull _ => 3 | .getfield _ => 3 | .putfield _ => 3 | .ldc_w _ => 3 | .ldc2_w _ => 3 | .invokestatic _ => 3 | .invokevirtual _ => 3 | .invokespecial _ => 3 | .new _ => 3
  | _ => 1
def mLnB (ins : Instr) (len : Nat) : Bool := match ins with
  | .tableswitch _ _ _ _ => true
  | .lookupswitch _ _ => true
  | .getstatic _ => true
  | .newarray _ => true
  | .anewarray _ => true
  | .multianewarray _ _ => true
  | i => Nat.beq len (mLn1 i)
def mChkE (k : Nat) (e : mE) : Bool := (match decode (mBy k) e.1 with
    | .ok r => decide (r.1 = e.2.1) && decide (r.2 = e.2.2.1)
    | .error _ => false) && mLnB e.2.1 e.2.2.1 && mPay k e.1 e.2.1 e.2.2.2.1 e.2.2.2.2.1 e.2.2.2.2.2.1 e.2.2.2.2.2.2
def mChk (k : Nat) : Bool := (mCd k).all (mChkE k)
def mFind : List mE → Nat → Option (Instr × Nat × Nat × Nat × Nat × List Nat)
  | [], _ => none
  | e :: t, pc => bif Nat.beq e.1 pc then some e.2 else mFind t pc
theorem mFind_mem : ∀ {C : List mE} {pc : Nat} {r : Instr × Nat × Nat × Nat × Nat × List Nat}, mFind C pc = some r → (pc, r) ∈ C
  | [], _, _, h => by cases h
  | e :: t, pc, r, h => by
    unfold mFind at h
    cases hb : Nat.beq e.1 pc with
    | true =>
      rw [hb, cond_true] at h
      have h1 : e.1 = pc := Nat.eq_of_beq_eq_true hb
      cases h
      rw [← h1]
      exact List.mem_cons_self
    | false =>
      rw [hb, cond_false] at h
      exact List.mem_cons_of_mem _ (mFind_mem h)
theorem mDec {k pc len a b c : Nat} {ins : Instr} {ts : List Nat} (hk : mChk k = true) (h : mFind (mCd k) pc = some (ins, len, a, b, c, ts)) : decode (mBy k) pc = .ok (ins, len) ∧ mLnB ins len = true ∧ mPay k pc ins a b c ts = true := by
  have h1 := List.all_eq_true.mp hk _ (mFind_mem h)
  unfold mChkE at h1
  rw [Bool.and_eq_true, Bool.and_eq_true] at h1
  refine ⟨?_, h1.1.2, h1.2⟩
  have h2 := h1.1.1
  cases hd : decode (mBy k) pc with
  | error x => simp only [hd] at h2; cases h2
  | ok r =>
    simp only [hd, Bool.and_eq_true, decide_eq_true_eq] at h2
    obtain ⟨r1, r2⟩ := r
    rw [← h2.1, ← h2.2]
