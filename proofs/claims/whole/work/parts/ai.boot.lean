set_option maxRecDepth 100000
/-! THE FIRST CELLS: a machine that makes them, one behind the other -/
def al (t : Nat) : Nat := bif Nat.blt t 331 then 586 + t else t - 331
def ix (k : Nat) : Nat := bif Nat.blt k 586 then k + 331 else k - 586
/-- how many cells there are; the ints that aren't 0; the places that hold their cell -/
abbrev bS : Type := Nat × List (Nat × Nat × Int32) × List (Nat × Nat)
def bMl : List (Nat × Nat × Int32) → Nat → Nat → Int32
  | [], _, _ => 0
  | q :: t, k, i => bif Nat.beq q.1 k && Nat.beq q.2.1 i then q.2.2 else bMl t k i
def bM (σ : bS) : Mm := bMl σ.2.1
def bF (σ : bS) (k j : Nat) : Bool := σ.2.2.any (fun q => Nat.beq q.1 k && Nat.beq q.2 j)
def bSt (σ : bS) (k i : Nat) (v : Int32) : bS := bif decide (bMl σ.2.1 k i = v) then σ else (σ.1, (k, i, v) :: σ.2.1, σ.2.2)
def bFl (σ : bS) (k j : Nat) : bS := (σ.1, σ.2.1, (k, j) :: σ.2.2)
def bIn (σ : bS) : Bool := σ.2.1.all (fun q => Nat.blt (ix q.1) σ.1) && σ.2.2.all (fun q => Nat.blt (ix q.1) σ.1)
def bHas (σ : bS) (x n : Nat) : Bool := Nat.blt x 917 && (Nat.blt (ix x) σ.1 && Nat.beq (mKd x) n)
def bNw (σ : bS) (n len : Nat) : Bool := Nat.blt σ.1 917 && (bIn σ && (Nat.beq (mKd (al σ.1)) n && Nat.beq (mLn (al σ.1)) len))
def bNT : List (Nat × Nat × Nat × Nat × Nat × Nat) := [(13, 8, 11, 116, 117, 90), (11, 7, 7, 124, 125, 91), (11, 16, 8, 156, 157, 92), (8, 7, 1, 162, 163, 93), (8, 16, 4, 238, 239, 94), (11, 23, 1, 269, 163, 93), (11, 30, 4, 271, 239, 94), (11, 37, 0, 273, 274, 95), (11, 47, 9, 290, 291, 97), (11, 54, 3, 320, 321, 98), (3, 9, 5, 326, 327, 99), (11, 65, 6, 384, 385, 100), (11, 72, 2, 394, 395, 101), (11, 79, 10, 411, 412, 102), (10, 7, 5, 417, 327, 99), (13, 123, 12, 1433, 1434, 103)]
def bOT : List (Nat × Nat × Nat) := [(11, 1, 121), (7, 3, 129), (8, 1, 161), (1, 3, 167), (4, 3, 243), (0, 3, 278), (9, 3, 295), (3, 3, 325), (5, 3, 331), (6, 3, 389), (2, 3, 399), (10, 1, 416), (12, 1, 1438)]
def b1i {α : Type} (S : List Value) (f : Int32 → List Value → Option α) : Option α := match S with
  | .int x :: t => f x t
  | _ => none
def b1r {α : Type} (S : List Value) (f : Nat → List Value → Option α) : Option α := match S with
  | .ref x :: t => f x t
  | _ => none
def bq {α : Type} (c : Bool) (r : Option α) : Option α := bif c then r else none
def bGi {α : Type} (L : List Value) (i : Nat) (f : Int32 → Option α) : Option α := match L[i]? with
  | some (.int x) => f x
  | _ => none
def bGr {α : Type} (L : List Value) (i : Nat) (f : Nat → Option α) : Option α := match L[i]? with
  | some (.ref x) => f x
  | _ => none
abbrev bC : Type := Nat × List Value × List Value × bS
def bTy : ArrayType → Nat
  | .int => 1
  | .long => 3
  | _ => 0
def bUp (σ : bS) : bS := (σ.1 + 1, σ.2)
/-- the rows behind an outer array: n of them, each of k slots -/
def bRw (σ : bS) (kd k n : Nat) : Bool := (List.range n).all (fun j => Nat.beq (mRF (al σ.1) j) (al (σ.1 + 1 + j)) && (Nat.beq (mKd (al (σ.1 + 1 + j))) kd && Nat.beq (mLn (al (σ.1 + 1 + j))) k))
def bMul (σ : bS) (n : Nat) : bS := (σ.1 + 1 + n, σ.2.1, (List.range n).map (fun j => (al σ.1, j)) ++ σ.2.2)
def bStep (k pc : Nat) (e : Instr × Nat × Nat × Nat × Nat × List Nat) (L S : List Value) (σ : bS) : Option bC :=
  match e.1 with
  | .iconst n => some (pc + 1, L, .int (mLit n) :: S, σ)
  | .bipush n => some (pc + 2, L, .int (mLit n) :: S, σ)
  | .sipush n => some (pc + 3, L, .int (mLit n) :: S, σ)
  | .aload_n i => bGr L i (fun x => some (pc + 1, L, .ref x :: S, σ))
  | .iload_n i => bGi L i (fun x => some (pc + 1, L, .int x :: S, σ))
  | .istore_n i => b1i S (fun x t => some (pc + 1, mSto L i (.int x), t, σ))
  | .istore i => b1i S (fun x t => some (pc + 2, mSto L i (.int x), t, σ))
  | .astore_n i => b1r S (fun x t => some (pc + 1, mSto L i (.ref x), t, σ))
  | .iinc i n => bGi L i (fun x => some (pc + 3, mSto L i (.int (x + mLit n)), S, σ))
  | .dup => b1r S (fun x t => some (pc + 1, L, .ref x :: .ref x :: t, σ))
  | .iadd => b1i S (fun y t => b1i t (fun x t => some (pc + 1, L, .int (x + y) :: t, σ)))
  | .goto _ => some (e.2.2.1, L, S, σ)
  | .if_icmp .ge _ => b1i S (fun y t => b1i t (fun x t => some (if y ≤ x then e.2.2.1 else pc + 3, L, t, σ)))
  | .getfield _ => b1r S (fun x t => bq (Nat.blt e.2.2.1 13 && (bHas σ x (10 + e.2.2.1) && (Nat.beq e.2.2.2.2.1 1 && bF σ x e.2.2.2.1))) (some (pc + 3, L, .ref (mRF x e.2.2.2.1) :: t, σ)))
  | .putfield _ => bif Nat.beq e.2.2.2.2.1 1 then b1r S (fun v t => b1r t (fun x t => bq (Nat.blt e.2.2.1 13 && (bHas σ x (10 + e.2.2.1) && (Nat.beq v (mRF x e.2.2.2.1) && (Nat.beq (mOc k) e.2.2.1 && decide ((mY k).name = "<init>"))))) (some (pc + 3, L, t, bFl σ x e.2.2.2.1))))
    else b1i S (fun v t => b1r t (fun x t => bq (Nat.blt e.2.2.1 13 && (bHas σ x (10 + e.2.2.1) && Nat.beq e.2.2.2.2.1 0)) (some (pc + 3, L, t, bSt σ x e.2.2.2.1 v))))
  | .iaload => b1i S (fun j t => b1r t (fun x t => bq (Nat.beq e.2.2.2.1 0 && (bHas σ x 1 && mInB j (mLn x))) (some (pc + 1, L, .int (bMl σ.2.1 x j.toNatClampNeg) :: t, σ))))
  | .iastore => b1i S (fun v t => b1i t (fun j t => b1r t (fun x t => bq (bHas σ x 1 && mInB j (mLn x)) (some (pc + 1, L, t, bSt σ x j.toNatClampNeg v)))))
  | .aastore => b1r S (fun v t => b1i t (fun j t => b1r t (fun x t => bq (((bHas σ x 6 && bHas σ v 15) || (bHas σ x 7 && bHas σ v 13)) && (mInB j (mLn x) && Nat.beq v (mRF x j.toNatClampNeg))) (some (pc + 1, L, t, bFl σ x j.toNatClampNeg)))))
  | .arraylength => b1r S (fun x t => bq (Nat.beq e.2.2.2.1 0 && (bHas σ x 1 || (bHas σ x 6 || bHas σ x 7))) (some (pc + 1, L, .int (Int32.ofNat (mLn x)) :: t, σ)))
  | .new i => bq (Nat.blt σ.1 917 && (bIn σ && (Nat.ble 10 (mKd (al σ.1)) && bNT.any (fun q => Nat.beq q.1 (mOc k) && (Nat.beq q.2.1 i && Nat.beq (10 + q.2.2.1) (mKd (al σ.1))))))) (some (pc + 3, L, .ref (al σ.1) :: S, bUp σ))
  | .newarray ty => b1i S (fun n t => bq (Nat.beq e.2.1 2 && (mInB n 1000 && (bNw σ (bTy ty) n.toNatClampNeg && !(Nat.beq (bTy ty) 0)))) (some (pc + 2, L, .ref (al σ.1) :: t, bUp σ)))
  | .anewarray i => b1i S (fun n t => bq (Nat.beq e.2.1 3 && (mInB n 1000 && ((bNw σ 6 n.toNatClampNeg && (Nat.beq (mOc k) 3 && Nat.beq i 9)) || (bNw σ 7 n.toNatClampNeg && (Nat.beq (mOc k) 11 && Nat.beq i 54))))) (some (pc + 3, L, .ref (al σ.1) :: t, bUp σ)))
  | .multianewarray i dm => b1i S (fun c t => b1i t (fun n t => bq (Nat.beq e.2.1 4 && (Nat.beq dm 2 && (mInB n 1000 && (mInB c 1000 && (Nat.beq (mOc k) 12 && (Nat.ble (σ.1 + 1 + n.toNatClampNeg) 917 && ((bNw σ 4 n.toNatClampNeg && (Nat.beq i 32 && bRw σ 1 c.toNatClampNeg n.toNatClampNeg)) || (bNw σ 5 n.toNatClampNeg && (Nat.beq i 88 && bRw σ 2 c.toNatClampNeg n.toNatClampNeg))))))))) (some (pc + 4, L, .ref (al σ.1) :: t, bMul σ n.toNatClampNeg))))
  | .invokespecial i => b1r S (fun _ t => bq (Nat.beq e.2.2.1 1001 && (Nat.ble (t.map fun v => v.category).sum 8 && bOT.any (fun q => Nat.beq q.1 (mOc k) && Nat.beq q.2.1 i))) (some (pc + 3, L, t, σ)))
  | _ => none
/-- a call of one of our own: the method, its arguments, what lies beneath -/
def bCall (k : Nat) (e : Instr × Nat × Nat × Nat × Nat × List Nat) (S : List Value) (σ : bS) : Option (Nat × List Value × List Value) :=
  bq (Nat.blt e.2.2.1 331 && (!(Nat.beq e.2.2.1 167) && (plainName (mY e.2.2.1).cls && (Nat.ble e.2.2.2.1 S.length && (Nat.ble ((S.drop e.2.2.2.1).map fun v => v.category).sum 8 && (decide (mHd e.2.2.1 = []) && ((S.take e.2.2.2.1).all (fun v => Nat.beq v.category 1) && Nat.ble e.2.2.2.1 (mNl e.2.2.1)))))))) (match e.1 with
    | .invokespecial i => bq (mMT.any (fun q => q.1 == mOc k && q.2.1 == i && q.2.2.1 == e.2.2.2.2.2.getD 0 99 && q.2.2.2.1 == e.2.2.1) && (Nat.beq e.2.2.2.1 1 && (Nat.beq ((mPl e.2.2.1).getD 5 0) 0 && (decide ((mY e.2.2.1).name = "<init>") && (decide ((mPl e.2.2.1).getD 4 0 ≠ 1) && (decide (mRt e.2.2.1 = none) && ((S.take 1).all (fun v => match v with | .ref _ => true | _ => false)))))))) (some (e.2.2.1, (S.take e.2.2.2.1).reverse, S.drop e.2.2.2.1))
    | .invokevirtual _ => bq (Nat.beq (e.2.2.2.2.2.getD 0 99) 1 && (Nat.beq e.2.2.2.1 1 && (match S with | .ref z :: _ => bHas σ z (10 + e.2.2.2.2.2.getD 1 99) | _ => false))) (some (e.2.2.1, (S.take e.2.2.2.1).reverse, S.drop e.2.2.2.1))
    | .invokestatic _ => bq (Nat.beq (e.2.2.2.2.2.getD 0 99) 0) (some (e.2.2.1, (S.take e.2.2.2.1).reverse, S.drop e.2.2.2.1))
    | _ => none)
def bRet (e : Option (Instr × Nat × Nat × Nat × Nat × List Nat)) : Bool := match e with
  | some (.return_, _) => true
  | _ => false
/-- from pc on, until the end of the method, or st -/
def bx : Nat → Nat → Nat → Nat → Nat → List Value → List Value → bS → Option bC
  | 0, _, _, _, _, _, _, _ => none
  | f + 1, dep, k, st, pc, L, S, σ => bif Nat.beq pc st then some (pc, L, S, σ) else match mFind (mCd k) pc with
    | none => none
    | some e => match bCall k e S σ with
      | some q => (match dep with
        | 0 => none
        | dp + 1 => (match bx f dp q.1 100000 0 (q.2.1 ++ List.replicate (mNl q.1 - q.2.1.length) mJ) [] σ with
          | some r => bq (bRet (mFind (mCd q.1) r.1) && r.2.2.1.isEmpty) (bx f (dp + 1) k st (pc + 3) L q.2.2 r.2.2.2)
          | none => none))
      | none => bif bRet (some e) then some (pc, L, S, σ) else (match bStep k pc e L S σ with
        | some r => bx f dep k st r.1 r.2.1 r.2.2.1 r.2.2.2
        | none => none)
/-- the law's first rows -/
def bRun : Option bC := bx 4000 6 k_L_law_ 23 0 [.ref mScr, mJ, mJ, mJ, mJ, mJ, mJ, mJ] [] (0, [], [])
def bEnd : Bool := match bRun with
  | some r => Nat.beq r.1 23 && Nat.beq r.2.2.2.1 917
  | none => false
theorem bEnd_ok : bEnd = true := by decide +kernel
