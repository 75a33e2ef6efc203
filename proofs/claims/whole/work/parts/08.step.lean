/-! ONE STEP OF THE SMALL MACHINE, goal first, and why it is right -/
def m1 (S : List Value) (f : Value → List Value → Prop) : Prop := match S with
  | v :: t => f v t
  | [] => False
def m1i (S : List Value) (f : Int32 → List Value → Prop) : Prop := match S with
  | .int x :: t => f x t
  | _ => False
def m2i (S : List Value) (f : Int32 → Int32 → List Value → Prop) : Prop := match S with
  | .int y :: .int x :: t => f x y t
  | _ => False
def m1l (S : List Value) (f : Int64 → List Value → Prop) : Prop := match S with
  | .long x :: t => f x t
  | _ => False
def m2l (S : List Value) (f : Int64 → Int64 → List Value → Prop) : Prop := match S with
  | .long y :: .long x :: t => f x y t
  | _ => False
def mIL (S : List Value) (f : Int64 → Int32 → List Value → Prop) : Prop := match S with
  | .int y :: .long x :: t => f x y t
  | _ => False
def m1r (S : List Value) (f : Nat → List Value → Prop) : Prop := match S with
  | .ref x :: t => f x t
  | _ => False
def mIR (S : List Value) (f : Int32 → Nat → List Value → Prop) : Prop := match S with
  | .int j :: .ref x :: t => f j x t
  | _ => False
def mIIR (S : List Value) (f : Int32 → Int32 → Nat → List Value → Prop) : Prop := match S with
  | .int v :: .int j :: .ref x :: t => f v j x t
  | _ => False
def mLIR (S : List Value) (f : Int64 → Int32 → Nat → List Value → Prop) : Prop := match S with
  | .long v :: .int j :: .ref x :: t => f v j x t
  | _ => False
def mCpy (S : List Value) (f : Int32 → Int32 → Nat → Int32 → Nat → List Value → Prop) : Prop := match S with
  | .int n :: .int dp :: .ref y :: .int sp :: .ref x :: t => f n dp y sp x t
  | _ => False
def mIRf (S : List Value) (f : Int32 → Nat → List Value → Prop) : Prop := match S with
  | .int v :: .ref x :: t => f v x t
  | _ => False
def mEi (S : List Value) (f : Int32 → Prop) : Prop := match S with
  | [.int x] => f x
  | _ => False
def mEl (S : List Value) (f : Int64 → Prop) : Prop := match S with
  | [.long x] => f x
  | _ => False
def mEr (S : List Value) (f : Value → Prop) : Prop := match S with
  | [.ref x] => f (.ref x)
  | [.null] => f .null
  | _ => False
def mEv (S : List Value) (P : Prop) : Prop := match S with
  | [] => P
  | _ => False
theorem mIRf_of {S : List Value} {f : Int32 → Nat → List Value → Prop} (h : mIRf S f) : ∃ v x t, S = .int v :: .ref x :: t ∧ f v x t := by
  unfold mIRf at h; split at h
  · exact ⟨_, _, _, rfl, h⟩
  · exact h.elim
theorem mEi_of {S : List Value} {f : Int32 → Prop} (h : mEi S f) : ∃ x, S = [.int x] ∧ f x := by
  unfold mEi at h; split at h
  · exact ⟨_, rfl, h⟩
  · exact h.elim
theorem mEl_of {S : List Value} {f : Int64 → Prop} (h : mEl S f) : ∃ x, S = [.long x] ∧ f x := by
  unfold mEl at h; split at h
  · exact ⟨_, rfl, h⟩
  · exact h.elim
theorem mEr_of {S : List Value} {f : Value → Prop} (h : mEr S f) : (∃ x, S = [.ref x] ∧ f (.ref x)) ∨ (S = [.null] ∧ f .null) := by
  unfold mEr at h; split at h
  · exact Or.inl ⟨_, rfl, h⟩
  · exact Or.inr ⟨rfl, h⟩
  · exact h.elim
theorem mEv_of {S : List Value} {P : Prop} (h : mEv S P) : S = [] ∧ P := by
  unfold mEv at h; split at h
  · exact ⟨rfl, h⟩
  · exact h.elim
theorem m1_of {S : List Value} {f : Value → List Value → Prop} (h : m1 S f) : ∃ v t, S = v :: t ∧ f v t := by
  unfold m1 at h; split at h
  · exact ⟨_, _, rfl, h⟩
  · exact h.elim
theorem m1i_of {S : List Value} {f : Int32 → List Value → Prop} (h : m1i S f) : ∃ x t, S = .int x :: t ∧ f x t := by
  unfold m1i at h; split at h
  · exact ⟨_, _, rfl, h⟩
  · exact h.elim
theorem m2i_of {S : List Value} {f : Int32 → Int32 → List Value → Prop} (h : m2i S f) : ∃ x y t, S = .int y :: .int x :: t ∧ f x y t := by
  unfold m2i at h; split at h
  · exact ⟨_, _, _, rfl, h⟩
  · exact h.elim
theorem m1l_of {S : List Value} {f : Int64 → List Value → Prop} (h : m1l S f) : ∃ x t, S = .long x :: t ∧ f x t := by
  unfold m1l at h; split at h
  · exact ⟨_, _, rfl, h⟩
  · exact h.elim
theorem m2l_of {S : List Value} {f : Int64 → Int64 → List Value → Prop} (h : m2l S f) : ∃ x y t, S = .long y :: .long x :: t ∧ f x y t := by
  unfold m2l at h; split at h
  · exact ⟨_, _, _, rfl, h⟩
  · exact h.elim
theorem mIL_of {S : List Value} {f : Int64 → Int32 → List Value → Prop} (h : mIL S f) : ∃ x y t, S = .int y :: .long x :: t ∧ f x y t := by
  unfold mIL at h; split at h
  · exact ⟨_, _, _, rfl, h⟩
  · exact h.elim
theorem m1r_of {S : List Value} {f : Nat → List Value → Prop} (h : m1r S f) : ∃ x t, S = .ref x :: t ∧ f x t := by
  unfold m1r at h; split at h
  · exact ⟨_, _, rfl, h⟩
  · exact h.elim
theorem mIR_of {S : List Value} {f : Int32 → Nat → List Value → Prop} (h : mIR S f) : ∃ j x t, S = .int j :: .ref x :: t ∧ f j x t := by
  unfold mIR at h; split at h
  · exact ⟨_, _, _, rfl, h⟩
  · exact h.elim
theorem mIIR_of {S : List Value} {f : Int32 → Int32 → Nat → List Value → Prop} (h : mIIR S f) : ∃ v j x t, S = .int v :: .int j :: .ref x :: t ∧ f v j x t := by
  unfold mIIR at h; split at h
  · exact ⟨_, _, _, _, rfl, h⟩
  · exact h.elim
theorem mLIR_of {S : List Value} {f : Int64 → Int32 → Nat → List Value → Prop} (h : mLIR S f) : ∃ v j x t, S = .long v :: .int j :: .ref x :: t ∧ f v j x t := by
  unfold mLIR at h; split at h
  · exact ⟨_, _, _, _, rfl, h⟩
  · exact h.elim
theorem mCpy_of {S : List Value} {f : Int32 → Int32 → Nat → Int32 → Nat → List Value → Prop} (h : mCpy S f) : ∃ n dp y sp x t, S = .int n :: .int dp :: .ref y :: .int sp :: .ref x :: t ∧ f n dp y sp x t := by
  unfold mCpy at h; split at h
  · exact ⟨_, _, _, _, _, _, rfl, h⟩
  · exact h.elim
def mGi (L : List Value) (i : Nat) (f : Int32 → Prop) : Prop := match L[i]? with
  | some (.int x) => f x
  | _ => False
def mGl (L : List Value) (i : Nat) (f : Int64 → Prop) : Prop := match L[i]? with
  | some (.long x) => f x
  | _ => False
def mGr (L : List Value) (i : Nat) (f : Value → Prop) : Prop := match L[i]? with
  | some (.ref x) => f (.ref x)
  | some .null => f .null
  | _ => False
theorem mGi_of {L : List Value} {i : Nat} {f : Int32 → Prop} (h : mGi L i f) : ∃ x, L[i]? = some (.int x) ∧ f x := by
  unfold mGi at h; split at h
  next q => exact ⟨_, q, h⟩
  next => exact h.elim
theorem mGl_of {L : List Value} {i : Nat} {f : Int64 → Prop} (h : mGl L i f) : ∃ x, L[i]? = some (.long x) ∧ f x := by
  unfold mGl at h; split at h
  next q => exact ⟨_, q, h⟩
  next => exact h.elim
theorem mGr_of {L : List Value} {i : Nat} {f : Value → Prop} (h : mGr L i f) : (∃ x, L[i]? = some (.ref x) ∧ f (.ref x)) ∨ (L[i]? = some .null ∧ f .null) := by
  unfold mGr at h; split at h
  next q => exact Or.inl ⟨_, q, h⟩
  next q => exact Or.inr ⟨q, h⟩
  next => exact h.elim
/-- a test that is decided where its numbers are known -/
def mReq (c : Bool) (P : Prop) : Prop := match c with
  | true => P
  | false => False
theorem mReq_i {c : Bool} {P : Prop} (h : c = true) (p : P) : mReq c P := by subst h; exact p
theorem mReq_of {c : Bool} {P : Prop} (h : mReq c P) : c = true ∧ P := by
  cases c with
  | true => exact ⟨rfl, h⟩
  | false => exact h.elim
def mIsB (x n : Nat) : Bool := Nat.blt x mNc && Nat.beq (mKd x) n
def mRowB (x : Nat) : Bool := Nat.blt x mNc && (Nat.blt 3 (mKd x) && Nat.blt (mKd x) 8)
def mArrB (x : Nat) : Bool := Nat.blt x mNc && (Nat.blt 0 (mKd x) && Nat.blt (mKd x) 8)
theorem mIsB_of {x n : Nat} (h : mIsB x n = true) : x < mNc ∧ mKd x = n := by
  unfold mIsB at h
  rw [Bool.and_eq_true] at h
  exact ⟨by simpa [Nat.blt_eq] using h.1, Nat.eq_of_beq_eq_true h.2⟩
theorem mRowB_of {x : Nat} (h : mRowB x = true) : x < mNc ∧ 3 < mKd x ∧ mKd x < 8 := by
  unfold mRowB at h
  rw [Bool.and_eq_true, Bool.and_eq_true] at h
  exact ⟨by simpa [Nat.blt_eq] using h.1, by simpa [Nat.blt_eq] using h.2.1, by simpa [Nat.blt_eq] using h.2.2⟩
theorem mArrB_of {x : Nat} (h : mArrB x = true) : x < mNc ∧ 0 < mKd x ∧ mKd x < 8 := by
  unfold mArrB at h
  rw [Bool.and_eq_true, Bool.and_eq_true] at h
  exact ⟨by simpa [Nat.blt_eq] using h.1, by simpa [Nat.blt_eq] using h.2.1, by simpa [Nat.blt_eq] using h.2.2⟩
/-- an index within -/
def mInB (j : Int32) (n : Nat) : Bool := !(decide (j < 0)) && Nat.blt j.toNatClampNeg n
theorem mInB_of {j : Int32} {n : Nat} (h : mInB j n = true) : vp_in j n := by
  unfold mInB at h
  rw [Bool.and_eq_true] at h
  have h1 : ¬ j < 0 := by simpa using h.1
  have h2 : j.toNatClampNeg < n := by simpa [Nat.blt_eq] using h.2
  rintro (q | q)
  · exact h1 q
  · omega
/-- switches -/
def mSw (x : Int32) (nx : Nat → Prop) : Int → List Nat → Prop
  | _, [] => True
  | i, t :: ts => (x.toInt = i → nx t) ∧ mSw x nx (i + 1) ts
def mLk (x : Int32) (nx : Nat → Prop) (df : Prop) : List (Int × Int) → List Nat → Prop
  | p :: ps, t :: ts => (x.toInt = p.1 → nx t) ∧ (x.toInt ≠ p.1 → mLk x nx df ps ts)
  | _, _ => df
/-- results of calls -/
def mIX (Ψ : Int32 → Mm → Int64 → Prop) (Ξ : Nat → Mm → Int64 → Prop) : mR → Mm → Int64 → Prop := fun r m o => match r with
  | .inl (some (.int x)) => Ψ x m o
  | .inr x => Ξ x m o
  | _ => False
def mLX (Ψ : Int64 → Mm → Int64 → Prop) (Ξ : Nat → Mm → Int64 → Prop) : mR → Mm → Int64 → Prop := fun r m o => match r with
  | .inl (some (.long x)) => Ψ x m o
  | .inr x => Ξ x m o
  | _ => False
def mVX (Ψ : Mm → Int64 → Prop) (Ξ : Nat → Mm → Int64 → Prop) : mR → Mm → Int64 → Prop := fun r m o => match r with
  | .inl none => Ψ m o
  | .inr x => Ξ x m o
  | _ => False
def mRX (Ψ : Value → Mm → Int64 → Prop) : mR → Mm → Int64 → Prop := fun r m o => match r with
  | .inl (some (.ref x)) => Ψ (.ref x) m o
  | .inl (some .null) => Ψ .null m o
  | _ => False
def mN0 : Nat → Mm → Int64 → Prop := fun _ _ _ => False
/-- x thrown at pc, over the method's own frame -/
def mXB (l : Launch) (g : mG) (d k : Nat) (Φ : mR → Mm → Int64 → Prop) (MC MS : Nat) (pc x : Nat) (L : List Value) (m : Mm) (o : Int64) (cN sN : Nat) : Prop :=
  ∀ (p : Program) (e : Env) (s : State) (mi : MethodId) (args : Array Value) (below : List Frame) (meth : Method) (c : Code) (H : Heap) (locs : List Loc) (ls : Array Slot) (rest : List Value) (q : Addr) (ce : Cell),
    mCtx l g k p s mi args meth c → mP g m o H → va_S (mA g) s.heap H locs → lv_has ls (mNl k) (mLv (gA g) L) → H[q]? = some ce → ce.vm = .none → s.vm.findClass (mEx x) = some ce.cls →
    vx_W p l e (mRm d MC MS) s mi args below meth c H locs cN sN (vx_MQ below (mQc g Φ) (mXC g Φ) args s MC MS (mA g)) (F0 mi pc ls rest) q
/-- a call: As the arguments, R what lies beneath, c the kind of the answer -/
def mCal (l : Launch) (g : mG) (d k : Nat) (Φ : mR → Mm → Int64 → Prop) (MC MS : Nat) (nx : Nat → List Value → List Value → Mm → Int64 → Nat → Nat → Prop) (pc a : Nat) (nt : Bool) (As R : List Value) (L : List Value) (m : Mm) (o : Int64) (cN sN : Nat) : Nat → Prop
  | 0 => ∃ (d' : Nat) (Ψ : Mm → Int64 → Prop) (Ξ : Nat → Mm → Int64 → Prop) (mc ms : Nat), d' + 1 ≤ d ∧ mSat l g d' a As m o (mVX Ψ Ξ) mc ms ∧ cN + mc ≤ MC ∧ sN + ms ≤ MS ∧ (∀ m' o', Ψ m' o' → nx (pc + 3) L R m' o' (cN + mc) (sN + ms)) ∧ (bif nt then ∀ x m' o', ¬ Ξ x m' o' else ∀ x m' o', Ξ x m' o' → mXB l g d k Φ MC MS pc x L m' o' (cN + mc) (sN + ms))
  | 1 => ∃ (d' : Nat) (Ψ : Int32 → Mm → Int64 → Prop) (Ξ : Nat → Mm → Int64 → Prop) (mc ms : Nat), d' + 1 ≤ d ∧ mSat l g d' a As m o (mIX Ψ Ξ) mc ms ∧ cN + mc ≤ MC ∧ sN + ms ≤ MS ∧ (∀ x m' o', Ψ x m' o' → nx (pc + 3) L (.int x :: R) m' o' (cN + mc) (sN + ms)) ∧ (bif nt then ∀ x m' o', ¬ Ξ x m' o' else ∀ x m' o', Ξ x m' o' → mXB l g d k Φ MC MS pc x L m' o' (cN + mc) (sN + ms))
  | 2 => ∃ (d' : Nat) (Ψ : Int64 → Mm → Int64 → Prop) (Ξ : Nat → Mm → Int64 → Prop) (mc ms : Nat), d' + 1 ≤ d ∧ mSat l g d' a As m o (mLX Ψ Ξ) mc ms ∧ cN + mc ≤ MC ∧ sN + ms ≤ MS ∧ (∀ x m' o', Ψ x m' o' → nx (pc + 3) L (.long x :: R) m' o' (cN + mc) (sN + ms)) ∧ (bif nt then ∀ x m' o', ¬ Ξ x m' o' else ∀ x m' o', Ξ x m' o' → mXB l g d k Φ MC MS pc x L m' o' (cN + mc) (sN + ms))
  | _ => ∃ (d' : Nat) (Ψ : Value → Mm → Int64 → Prop), d' + 1 ≤ d ∧ mSat l g d' a As m o (mRX Ψ) 0 0 ∧ cN ≤ MC ∧ sN ≤ MS ∧ (∀ v m' o', Ψ v m' o' → nx (pc + 3) L (v :: R) m' o' cN sN)
def mStep (l : Launch) (g : mG) (d k : Nat) (Φ : mR → Mm → Int64 → Prop) (MC MS : Nat) (nx : Nat → List Value → List Value → Mm → Int64 → Nat → Nat → Prop) (pc : Nat) (e : Instr × Nat × Nat × Nat × Nat × List Nat) (L S : List Value) (m : Mm) (o : Int64) (cN sN : Nat) : Prop :=
  match e.1 with
  | .iconst n => nx (pc + 1) L (.int (mLit n) :: S) m o cN sN
  | .bipush n => nx (pc + 2) L (.int (mLit n) :: S) m o cN sN
  | .sipush n => nx (pc + 3) L (.int (mLit n) :: S) m o cN sN
  | .lconst n => nx (pc + 1) L (.long (Int64.ofNat n) :: S) m o cN sN
  | .aconst_null => nx (pc + 1) L (.null :: S) m o cN sN
  | .iload i => mGi L i (fun x => nx (pc + 2) L (.int x :: S) m o cN sN)
  | .iload_n i => mGi L i (fun x => nx (pc + 1) L (.int x :: S) m o cN sN)
  | .lload i => mGl L i (fun x => nx (pc + 2) L (.long x :: S) m o cN sN)
  | .lload_n i => mGl L i (fun x => nx (pc + 1) L (.long x :: S) m o cN sN)
  | .aload i => mGr L i (fun v => nx (pc + 2) L (v :: S) m o cN sN)
  | .aload_n i => mGr L i (fun v => nx (pc + 1) L (v :: S) m o cN sN)
  | .istore i => m1i S (fun x t => nx (pc + 2) (mSto L i (.int x)) t m o cN sN)
  | .istore_n i => m1i S (fun x t => nx (pc + 1) (mSto L i (.int x)) t m o cN sN)
  | .lstore i => m1l S (fun x t => nx (pc + 2) (mSto2 L i (.long x)) t m o cN sN)
  | .lstore_n i => m1l S (fun x t => nx (pc + 1) (mSto2 L i (.long x)) t m o cN sN)
  | .astore i => m1r S (fun x t => nx (pc + 2) (mSto L i (.ref x)) t m o cN sN)
  | .astore_n i => m1r S (fun x t => nx (pc + 1) (mSto L i (.ref x)) t m o cN sN)
  | .iinc i n => mGi L i (fun x => nx (pc + 3) (mSto L i (.int (x + mLit n))) S m o cN sN)
  | .iadd => m2i S (fun x y t => nx (pc + 1) L (.int (x + y) :: t) m o cN sN)
  | .isub => m2i S (fun x y t => nx (pc + 1) L (.int (x - y) :: t) m o cN sN)
  | .imul => m2i S (fun x y t => nx (pc + 1) L (.int (x * y) :: t) m o cN sN)
  | .iand => m2i S (fun x y t => nx (pc + 1) L (.int (x &&& y) :: t) m o cN sN)
  | .ior => m2i S (fun x y t => nx (pc + 1) L (.int (x ||| y) :: t) m o cN sN)
  | .ixor => m2i S (fun x y t => nx (pc + 1) L (.int (x ^^^ y) :: t) m o cN sN)
  | .idiv => m2i S (fun x y t => ¬ y = 0 ∧ nx (pc + 1) L (.int (x / y) :: t) m o cN sN)
  | .irem => m2i S (fun x y t => ¬ y = 0 ∧ nx (pc + 1) L (.int (x - x / y * y) :: t) m o cN sN)
  | .ineg => m1i S (fun x t => nx (pc + 1) L (.int (-x) :: t) m o cN sN)
  | .ishl => m2i S (fun x y t => nx (pc + 1) L (.int (x <<< (y &&& 31)) :: t) m o cN sN)
  | .ishr => m2i S (fun x y t => nx (pc + 1) L (.int (x >>> (y &&& 31)) :: t) m o cN sN)
  | .iushr => m2i S (fun x y t => nx (pc + 1) L (.int (x.toUInt32 >>> (y.toUInt32 &&& Int32.toUInt32 31)).toInt32 :: t) m o cN sN)
  | .ladd => m2l S (fun x y t => nx (pc + 1) L (.long (x + y) :: t) m o cN sN)
  | .lsub => m2l S (fun x y t => nx (pc + 1) L (.long (x - y) :: t) m o cN sN)
  | .lmul => m2l S (fun x y t => nx (pc + 1) L (.long (x * y) :: t) m o cN sN)
  | .land => m2l S (fun x y t => nx (pc + 1) L (.long (x &&& y) :: t) m o cN sN)
  | .lor => m2l S (fun x y t => nx (pc + 1) L (.long (x ||| y) :: t) m o cN sN)
  | .ldiv => m2l S (fun x y t => ¬ y = 0 ∧ nx (pc + 1) L (.long (x / y) :: t) m o cN sN)
  | .lrem => m2l S (fun x y t => ¬ y = 0 ∧ nx (pc + 1) L (.long (x - x / y * y) :: t) m o cN sN)
  | .lshl => mIL S (fun x y t => nx (pc + 1) L (.long (x <<< (y.toInt64 &&& 63)) :: t) m o cN sN)
  | .lshr => mIL S (fun x y t => nx (pc + 1) L (.long (x >>> (y.toInt64 &&& 63)) :: t) m o cN sN)
  | .lcmp => m2l S (fun x y t => nx (pc + 1) L (.int (lg_cmp x y) :: t) m o cN sN)
  | .i2l => m1i S (fun x t => nx (pc + 1) L (.long x.toInt64 :: t) m o cN sN)
  | .l2i => m1l S (fun x t => nx (pc + 1) L (.int x.toInt32 :: t) m o cN sN)
  | .dup => m1 S (fun v t => v.category = 1 ∧ nx (pc + 1) L (v :: v :: t) m o cN sN)
  | .pop => m1 S (fun v t => v.category = 1 ∧ nx (pc + 1) L t m o cN sN)
  | .dup2 => m1 S (fun v t => m1 t (fun w t => v.category = 1 ∧ w.category = 1 ∧ nx (pc + 1) L (v :: w :: v :: w :: t) m o cN sN))
  | .goto _ => nx e.2.2.1 L S m o cN sN
  | .ifCond .eq _ => m1i S (fun x t => (x = 0 → nx e.2.2.1 L t m o cN sN) ∧ (¬ x = 0 → nx (pc + 3) L t m o cN sN))
  | .ifCond .ne _ => m1i S (fun x t => (¬ x = 0 → nx e.2.2.1 L t m o cN sN) ∧ (x = 0 → nx (pc + 3) L t m o cN sN))
  | .ifCond .lt _ => m1i S (fun x t => (x < 0 → nx e.2.2.1 L t m o cN sN) ∧ (¬ x < 0 → nx (pc + 3) L t m o cN sN))
  | .ifCond .ge _ => m1i S (fun x t => (0 ≤ x → nx e.2.2.1 L t m o cN sN) ∧ (¬ 0 ≤ x → nx (pc + 3) L t m o cN sN))
  | .ifCond .gt _ => m1i S (fun x t => (0 < x → nx e.2.2.1 L t m o cN sN) ∧ (¬ 0 < x → nx (pc + 3) L t m o cN sN))
  | .ifCond .le _ => m1i S (fun x t => (x ≤ 0 → nx e.2.2.1 L t m o cN sN) ∧ (¬ x ≤ 0 → nx (pc + 3) L t m o cN sN))
  | .if_icmp .eq _ => m2i S (fun x y t => (x = y → nx e.2.2.1 L t m o cN sN) ∧ (¬ x = y → nx (pc + 3) L t m o cN sN))
  | .if_icmp .ne _ => m2i S (fun x y t => (¬ x = y → nx e.2.2.1 L t m o cN sN) ∧ (x = y → nx (pc + 3) L t m o cN sN))
  | .if_icmp .lt _ => m2i S (fun x y t => (x < y → nx e.2.2.1 L t m o cN sN) ∧ (¬ x < y → nx (pc + 3) L t m o cN sN))
  | .if_icmp .ge _ => m2i S (fun x y t => (y ≤ x → nx e.2.2.1 L t m o cN sN) ∧ (¬ y ≤ x → nx (pc + 3) L t m o cN sN))
  | .if_icmp .gt _ => m2i S (fun x y t => (y < x → nx e.2.2.1 L t m o cN sN) ∧ (¬ y < x → nx (pc + 3) L t m o cN sN))
  | .if_icmp .le _ => m2i S (fun x y t => (x ≤ y → nx e.2.2.1 L t m o cN sN) ∧ (¬ x ≤ y → nx (pc + 3) L t m o cN sN))
  | .ifnull _ => m1 S (fun v t => match v with
    | .null => nx e.2.2.1 L t m o cN sN
    | .ref _ => nx (pc + 3) L t m o cN sN
    | _ => False)
  | .ifnonnull _ => m1 S (fun v t => match v with
    | .null => nx (pc + 3) L t m o cN sN
    | .ref _ => nx e.2.2.1 L t m o cN sN
    | _ => False)
  | .tableswitch _ lo hi _ => m1i S (fun x t => mSw x (fun q => nx q L t m o cN sN) lo e.2.2.2.2.2 ∧ (x.toInt < lo ∨ hi < x.toInt → nx e.2.2.1 L t m o cN sN))
  | .lookupswitch _ ps => m1i S (fun x t => mLk x (fun q => nx q L t m o cN sN) (nx e.2.2.1 L t m o cN sN) ps.toList e.2.2.2.2.2)
  | .getfield _ => m1r S (fun x t => mReq (Nat.blt e.2.2.1 13) (mReq (mIsB x (10 + e.2.2.1)) (nx (pc + 3) L ((bif Nat.beq e.2.2.2.2.1 1 then .ref (mRF x e.2.2.2.1) else .int (m x e.2.2.2.1)) :: t) m o cN sN)))
  | .putfield _ => mIRf S (fun v x t => mReq (Nat.blt e.2.2.1 13) (mReq (Nat.beq e.2.2.2.2.1 0) (mReq (mIsB x (10 + e.2.2.1)) (nx (pc + 3) L t (mset m x e.2.2.2.1 v) o cN sN))))
  | .iaload => mIR S (fun j x t => bif Nat.beq e.2.2.2.1 1 then (x = mScr ∧ mReq (mInB j (gL g)) (nx (pc + 1) L (.int (gS g j.toNatClampNeg) :: t) m o cN sN)) else mReq (mIsB x 1) (mReq (mInB j (mLn x)) (nx (pc + 1) L (.int (m x j.toNatClampNeg) :: t) m o cN sN)))
  | .baload => mIR S (fun j x t => mReq (mIsB x 2) (mReq (mInB j (mLn x)) (nx (pc + 1) L (.int (m x j.toNatClampNeg) :: t) m o cN sN)))
  | .laload => mIR S (fun j x t => mReq (mIsB x 3) (mReq (mInB j (mLn x)) (nx (pc + 1) L (.long o :: t) m o cN sN)))
  | .aaload => mIR S (fun j x t => mReq (mRowB x) (mReq (mInB j (mLn x)) (nx (pc + 1) L (.ref (mRF x j.toNatClampNeg) :: t) m o cN sN)))
  | .iastore => mIIR S (fun v j x t => mReq (mIsB x 1) (mReq (mInB j (mLn x)) (nx (pc + 1) L t (mset m x j.toNatClampNeg v) o cN sN)))
  | .bastore => mIIR S (fun v j x t => mReq (mIsB x 2) (mReq (mInB j (mLn x)) ((v = 0 ∨ v = 1) ∧ nx (pc + 1) L t (mset m x j.toNatClampNeg v) o cN sN)))
  | .lastore => mLIR S (fun v j x t => x = aOut ∧ mReq (mInB j 1) (nx (pc + 1) L t m v cN sN))
  | .arraylength => m1r S (fun x t => bif Nat.beq e.2.2.2.1 1 then (x = mScr ∧ nx (pc + 1) L (.int (Int32.ofNat (gL g)) :: t) m o cN sN) else mReq (mArrB x) (nx (pc + 1) L (.int (Int32.ofNat (mLn x)) :: t) m o cN sN))
  | .ldc _ => bif Nat.beq e.2.2.2.2.1 1 then nx (pc + 2) L (.ref (mSt e.2.2.1) :: S) m o cN sN else bif Nat.beq e.2.2.2.2.1 2 then nx (pc + 2) L (.int (Int32.ofNat e.2.2.1) :: S) m o cN sN else False
  | .ldc_w _ => bif Nat.beq e.2.2.2.2.1 2 then nx (pc + 3) L (.int (Int32.ofNat e.2.2.1) :: S) m o cN sN else False
  | .ldc2_w _ => bif Nat.beq e.2.2.2.2.1 2 then nx (pc + 3) L (.long (Int64.ofNat e.2.2.1) :: S) m o cN sN else False
  | .invokestatic _ => bif Nat.blt e.2.2.1 1000 then mReq (Nat.ble e.2.2.2.1 S.length && Nat.ble ((S.drop e.2.2.2.1).map fun v => v.category).sum 8) (mCal l g d k Φ MC MS nx pc e.2.2.1 (Nat.blt 9 (e.2.2.2.2.2.getD 0 99)) (S.take e.2.2.2.1).reverse (S.drop e.2.2.2.1) L m o cN sN e.2.2.2.2.1)
    else bif Nat.beq e.2.2.1 1002 then mCpy S (fun n dp y sp x t => mReq (mIsB x 1) (mReq (mIsB y 1) (¬ sp < 0 ∧ ¬ dp < 0 ∧ ¬ n < 0 ∧ sp.toNatClampNeg + n.toNatClampNeg ≤ mLn x ∧ dp.toNatClampNeg + n.toNatClampNeg ≤ mLn y ∧ 1 ≤ d ∧ (t.map fun v => v.category).sum ≤ 8 ∧ nx (pc + 3) L t (mput m y (va_cpy (m x) (m y) sp.toNatClampNeg dp.toNatClampNeg n.toNatClampNeg)) o cN sN)))
    else bif Nat.beq e.2.2.1 1003 then m2i S (fun x y t => 1 ≤ d ∧ (t.map fun v => v.category).sum ≤ 8 ∧ cN ≤ MC ∧ sN ≤ MS ∧ nx (pc + 3) L (.int (if y < x then y else x) :: t) m o cN sN)
    else bif Nat.beq e.2.2.1 1004 then m2i S (fun x y t => 1 ≤ d ∧ (t.map fun v => v.category).sum ≤ 8 ∧ cN ≤ MC ∧ sN ≤ MS ∧ nx (pc + 3) L (.int (if x < y then y else x) :: t) m o cN sN)
    else False
  | .invokevirtual _ => bif Nat.blt e.2.2.1 1000 then mReq (Nat.ble e.2.2.2.1 S.length && Nat.ble ((S.drop e.2.2.2.1).map fun v => v.category).sum 8) (m1r (S.take e.2.2.2.1).reverse (fun z _ => (bif Nat.beq (e.2.2.2.2.2.getD 0 99) 3 then (∃ i, i < mTx.length ∧ z = mSt i) else mReq (mIsB z (10 + e.2.2.2.2.2.getD 1 99)) True) ∧ mCal l g d k Φ MC MS nx pc e.2.2.1 false (S.take e.2.2.2.1).reverse (S.drop e.2.2.2.1) L m o cN sN e.2.2.2.2.1)) else False
  | .ireturn => mEi S (fun x => bif Nat.beq e.2.2.1 0 then Φ (.inl (some (.int x))) m o ∧ cN ≤ MC ∧ sN ≤ MS else bif Nat.beq e.2.2.1 1 then (x = 0 ∨ x = 1) ∧ Φ (.inl (some (.int x))) m o ∧ cN ≤ MC ∧ sN ≤ MS else False)
  | .lreturn => mEl S (fun x => Φ (.inl (some (.long x))) m o ∧ cN ≤ MC ∧ sN ≤ MS)
  | .areturn => mEr S (fun v => mReq (Nat.beq e.2.2.1 0) (Φ (.inl (some v)) m o ∧ cN ≤ MC ∧ sN ≤ MS))
  | .return_ => mEv S (Φ (.inl none) m o ∧ cN ≤ MC ∧ sN ≤ MS)
  | _ => False
