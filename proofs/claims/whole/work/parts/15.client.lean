/-! WORDS FOR CONTRACTS OF METHODS -/
def jrem (x y : Int32) : Int32 := x - x / y * y
def jshl (x y : Int32) : Int32 := x <<< (y &&& 31)
def jshr (x y : Int32) : Int32 := x >>> (y &&& 31)
def jushr (x y : Int32) : Int32 := (x.toUInt32 >>> (y.toUInt32 &&& Int32.toUInt32 31)).toInt32
def jlrem (x y : Int64) : Int64 := x - x / y * y
def jlshl (x : Int64) (y : Int32) : Int64 := x <<< (y.toInt64 &&& 63)
def jlshr (x : Int64) (y : Int32) : Int64 := x >>> (y.toInt64 &&& 63)
/-- it answers x and leaves m' -/
def mΦi (x : Int32) (m' : Mm) (o : Int64) : mR → Mm → Int64 → Prop := mIX (fun r m2 o2 => r = x ∧ m2 = m' ∧ o2 = o) mN0
def mΦl (x : Int64) (m' : Mm) (o : Int64) : mR → Mm → Int64 → Prop := mLX (fun r m2 o2 => r = x ∧ m2 = m' ∧ o2 = o) mN0
def mΦv (m' : Mm) (o : Int64) : mR → Mm → Int64 → Prop := mVX (fun m2 o2 => m2 = m' ∧ o2 = o) mN0
def mFi (l : Launch) (g : mG) (d k : Nat) (As : List Value) (m : Mm) (x : Int32) (m' : Mm) : Prop := l.stackTraces = false → ∀ o, mSat l g d k As m o (mΦi x m' o) 0 0
def mFl (l : Launch) (g : mG) (d k : Nat) (As : List Value) (m : Mm) (x : Int64) (m' : Mm) : Prop := l.stackTraces = false → ∀ o, mSat l g d k As m o (mΦl x m' o) 0 0
def mFu (l : Launch) (g : mG) (d k : Nat) (As : List Value) (m : Mm) (m' : Mm) : Prop := l.stackTraces = false → ∀ o, mSat l g d k As m o (mΦv m' o) 0 0
theorem mDi {x y : Int32} {m' m2 : Mm} {o : Int64} (h1 : y = x) (h2 : m2 = m') : mΦi x m' o (.inl (some (.int y))) m2 o ∧ 0 ≤ 0 ∧ 0 ≤ 0 := ⟨⟨h1, h2, rfl⟩, Nat.le_refl _, Nat.le_refl _⟩
theorem mDb {x y : Int32} {m' m2 : Mm} {o : Int64} (h0 : y = 0 ∨ y = 1) (h1 : y = x) (h2 : m2 = m') : (y = 0 ∨ y = 1) ∧ mΦi x m' o (.inl (some (.int y))) m2 o ∧ 0 ≤ 0 ∧ 0 ≤ 0 := ⟨h0, mDi h1 h2⟩
theorem mDl {x y : Int64} {m' m2 : Mm} {o : Int64} (h1 : y = x) (h2 : m2 = m') : mΦl x m' o (.inl (some (.long y))) m2 o ∧ 0 ≤ 0 ∧ 0 ≤ 0 := ⟨⟨h1, h2, rfl⟩, Nat.le_refl _, Nat.le_refl _⟩
theorem mDv {m' m2 : Mm} {o : Int64} (h2 : m2 = m') : mΦv m' o (.inl none) m2 o ∧ 0 ≤ 0 ∧ 0 ≤ 0 := ⟨⟨h2, rfl⟩, Nat.le_refl _, Nat.le_refl _⟩
section Cl
variable {l : Launch} {g : mG} {d k : Nat} {Φ : mR → Mm → Int64 → Prop} {MC MS : Nat} {nx : Nat → List Value → List Value → Mm → Int64 → Nat → Nat → Prop} {pc a : Nat} {nt : Bool} {As R L : List Value} {m m' : Mm} {o : Int64} {cN sN : Nat}
theorem mCi {x : Int32} (htr : l.stackTraces = false) (hf : mFi l g (d - 1) a As m x m') (hd : 1 ≤ d) (h1 : cN ≤ MC) (h2 : sN ≤ MS) (kk : nx (pc + 3) L (.int x :: R) m' o cN sN) : mCal l g d k Φ MC MS nx pc a nt As R L m o cN sN 1 := by
  refine ⟨d - 1, fun r m2 o2 => r = x ∧ m2 = m' ∧ o2 = o, mN0, 0, 0, by omega, hf htr o, h1, h2, ?_, ?_⟩
  · rintro r m2 o2 ⟨rfl, rfl, rfl⟩
    exact kk
  · cases nt
    · exact fun x m' o' q => q.elim
    · exact fun x m' o' q => q
theorem mCl' {x : Int64} (htr : l.stackTraces = false) (hf : mFl l g (d - 1) a As m x m') (hd : 1 ≤ d) (h1 : cN ≤ MC) (h2 : sN ≤ MS) (kk : nx (pc + 3) L (.long x :: R) m' o cN sN) : mCal l g d k Φ MC MS nx pc a nt As R L m o cN sN 2 := by
  refine ⟨d - 1, fun r m2 o2 => r = x ∧ m2 = m' ∧ o2 = o, mN0, 0, 0, by omega, hf htr o, h1, h2, ?_, ?_⟩
  · rintro r m2 o2 ⟨rfl, rfl, rfl⟩
    exact kk
  · cases nt
    · exact fun x m' o' q => q.elim
    · exact fun x m' o' q => q
theorem mCv (htr : l.stackTraces = false) (hf : mFu l g (d - 1) a As m m') (hd : 1 ≤ d) (h1 : cN ≤ MC) (h2 : sN ≤ MS) (kk : nx (pc + 3) L R m' o cN sN) : mCal l g d k Φ MC MS nx pc a nt As R L m o cN sN 0 := by
  refine ⟨d - 1, fun m2 o2 => m2 = m' ∧ o2 = o, mN0, 0, 0, by omega, hf htr o, h1, h2, ?_, ?_⟩
  · rintro m2 o2 ⟨rfl, rfl⟩
    exact kk
  · cases nt
    · exact fun x m' o' q => q.elim
    · exact fun x m' o' q => q
end Cl
/-- the arguments are of one slot each -/
def m1c : List Value → Bool
  | [] => true
  | v :: t => Nat.beq v.category 1 && m1c t
theorem m1c_of : ∀ {As : List Value}, m1c As = true → ∀ v ∈ As, v.category = 1
  | [], _, v, h => by cases h
  | w :: t, h, v, hv => by
    unfold m1c at h
    rw [Bool.and_eq_true] at h
    rcases List.mem_cons.mp hv with rfl | hv
    · exact Nat.eq_of_beq_eq_true h.1
    · exact m1c_of h.2 v hv
/-- a method's body: no handlers, r locals beyond its arguments -/
theorem mBody {l : Launch} {g : mG} {d k : Nat} {Φ : mR → Mm → Int64 → Prop} {mc ms : Nat} {As : List Value} {m : Mm} {o : Int64} (htr : l.stackTraces = false) (r : Nat) (hc : m1c As = true) (hn : mNl k = As.length + r) (hH : mHd k = []) (hpn : plainName (mY k).cls = true) (hoc : mCn (mOc k) = (mY k).cls)
    (h : mWB l g d k Φ mc ms 0 (As ++ List.replicate r mJ) [] m o 0 0) : mSat l g d k As m o Φ mc ms := mSat_of htr hpn hH hoc r (m1c_of hc) hn h
