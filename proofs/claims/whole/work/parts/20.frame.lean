/-! CONTRACTS BY RELATIONS; LOOPS; THE SCRATCH CELLS -/
def mΨi (Q : Int32 → Mm → Prop) (o : Int64) : mR → Mm → Int64 → Prop := mIX (fun r m2 o2 => Q r m2 ∧ o2 = o) mN0
def mΨl (Q : Int64 → Mm → Prop) (o : Int64) : mR → Mm → Int64 → Prop := mLX (fun r m2 o2 => Q r m2 ∧ o2 = o) mN0
def mΨv (Q : Mm → Prop) (o : Int64) : mR → Mm → Int64 → Prop := mVX (fun m2 o2 => Q m2 ∧ o2 = o) mN0
def mHi (l : Launch) (g : mG) (d k : Nat) (As : List Value) (m : Mm) (Q : Int32 → Mm → Prop) : Prop := l.stackTraces = false → ∀ o, mSat l g d k As m o (mΨi Q o) 0 0
def mHl (l : Launch) (g : mG) (d k : Nat) (As : List Value) (m : Mm) (Q : Int64 → Mm → Prop) : Prop := l.stackTraces = false → ∀ o, mSat l g d k As m o (mΨl Q o) 0 0
def mHv (l : Launch) (g : mG) (d k : Nat) (As : List Value) (m : Mm) (Q : Mm → Prop) : Prop := l.stackTraces = false → ∀ o, mSat l g d k As m o (mΨv Q o) 0 0
section Ct
variable {l : Launch} {g : mG} {d k : Nat} {As : List Value} {m m' : Mm}
theorem nBi {Q : Int32 → Mm → Prop} (r : Nat) (hc : m1c As = true) (hn : mNl k = As.length + r) (hH : mHd k = []) (hpn : plainName (mY k).cls = true) (hoc : mCn (mOc k) = (mY k).cls)
    (h : l.stackTraces = false → ∀ (o : Int64) (Φ : mR → Mm → Int64 → Prop), (∀ x m2, Q x m2 → Φ (.inl (some (.int x))) m2 o) → mWB l g d k Φ 0 0 0 (As ++ List.replicate r mJ) [] m o 0 0) : mHi l g d k As m Q := fun htr o => mBody htr r hc hn hH hpn hoc (h htr o _ (fun x m2 q => ⟨q, rfl⟩))
theorem nBl {Q : Int64 → Mm → Prop} (r : Nat) (hc : m1c As = true) (hn : mNl k = As.length + r) (hH : mHd k = []) (hpn : plainName (mY k).cls = true) (hoc : mCn (mOc k) = (mY k).cls)
    (h : l.stackTraces = false → ∀ (o : Int64) (Φ : mR → Mm → Int64 → Prop), (∀ x m2, Q x m2 → Φ (.inl (some (.long x))) m2 o) → mWB l g d k Φ 0 0 0 (As ++ List.replicate r mJ) [] m o 0 0) : mHl l g d k As m Q := fun htr o => mBody htr r hc hn hH hpn hoc (h htr o _ (fun x m2 q => ⟨q, rfl⟩))
theorem nBv {Q : Mm → Prop} (r : Nat) (hc : m1c As = true) (hn : mNl k = As.length + r) (hH : mHd k = []) (hpn : plainName (mY k).cls = true) (hoc : mCn (mOc k) = (mY k).cls)
    (h : l.stackTraces = false → ∀ (o : Int64) (Φ : mR → Mm → Int64 → Prop), (∀ m2, Q m2 → Φ (.inl none) m2 o) → mWB l g d k Φ 0 0 0 (As ++ List.replicate r mJ) [] m o 0 0) : mHv l g d k As m Q := fun htr o => mBody htr r hc hn hH hpn hoc (h htr o _ (fun m2 q => ⟨q, rfl⟩))
theorem nFi {x : Int32} (r : Nat) (hc : m1c As = true) (hn : mNl k = As.length + r) (hH : mHd k = []) (hpn : plainName (mY k).cls = true) (hoc : mCn (mOc k) = (mY k).cls)
    (h : l.stackTraces = false → ∀ (o : Int64) (Φ : mR → Mm → Int64 → Prop), Φ (.inl (some (.int x))) m' o → mWB l g d k Φ 0 0 0 (As ++ List.replicate r mJ) [] m o 0 0) : mFi l g d k As m x m' := fun htr o => mBody htr r hc hn hH hpn hoc (h htr o _ ⟨rfl, rfl, rfl⟩)
theorem nFu (r : Nat) (hc : m1c As = true) (hn : mNl k = As.length + r) (hH : mHd k = []) (hpn : plainName (mY k).cls = true) (hoc : mCn (mOc k) = (mY k).cls)
    (h : l.stackTraces = false → ∀ (o : Int64) (Φ : mR → Mm → Int64 → Prop), Φ (.inl none) m' o → mWB l g d k Φ 0 0 0 (As ++ List.replicate r mJ) [] m o 0 0) : mFu l g d k As m m' := fun htr o => mBody htr r hc hn hH hpn hoc (h htr o _ ⟨rfl, rfl⟩)
theorem mHi_of {x : Int32} (h : mFi l g d k As m x m') : mHi l g d k As m (fun r m2 => r = x ∧ m2 = m') := fun htr o => mMono (h htr o) (fun r m2 o2 q => by
  rcases r with (_ | v) | x
  · exact q.elim
  · cases v <;> first | exact q.elim | exact ⟨⟨q.1, q.2.1⟩, q.2.2⟩
  · exact q.elim)
theorem mHi_mono {Q Q' : Int32 → Mm → Prop} (h : mHi l g d k As m Q) (hq : ∀ x m2, Q x m2 → Q' x m2) : mHi l g d k As m Q' := fun htr o => mMono (h htr o) (fun r m2 o2 q => by
  rcases r with (_ | v) | x
  · exact q.elim
  · cases v <;> first | exact q.elim | exact ⟨hq _ _ q.1, q.2⟩
  · exact q.elim)
theorem mHl_mono {Q Q' : Int64 → Mm → Prop} (h : mHl l g d k As m Q) (hq : ∀ x m2, Q x m2 → Q' x m2) : mHl l g d k As m Q' := fun htr o => mMono (h htr o) (fun r m2 o2 q => by
  rcases r with (_ | v) | x
  · exact q.elim
  · cases v <;> first | exact q.elim | exact ⟨hq _ _ q.1, q.2⟩
  · exact q.elim)
theorem mHv_mono {Q Q' : Mm → Prop} (h : mHv l g d k As m Q) (hq : ∀ m2, Q m2 → Q' m2) : mHv l g d k As m Q' := fun htr o => mMono (h htr o) (fun r m2 o2 q => by
  rcases r with (_ | v) | x
  · exact ⟨hq _ q.1, q.2⟩
  · exact q.elim
  · exact q.elim)
end Ct
section Cs
variable {l : Launch} {g : mG} {d k : Nat} {Φ : mR → Mm → Int64 → Prop} {nx : Nat → List Value → List Value → Mm → Int64 → Nat → Nat → Prop} {pc a : Nat} {nt : Bool} {As R L : List Value} {m m' : Mm} {o : Int64}
theorem nCi {Q : Int32 → Mm → Prop} (htr : l.stackTraces = false) (hf : mHi l g (d - 1) a As m Q) (hd : 1 ≤ d) (kk : ∀ x m2, Q x m2 → nx (pc + 3) L (.int x :: R) m2 o 0 0) : mCal l g d k Φ 0 0 nx pc a nt As R L m o 0 0 1 := by
  refine ⟨d - 1, fun r m2 o2 => Q r m2 ∧ o2 = o, mN0, 0, 0, by omega, hf htr o, Nat.le_refl _, Nat.le_refl _, ?_, ?_⟩
  · rintro r m2 o2 ⟨q, rfl⟩
    exact kk r m2 q
  · cases nt
    · exact fun x m' o' q => q.elim
    · exact fun x m' o' q => q
theorem nCl {Q : Int64 → Mm → Prop} (htr : l.stackTraces = false) (hf : mHl l g (d - 1) a As m Q) (hd : 1 ≤ d) (kk : ∀ x m2, Q x m2 → nx (pc + 3) L (.long x :: R) m2 o 0 0) : mCal l g d k Φ 0 0 nx pc a nt As R L m o 0 0 2 := by
  refine ⟨d - 1, fun r m2 o2 => Q r m2 ∧ o2 = o, mN0, 0, 0, by omega, hf htr o, Nat.le_refl _, Nat.le_refl _, ?_, ?_⟩
  · rintro r m2 o2 ⟨q, rfl⟩
    exact kk r m2 q
  · cases nt
    · exact fun x m' o' q => q.elim
    · exact fun x m' o' q => q
theorem nCv {Q : Mm → Prop} (htr : l.stackTraces = false) (hf : mHv l g (d - 1) a As m Q) (hd : 1 ≤ d) (kk : ∀ m2, Q m2 → nx (pc + 3) L R m2 o 0 0) : mCal l g d k Φ 0 0 nx pc a nt As R L m o 0 0 0 := by
  refine ⟨d - 1, fun m2 o2 => Q m2 ∧ o2 = o, mN0, 0, 0, by omega, hf htr o, Nat.le_refl _, Nat.le_refl _, ?_, ?_⟩
  · rintro m2 o2 ⟨q, rfl⟩
    exact kk m2 q
  · cases nt
    · exact fun x m' o' q => q.elim
    · exact fun x m' o' q => q
theorem fCi {x : Int32} (htr : l.stackTraces = false) (hf : mFi l g (d - 1) a As m x m') (hd : 1 ≤ d) (kk : nx (pc + 3) L (.int x :: R) m' o 0 0) : mCal l g d k Φ 0 0 nx pc a nt As R L m o 0 0 1 := mCi htr hf hd (Nat.le_refl _) (Nat.le_refl _) kk
theorem fCl {x : Int64} (htr : l.stackTraces = false) (hf : mFl l g (d - 1) a As m x m') (hd : 1 ≤ d) (kk : nx (pc + 3) L (.long x :: R) m' o 0 0) : mCal l g d k Φ 0 0 nx pc a nt As R L m o 0 0 2 := mCl' htr hf hd (Nat.le_refl _) (Nat.le_refl _) kk
theorem fCv (htr : l.stackTraces = false) (hf : mFu l g (d - 1) a As m m') (hd : 1 ≤ d) (kk : nx (pc + 3) L R m' o 0 0) : mCal l g d k Φ 0 0 nx pc a nt As R L m o 0 0 0 := mCv htr hf hd (Nat.le_refl _) (Nat.le_refl _) kk
theorem eI {x y : Int32} {m2 : Mm} (hΦ : Φ (.inl (some (.int x))) m' o) (h1 : y = x) (h2 : m2 = m') : Φ (.inl (some (.int y))) m2 o ∧ 0 ≤ 0 ∧ 0 ≤ 0 := by subst h1; subst h2; exact ⟨hΦ, Nat.le_refl _, Nat.le_refl _⟩
theorem eB {x y : Int32} {m2 : Mm} (hΦ : Φ (.inl (some (.int x))) m' o) (h0 : y = 0 ∨ y = 1) (h1 : y = x) (h2 : m2 = m') : (y = 0 ∨ y = 1) ∧ Φ (.inl (some (.int y))) m2 o ∧ 0 ≤ 0 ∧ 0 ≤ 0 := ⟨h0, eI hΦ h1 h2⟩
theorem eV {m2 : Mm} (hΦ : Φ (.inl none) m' o) (h2 : m2 = m') : Φ (.inl none) m2 o ∧ 0 ≤ 0 ∧ 0 ≤ 0 := by subst h2; exact ⟨hΦ, Nat.le_refl _, Nat.le_refl _⟩
theorem eR {P : Prop} (h : P) : P ∧ 0 ≤ 0 ∧ 0 ≤ 0 := ⟨h, Nat.le_refl _, Nat.le_refl _⟩
end Cs
/-- a loop's way down -/
theorem mLoop {P : Nat → Prop} {N : Nat} (hs : ∀ i, i < N → P (i + 1) → P i) (he : P N) : ∀ i, i ≤ N → P i := by
  intro i hi
  generalize hf : N - i = f
  induction f generalizing i with
  | zero => rw [show i = N by omega]; exact he
  | succ f ih => exact hs i (by omega) (ih (i + 1) (by omega) (by omega))
/-- the cells that no call leaves for a later one -/
def sc (a i : Nat) : Bool := bif Nat.beq a 0 then Nat.beq i 0 || Nat.beq i 40 || Nat.beq i 47 || Nat.beq i 48 else
  Nat.beq a 411 || Nat.beq a 412 || Nat.beq a 495 || (Nat.ble 517 a && Nat.ble a 584) || Nat.beq a 602 || Nat.beq a 603 || (Nat.ble 696 a && Nat.ble a 706)
def cl (m : Mm) : Mm := fun a i => bif sc a i then 0 else m a i
theorem cl_at {m A : Mm} (h : cl m = A) {a i : Nat} (hs : sc a i = false) : m a i = A a i := by
  rw [← h]
  unfold cl
  rw [hs]
  rfl
theorem cl_mset {m A : Mm} (h : cl m = A) {a i : Nat} (v : Int32) (hs : sc a i = true) : cl (mset m a i v) = A := by
  rw [← h]
  funext x j
  unfold cl
  cases hx : sc x j with
  | true => rfl
  | false =>
    show mset m a i v x j = m x j
    rw [mset_ap, if_neg (fun q => by rw [q.1, q.2, hs] at hx; exact Bool.noConfusion hx)]
theorem cl_cl (m : Mm) : cl (cl m) = cl m := by
  funext x j
  unfold cl
  cases sc x j <;> rfl
theorem cl_self {m A : Mm} (h : cl m = A) : cl A = A := by rw [← h, cl_cl]
theorem cl_set {m A : Mm} (h : cl m = A) {a i : Nat} (v : Int32) (hs : sc a i = false) : cl (mset m a i v) = mset A a i v := by
  rw [← h]
  funext x j
  rw [mset_ap]
  unfold cl
  by_cases q : x = a ∧ j = i
  · rw [q.1, q.2, hs, mset_ap]; simp
  · rw [mset_ap, if_neg q, if_neg q]
theorem mReq_tt (P : Prop) : mReq true P = P := rfl
theorem mIn_ok {n N : Nat} (h : n < N) (hN : N < 2 ^ 31) : mInB (nI n) N = true := mIn_nI h hN
theorem nI_cl {n : Nat} (h : n < 2 ^ 31) : (nI n).toNatClampNeg = n := nI_clamp h
theorem nI_0a (x : Int32) : (0 : Int32) + x = x := Int32.zero_add x
theorem nI_a0 (x : Int32) : x + (0 : Int32) = x := Int32.add_zero x
theorem nI_lit (n : Nat) : (OfNat.ofNat n : Int32) = nI n := rfl
theorem rf_22 (e : Nat) : mRF 22 e = 23 + e := by show 22 + 1 + 1 * e = _; omega
theorem rf_44 (e : Nat) : mRF 44 e = 45 + e := by show 44 + 1 + 1 * e = _; omega
theorem rf_60 (e : Nat) : mRF 60 e = 61 + e := by show 60 + 1 + 1 * e = _; omega
theorem rf_69 (e : Nat) : mRF 69 e = 70 + e := by show 69 + 1 + 1 * e = _; omega
theorem rf_391 (e : Nat) : mRF 391 e = 392 + e := by show 391 + 1 + 1 * e = _; omega
theorem rf_7 (e : Nat) : mRF 7 e = 8 + e := by show 7 + 1 + 1 * e = _; omega
theorem rf_37 (e : Nat) : mRF 37 e = 38 + e := by show 37 + 1 + 1 * e = _; omega
theorem rf_51 (e : Nat) : mRF 51 e = 52 + e := by show 51 + 1 + 1 * e = _; omega
theorem rf_230 (e : Nat) : mRF 230 e = 231 + e := by show 230 + 1 + 1 * e = _; omega
theorem rf_401 (e : Nat) : mRF 401 e = 402 + e := by show 401 + 1 + 1 * e = _; omega
theorem rf_413 (e : Nat) : mRF 413 e = 414 + e := by show 413 + 1 + 1 * e = _; omega
theorem rf_496 (e : Nat) : mRF 496 e = 497 + e := by show 496 + 1 + 1 * e = _; omega
theorem rf_513 (e : Nat) : mRF 513 e = 514 + e := by show 513 + 1 + 1 * e = _; omega
theorem rf_518 (e : Nat) : mRF 518 e = 519 + e := by show 518 + 1 + 1 * e = _; omega
theorem isB_all : ∀ a, a < 517 → (mKd a = 1 ∨ mKd a = 4 ∨ mKd a = 22) := by decide +kernel
def rwB (lo n len : Nat) : Prop := ∀ e, e < n → mIsB (lo + e) 1 = true ∧ mLn (lo + e) = len
theorem rw_8 : rwB 8 14 2 := by unfold rwB; decide +kernel
theorem rw_23 : rwB 23 14 2 := by unfold rwB; decide +kernel
theorem rw_38 : rwB 38 6 3 := by unfold rwB; decide +kernel
theorem rw_45 : rwB 45 6 3 := by unfold rwB; decide +kernel
theorem rw_52 : rwB 52 8 2 := by unfold rwB; decide +kernel
theorem rw_61 : rwB 61 8 2 := by unfold rwB; decide +kernel
theorem rw_70 : rwB 70 160 2 := by unfold rwB; decide +kernel
theorem rw_231 : rwB 231 160 2 := by unfold rwB; decide +kernel
theorem rw_392 : rwB 392 9 2 := by unfold rwB; decide +kernel
theorem rw_402 : rwB 402 9 2 := by unfold rwB; decide +kernel
theorem rw_414 : rwB 414 80 4 := by unfold rwB; decide +kernel
theorem rw_497 : rwB 497 16 37 := by unfold rwB; decide +kernel
theorem rw_514 : rwB 514 3 630 := by unfold rwB; decide +kernel
