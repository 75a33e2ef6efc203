theorem mJ_i (x : Int32) : Value.int x ≠ mJ := by unfold mJ; intro h; cases h
theorem mJ_l (x : Int64) : Value.long x ≠ mJ := by unfold mJ; intro h; cases h
theorem mJ_r (x : Nat) : Value.ref x ≠ mJ := by unfold mJ; intro h; cases h
theorem mJ_n : Value.null ≠ mJ := by unfold mJ; intro h; cases h
theorem mCE_1 (g : mG) (m : Mm) (o : Int64) {x : Nat} (h : mKd x = 1) : mCE g m o x = .inl (gC g 0, mLn x, .inl (m x)) := by unfold mCE; rw [if_pos h]
theorem mCE_2 (g : mG) (m : Mm) (o : Int64) {x : Nat} (h : mKd x = 2) : mCE g m o x = .inl (gC g 1, mLn x, .inl (m x)) := by unfold mCE; rw [if_neg (by omega), if_pos h]
theorem mCE_3 (g : mG) (m : Mm) (o : Int64) {x : Nat} (h : mKd x = 3) : mCE g m o x = .inl (gC g 2, mLn x, .inr (.inl (fun _ => o))) := by unfold mCE; rw [if_neg (by omega), if_neg (by omega), if_pos h]
theorem mCE_4 (g : mG) (m : Mm) (o : Int64) {x : Nat} (h : 3 < mKd x) (h2 : mKd x < 8) : mCE g m o x = .inl (gC g (mKd x - 1), mLn x, .inr (.inr (.inr (.inr (fun i => some (gA g (mRF x i))))))) := by unfold mCE; rw [if_neg (by omega), if_neg (by omega), if_neg (by omega), if_pos (by omega)]
theorem mCE_ob (g : mG) (m : Mm) (o : Int64) {x a : Nat} (h : mKd x = 10 + a) : mCE g m o x = .inr (a, (List.range (mLn x)).map (mFv g m x a)) := by
  unfold mCE
  rw [if_neg (by omega), if_neg (by omega), if_neg (by omega), if_neg (by omega), h, show 10 + a - 10 = a by omega]
theorem mTys_at (g : mG) : (mTys g)[0]? = some (gC g 0, .int) ∧ (mTys g)[1]? = some (gC g 1, .boolean) ∧ (mTys g)[2]? = some (gC g 2, .long) ∧ (mTys g)[3]? = some (gC g 3, .array .int) ∧ (mTys g)[4]? = some (gC g 4, .array .boolean) ∧ (mTys g)[5]? = some (gC g 5, .object "HopedHours$Night") ∧ (mTys g)[6]? = some (gC g 6, .object "HopedHours$History") := ⟨rfl, rfl, rfl, rfl, rfl, rfl, rfl⟩
/-- every object has as many slots as its class -/
theorem mSizes : (List.range mNc).all (fun x => decide (mKd x < 10) || (match vwCl[mKd x - 10]? with | some q => decide (mLn x = q.2.2) | none => false)) = true := by decide +kernel
theorem mSize_of {x a : Nat} {q : vw_C} (hx : x < mNc) (h : mKd x = 10 + a) (hq : vwCl[a]? = some q) : mLn x = q.2.2 := by
  have h1 := List.all_eq_true.mp mSizes x (List.mem_range.mpr hx)
  rw [h, show 10 + a - 10 = a by omega, hq] at h1
  simp only [Bool.or_eq_true, decide_eq_true_eq] at h1
  rcases h1 with h1 | h1
  · omega
  · exact h1
def mUsB (ci : Nat) : Bool := match vwCl[ci]? with
  | some q => (u_ws q.1 q.2.1 q.2.2).all (fun w => decide (w ∈ lw_tbl) && goodWord w)
  | none => true
theorem mUs_ok : (List.range 13).all mUsB = true := by decide +kernel
theorem mUs_of {ci : Nat} {q : vw_C} (h : vwCl[ci]? = some q) : ∀ w ∈ u_ws q.1 q.2.1 q.2.2, w ∈ mGW := by
  have hl : ci < 13 := (List.getElem?_eq_some_iff.mp h).1
  have h1 := List.all_eq_true.mp mUs_ok ci (List.mem_range.mpr hl)
  unfold mUsB at h1
  rw [h] at h1
  intro w hw
  have h2 := List.all_eq_true.mp h1 w hw
  rw [Bool.and_eq_true, decide_eq_true_eq] at h2
  exact List.mem_filter.mpr h2
theorem mTy_of : ∀ {ci : Nat} {q : vw_C}, vwCl[ci]? = some q → ∃ ty0 : Nat → FieldType, (∀ k, k < q.2.2 → parseFieldDescriptor (q.2.1 k).2.2.1 = some (ty0 k)) ∧ ∀ a, a < q.2.2 → ∀ b, b < q.2.2 → a ≠ b → (q.2.1 a).2.1 ≠ (q.2.1 b).2.1
  | 0, _, h => by cases h; exact ⟨tyX0, tyX0_ok, nmX0⟩
  | 1, _, h => by cases h; exact ⟨tyX1, tyX1_ok, nmX1⟩
  | 2, _, h => by cases h; exact ⟨tyX2, tyX2_ok, nmX2⟩
  | 3, _, h => by cases h; exact ⟨tyX3, tyX3_ok, nmX3⟩
  | 4, _, h => by cases h; exact ⟨tyX4, tyX4_ok, nmX4⟩
  | 5, _, h => by cases h; exact ⟨tyX5, tyX5_ok, nmX5⟩
  | 6, _, h => by cases h; exact ⟨tyX6, tyX6_ok, nmX6⟩
  | 7, _, h => by cases h; exact ⟨tyX7, tyX7_ok, nmX7⟩
  | 8, _, h => by cases h; exact ⟨tyX8, tyX8_ok, nmX8⟩
  | 9, _, h => by cases h; exact ⟨tyX9, tyX9_ok, nmX9⟩
  | 10, _, h => by cases h; exact ⟨tyX10, tyX10_ok, nmX10⟩
  | 11, _, h => by cases h; exact ⟨tyX11, tyX11_ok, nmX11⟩
  | 12, _, h => by cases h; exact ⟨tyX12, tyX12_ok, nmX12⟩
  | n + 13, _, h => by simp [vwCl] at h
/-- what a field's row of the table says -/
theorem mFld {k i a b c : Nat} (h13 : Nat.blt a 13 = true) (hp : (if a < 13 then mFT.any (fun q => q.1 == mOc k && q.2.1 == i && q.2.2.1 == a && q.2.2.2.1 == b && q.2.2.2.2.1 == c) else true) = true) :
    ∃ r : vw_C, vwCl[a]? = some r ∧ b < r.2.2 ∧ Cond.fieldLink (mCn (mOc k)) i (r.2.1 b).1 (r.2.1 b).2.1 (r.2.1 b).2.2.1 ∈ mGW ∧ (c = if mIsRef a b = true then 1 else 0) ∧ (c = 0 → (r.2.1 b).2.2.2 = false) := by
  rw [if_pos (by simpa [Nat.blt_eq] using h13)] at hp
  obtain ⟨q, hq, hq2⟩ := List.any_eq_true.mp hp
  simp only [Bool.and_eq_true, beq_iff_eq] at hq2
  obtain ⟨⟨⟨⟨e1, e2⟩, e3⟩, e4⟩, e5⟩ := hq2
  have h1 := List.all_eq_true.mp mFT_ok q hq
  unfold mFtB at h1
  rw [e1, e2, e3, e4, e5] at h1
  cases hr : vwCl[a]? with
  | none => rw [hr] at h1; cases h1
  | some r =>
    rw [hr] at h1
    simp only [Bool.and_eq_true, decide_eq_true_eq] at h1
    exact ⟨r, rfl, h1.1.1.1, mGW_at _ h1.1.1.2 rfl, h1.1.2, fun h0 => by
      have h2 := h1.2
      simp only [Bool.or_eq_true, decide_eq_true_eq, Bool.not_eq_true'] at h2
      rcases h2 with h2 | h2
      · omega
      · exact h2⟩
theorem mSw_of {x : Int32} {nx : Nat → Prop} : ∀ {ts : List Nat} {lo : Int} {i t : Nat}, mSw x nx lo ts → x.toInt = lo + (i : Int) → ts[i]? = some t → nx t
  | [], _, _, _, _, _, h => by simp at h
  | q :: ts, lo, 0, t, h, hx, ht => by
    simp at ht
    subst ht
    exact h.1 (by simpa using hx)
  | q :: ts, lo, i + 1, t, h, hx, ht => mSw_of (lo := lo + 1) (i := i) h.2 (by rw [hx]; simp; omega) (by simpa using ht)
theorem mLk_of {x : Int32} {nx : Nat → Prop} {df : Prop} {pc a : Nat} {dflt : Int} (hdf : (pc : Int) + dflt = (a : Int)) : ∀ {ps : List (Int × Int)} {ts : List Nat}, ps.map (fun z => (pc : Int) + z.2) = ts.map (fun t : Nat => (t : Int)) → mLk x nx df ps ts → ∃ t : Nat, (pc : Int) + Op.lookupswitch.offset ps dflt x.toInt = (t : Int) ∧ (nx t ∨ (t = a ∧ df))
  | [], ts, _, h => by
    refine ⟨a, ?_, Or.inr ⟨rfl, ?_⟩⟩
    · simpa [Op.lookupswitch.offset] using hdf
    · cases ts <;> exact h
  | p :: ps, [], hm, h => by simp at hm
  | p :: ps, t :: ts, hm, h => by
    simp only [List.map_cons, List.cons.injEq] at hm
    rw [Op.lookupswitch.offset_cons]
    by_cases hx : p.1 = x.toInt
    · rw [if_pos hx]
      exact ⟨t, hm.1, Or.inl (h.1 hx.symm)⟩
    · rw [if_neg hx]
      exact mLk_of hdf hm.2 (h.2 (fun q => hx q.symm))
theorem mD_any {g : mG} {m m' : Mm} {o o' : Int64} (h : va_D (mA g) (mLs g m o)) : va_D (mA g) (mLs g m' o') := by
  have key : ∀ {i : Nat} {q : Nat × va_E}, (mLs g m' o')[i]? = some q → i < mNc ∧ q.1 = gA g i := by
    intro i q hq
    by_cases hi : i < mNc
    · rw [mLs_at g m' o' hi] at hq
      cases hq
      exact ⟨hi, rfl⟩
    · rw [List.getElem?_eq_none (by unfold mLs; rw [List.length_map, List.length_range]; omega)] at hq
      cases hq
  refine ⟨fun i j p q hi hj e => ?_, fun k q hk => ?_⟩
  · obtain ⟨i1, i2⟩ := key hi
    obtain ⟨j1, j2⟩ := key hj
    exact h.1 i j _ _ (mLs_at g m o i1) (mLs_at g m o j1) (by show gA g i = gA g j; rw [← i2, ← j2]; exact e)
  · obtain ⟨k1, k2⟩ := key hk
    rw [k2]
    exact h.2 k _ (mLs_at g m o k1)
theorem mOut_all : (List.range mNc).all (fun x => decide (mKd x ≠ 3) || decide (x = aOut)) = true := by decide +kernel
theorem mKd_big : ∀ x, mNc ≤ x → mKd x ≠ 3 := by
  intro x hx
  have h1 : ∀ (R : List (Nat × List mCl)) (y : Nat), (R.map (fun q => q.1)).sum ≤ y → mRun R y = (0, 0, 0, 0, []) := by
    intro R
    induction R with
    | nil => intro y _; rfl
    | cons q t ih =>
      intro y hy
      simp only [List.map_cons, List.sum_cons] at hy
      have hb : Nat.blt y q.1 = false := by
        cases hb : Nat.blt y q.1 with
        | false => rfl
        | true => have : y < q.1 := by simpa [Nat.blt_eq] using hb
                  omega
      unfold mRun
      rw [hb, cond_false]
      exact ih _ (by omega)
  have hlt : Nat.blt x 585 = false := by
    cases hb : Nat.blt x 585 with
    | false => rfl
    | true => have : x < 585 := by simpa [Nat.blt_eq] using hb
              have : 917 ≤ x := hx
              omega
  have hs : (mRunC.map (fun q => q.1)).sum = 332 := by decide +kernel
  unfold mKd mCell
  rw [hlt, cond_false, h1 mRunC (x - 585) (by rw [hs]; have : 917 ≤ x := hx; omega)]
  decide
theorem mOut_one (x : Nat) (h : mKd x = 3) : x = aOut := by
  by_cases hx : x < mNc
  · have h1 := List.all_eq_true.mp mOut_all x (List.mem_range.mpr hx)
    simp only [Bool.or_eq_true, decide_eq_true_eq] at h1
    rcases h1 with h1 | h1
    · exact absurd h h1
    · exact h1
  · exact absurd h (mKd_big x (by omega))
theorem mStr_lt : mStr.all (fun q => decide (q.2.2 < mTx.length)) = true := by decide +kernel
theorem mKs_in {k i a : Nat} (hp : mKs.any (fun q => q.1 == mOc k && q.2.1 == i && q.2.2.1 == a && decide (lw_tbl[q.2.2.2.1]? = some (.constant (mCn q.1) q.2.1 (Int32.ofNat q.2.2.1)))) = true) : Cond.constant (mCn (mOc k)) i (Int32.ofNat a) ∈ mGW := by
  obtain ⟨q, hq, hq2⟩ := List.any_eq_true.mp hp
  simp only [Bool.and_eq_true, beq_iff_eq, decide_eq_true_eq] at hq2
  obtain ⟨⟨⟨e1, e2⟩, e3⟩, e4⟩ := hq2
  rw [e1, e2, e3] at e4
  exact mGW_at _ e4 rfl
theorem mKs_inL {k i a : Nat} (hp : mKs.any (fun q => q.1 == mOc k && q.2.1 == i && q.2.2.1 == a && decide (lw_tbl[q.2.2.2.1]? = some (.constantLong (mCn q.1) q.2.1 (Int64.ofNat q.2.2.1)))) = true) : Cond.constantLong (mCn (mOc k)) i (Int64.ofNat a) ∈ mGW := by
  obtain ⟨q, hq, hq2⟩ := List.any_eq_true.mp hp
  simp only [Bool.and_eq_true, beq_iff_eq, decide_eq_true_eq] at hq2
  obtain ⟨⟨⟨e1, e2⟩, e3⟩, e4⟩ := hq2
  rw [e1, e2, e3] at e4
  exact mGW_at _ e4 rfl
theorem ms_iadd {l : Launch} {g : mG} {d k : Nat} {Φ : mR → Mm → Int64 → Prop} {MC MS : Nat} {pc len a b c : Nat} {ts : List Nat} {nx : Nat → List Value → List Value → Mm → Int64 → Nat → Nat → Prop} (hn : ∀ pc L S m o c s, nx pc L S m o c s → mWB l g d k Φ MC MS pc L S m o c s) {L S : List Value} {m : Mm} {o : Int64} {cN sN : Nat}
    (hd : decode (mBy k) pc = .ok (.iadd, len)) (hln : mLnB (.iadd) len = true) (hp : mPay k pc (.iadd) a b c ts = true) (h : mStep l g d k Φ MC MS nx pc (.iadd, len, a, b, c, ts) L S m o cN sN) : mWB l g d k Φ MC MS pc L S m o cN sN := by
  intro p ev s mi args below meth cd H locs ls C hP hS hL
  obtain ⟨hx, hb, hml, hr, hlk, hown, hts, htab, htr, hW, hB⟩ := id C
  have e1 : len = 1 := Nat.eq_of_beq_eq_true hln
  subst e1
  obtain ⟨x, y, t, rfl, h⟩ := m2i_of h
  exact lv_iadd hx hb hd (hn _ _ _ _ _ _ _ h p ev s mi args below meth cd H locs ls C hP hS hL)
theorem ms_isub {l : Launch} {g : mG} {d k : Nat} {Φ : mR → Mm → Int64 → Prop} {MC MS : Nat} {pc len a b c : Nat} {ts : List Nat} {nx : Nat → List Value → List Value → Mm → Int64 → Nat → Nat → Prop} (hn : ∀ pc L S m o c s, nx pc L S m o c s → mWB l g d k Φ MC MS pc L S m o c s) {L S : List Value} {m : Mm} {o : Int64} {cN sN : Nat}
    (hd : decode (mBy k) pc = .ok (.isub, len)) (hln : mLnB (.isub) len = true) (hp : mPay k pc (.isub) a b c ts = true) (h : mStep l g d k Φ MC MS nx pc (.isub, len, a, b, c, ts) L S m o cN sN) : mWB l g d k Φ MC MS pc L S m o cN sN := by
  intro p ev s mi args below meth cd H locs ls C hP hS hL
  obtain ⟨hx, hb, hml, hr, hlk, hown, hts, htab, htr, hW, hB⟩ := id C
  have e1 : len = 1 := Nat.eq_of_beq_eq_true hln
  subst e1
  obtain ⟨x, y, t, rfl, h⟩ := m2i_of h
  exact lv_isub hx hb hd (hn _ _ _ _ _ _ _ h p ev s mi args below meth cd H locs ls C hP hS hL)
theorem ms_imul {l : Launch} {g : mG} {d k : Nat} {Φ : mR → Mm → Int64 → Prop} {MC MS : Nat} {pc len a b c : Nat} {ts : List Nat} {nx : Nat → List Value → List Value → Mm → Int64 → Nat → Nat → Prop} (hn : ∀ pc L S m o c s, nx pc L S m o c s → mWB l g d k Φ MC MS pc L S m o c s) {L S : List Value} {m : Mm} {o : Int64} {cN sN : Nat}
    (hd : decode (mBy k) pc = .ok (.imul, len)) (hln : mLnB (.imul) len = true) (hp : mPay k pc (.imul) a b c ts = true) (h : mStep l g d k Φ MC MS nx pc (.imul, len, a, b, c, ts) L S m o cN sN) : mWB l g d k Φ MC MS pc L S m o cN sN := by
  intro p ev s mi args below meth cd H locs ls C hP hS hL
  obtain ⟨hx, hb, hml, hr, hlk, hown, hts, htab, htr, hW, hB⟩ := id C
  have e1 : len = 1 := Nat.eq_of_beq_eq_true hln
  subst e1
  obtain ⟨x, y, t, rfl, h⟩ := m2i_of h
  exact lv_imul hx hb hd (hn _ _ _ _ _ _ _ h p ev s mi args below meth cd H locs ls C hP hS hL)
theorem ms_iand {l : Launch} {g : mG} {d k : Nat} {Φ : mR → Mm → Int64 → Prop} {MC MS : Nat} {pc len a b c : Nat} {ts : List Nat} {nx : Nat → List Value → List Value → Mm → Int64 → Nat → Nat → Prop} (hn : ∀ pc L S m o c s, nx pc L S m o c s → mWB l g d k Φ MC MS pc L S m o c s) {L S : List Value} {m : Mm} {o : Int64} {cN sN : Nat}
    (hd : decode (mBy k) pc = .ok (.iand, len)) (hln : mLnB (.iand) len = true) (hp : mPay k pc (.iand) a b c ts = true) (h : mStep l g d k Φ MC MS nx pc (.iand, len, a, b, c, ts) L S m o cN sN) : mWB l g d k Φ MC MS pc L S m o cN sN := by
  intro p ev s mi args below meth cd H locs ls C hP hS hL
  obtain ⟨hx, hb, hml, hr, hlk, hown, hts, htab, htr, hW, hB⟩ := id C
  have e1 : len = 1 := Nat.eq_of_beq_eq_true hln
  subst e1
  obtain ⟨x, y, t, rfl, h⟩ := m2i_of h
  exact lv_iand hx hb hd (hn _ _ _ _ _ _ _ h p ev s mi args below meth cd H locs ls C hP hS hL)
theorem ms_ior {l : Launch} {g : mG} {d k : Nat} {Φ : mR → Mm → Int64 → Prop} {MC MS : Nat} {pc len a b c : Nat} {ts : List Nat} {nx : Nat → List Value → List Value → Mm → Int64 → Nat → Nat → Prop} (hn : ∀ pc L S m o c s, nx pc L S m o c s → mWB l g d k Φ MC MS pc L S m o c s) {L S : List Value} {m : Mm} {o : Int64} {cN sN : Nat}
    (hd : decode (mBy k) pc = .ok (.ior, len)) (hln : mLnB (.ior) len = true) (hp : mPay k pc (.ior) a b c ts = true) (h : mStep l g d k Φ MC MS nx pc (.ior, len, a, b, c, ts) L S m o cN sN) : mWB l g d k Φ MC MS pc L S m o cN sN := by
  intro p ev s mi args below meth cd H locs ls C hP hS hL
  obtain ⟨hx, hb, hml, hr, hlk, hown, hts, htab, htr, hW, hB⟩ := id C
  have e1 : len = 1 := Nat.eq_of_beq_eq_true hln
  subst e1
  obtain ⟨x, y, t, rfl, h⟩ := m2i_of h
  exact lv_ior hx hb hd (hn _ _ _ _ _ _ _ h p ev s mi args below meth cd H locs ls C hP hS hL)
theorem ms_ixor {l : Launch} {g : mG} {d k : Nat} {Φ : mR → Mm → Int64 → Prop} {MC MS : Nat} {pc len a b c : Nat} {ts : List Nat} {nx : Nat → List Value → List Value → Mm → Int64 → Nat → Nat → Prop} (hn : ∀ pc L S m o c s, nx pc L S m o c s → mWB l g d k Φ MC MS pc L S m o c s) {L S : List Value} {m : Mm} {o : Int64} {cN sN : Nat}
    (hd : decode (mBy k) pc = .ok (.ixor, len)) (hln : mLnB (.ixor) len = true) (hp : mPay k pc (.ixor) a b c ts = true) (h : mStep l g d k Φ MC MS nx pc (.ixor, len, a, b, c, ts) L S m o cN sN) : mWB l g d k Φ MC MS pc L S m o cN sN := by
  intro p ev s mi args below meth cd H locs ls C hP hS hL
  obtain ⟨hx, hb, hml, hr, hlk, hown, hts, htab, htr, hW, hB⟩ := id C
  have e1 : len = 1 := Nat.eq_of_beq_eq_true hln
  subst e1
  obtain ⟨x, y, t, rfl, h⟩ := m2i_of h
  exact lv_ixor hx hb hd (hn _ _ _ _ _ _ _ h p ev s mi args below meth cd H locs ls C hP hS hL)
theorem ms_ishl {l : Launch} {g : mG} {d k : Nat} {Φ : mR → Mm → Int64 → Prop} {MC MS : Nat} {pc len a b c : Nat} {ts : List Nat} {nx : Nat → List Value → List Value → Mm → Int64 → Nat → Nat → Prop} (hn : ∀ pc L S m o c s, nx pc L S m o c s → mWB l g d k Φ MC MS pc L S m o c s) {L S : List Value} {m : Mm} {o : Int64} {cN sN : Nat}
    (hd : decode (mBy k) pc = .ok (.ishl, len)) (hln : mLnB (.ishl) len = true) (hp : mPay k pc (.ishl) a b c ts = true) (h : mStep l g d k Φ MC MS nx pc (.ishl, len, a, b, c, ts) L S m o cN sN) : mWB l g d k Φ MC MS pc L S m o cN sN := by
  intro p ev s mi args below meth cd H locs ls C hP hS hL
  obtain ⟨hx, hb, hml, hr, hlk, hown, hts, htab, htr, hW, hB⟩ := id C
  have e1 : len = 1 := Nat.eq_of_beq_eq_true hln
  subst e1
  obtain ⟨x, y, t, rfl, h⟩ := m2i_of h
  exact lv_ishl hx hb hd (hn _ _ _ _ _ _ _ h p ev s mi args below meth cd H locs ls C hP hS hL)
theorem ms_ishr {l : Launch} {g : mG} {d k : Nat} {Φ : mR → Mm → Int64 → Prop} {MC MS : Nat} {pc len a b c : Nat} {ts : List Nat} {nx : Nat → List Value → List Value → Mm → Int64 → Nat → Nat → Prop} (hn : ∀ pc L S m o c s, nx pc L S m o c s → mWB l g d k Φ MC MS pc L S m o c s) {L S : List Value} {m : Mm} {o : Int64} {cN sN : Nat}
    (hd : decode (mBy k) pc = .ok (.ishr, len)) (hln : mLnB (.ishr) len = true) (hp : mPay k pc (.ishr) a b c ts = true) (h : mStep l g d k Φ MC MS nx pc (.ishr, len, a, b, c, ts) L S m o cN sN) : mWB l g d k Φ MC MS pc L S m o cN sN := by
  intro p ev s mi args below meth cd H locs ls C hP hS hL
  obtain ⟨hx, hb, hml, hr, hlk, hown, hts, htab, htr, hW, hB⟩ := id C
  have e1 : len = 1 := Nat.eq_of_beq_eq_true hln
  subst e1
  obtain ⟨x, y, t, rfl, h⟩ := m2i_of h
  exact lv_ishr hx hb hd (hn _ _ _ _ _ _ _ h p ev s mi args below meth cd H locs ls C hP hS hL)
theorem ms_idiv {l : Launch} {g : mG} {d k : Nat} {Φ : mR → Mm → Int64 → Prop} {MC MS : Nat} {pc len a b c : Nat} {ts : List Nat} {nx : Nat → List Value → List Value → Mm → Int64 → Nat → Nat → Prop} (hn : ∀ pc L S m o c s, nx pc L S m o c s → mWB l g d k Φ MC MS pc L S m o c s) {L S : List Value} {m : Mm} {o : Int64} {cN sN : Nat}
    (hd : decode (mBy k) pc = .ok (.idiv, len)) (hln : mLnB (.idiv) len = true) (hp : mPay k pc (.idiv) a b c ts = true) (h : mStep l g d k Φ MC MS nx pc (.idiv, len, a, b, c, ts) L S m o cN sN) : mWB l g d k Φ MC MS pc L S m o cN sN := by
  intro p ev s mi args below meth cd H locs ls C hP hS hL
  obtain ⟨hx, hb, hml, hr, hlk, hown, hts, htab, htr, hW, hB⟩ := id C
  have e1 : len = 1 := Nat.eq_of_beq_eq_true hln
  subst e1
  obtain ⟨x, y, t, rfl, h0, h⟩ := m2i_of h
  exact lv_idiv hx hb hd h0 (hn _ _ _ _ _ _ _ h p ev s mi args below meth cd H locs ls C hP hS hL)
theorem ms_irem {l : Launch} {g : mG} {d k : Nat} {Φ : mR → Mm → Int64 → Prop} {MC MS : Nat} {pc len a b c : Nat} {ts : List Nat} {nx : Nat → List Value → List Value → Mm → Int64 → Nat → Nat → Prop} (hn : ∀ pc L S m o c s, nx pc L S m o c s → mWB l g d k Φ MC MS pc L S m o c s) {L S : List Value} {m : Mm} {o : Int64} {cN sN : Nat}
    (hd : decode (mBy k) pc = .ok (.irem, len)) (hln : mLnB (.irem) len = true) (hp : mPay k pc (.irem) a b c ts = true) (h : mStep l g d k Φ MC MS nx pc (.irem, len, a, b, c, ts) L S m o cN sN) : mWB l g d k Φ MC MS pc L S m o cN sN := by
  intro p ev s mi args below meth cd H locs ls C hP hS hL
  obtain ⟨hx, hb, hml, hr, hlk, hown, hts, htab, htr, hW, hB⟩ := id C
  have e1 : len = 1 := Nat.eq_of_beq_eq_true hln
  subst e1
  obtain ⟨x, y, t, rfl, h0, h⟩ := m2i_of h
  exact lv_irem hx hb hd h0 (hn _ _ _ _ _ _ _ h p ev s mi args below meth cd H locs ls C hP hS hL)
theorem ms_iushr {l : Launch} {g : mG} {d k : Nat} {Φ : mR → Mm → Int64 → Prop} {MC MS : Nat} {pc len a b c : Nat} {ts : List Nat} {nx : Nat → List Value → List Value → Mm → Int64 → Nat → Nat → Prop} (hn : ∀ pc L S m o c s, nx pc L S m o c s → mWB l g d k Φ MC MS pc L S m o c s) {L S : List Value} {m : Mm} {o : Int64} {cN sN : Nat}
    (hd : decode (mBy k) pc = .ok (.iushr, len)) (hln : mLnB (.iushr) len = true) (hp : mPay k pc (.iushr) a b c ts = true) (h : mStep l g d k Φ MC MS nx pc (.iushr, len, a, b, c, ts) L S m o cN sN) : mWB l g d k Φ MC MS pc L S m o cN sN := by
  intro p ev s mi args below meth cd H locs ls C hP hS hL
  obtain ⟨hx, hb, hml, hr, hlk, hown, hts, htab, htr, hW, hB⟩ := id C
  have e1 : len = 1 := Nat.eq_of_beq_eq_true hln
  subst e1
  obtain ⟨x, y, t, rfl, h⟩ := m2i_of h
  exact lv_iushr hx hb hd rfl (hn _ _ _ _ _ _ _ h p ev s mi args below meth cd H locs ls C hP hS hL)
theorem ms_ineg {l : Launch} {g : mG} {d k : Nat} {Φ : mR → Mm → Int64 → Prop} {MC MS : Nat} {pc len a b c : Nat} {ts : List Nat} {nx : Nat → List Value → List Value → Mm → Int64 → Nat → Nat → Prop} (hn : ∀ pc L S m o c s, nx pc L S m o c s → mWB l g d k Φ MC MS pc L S m o c s) {L S : List Value} {m : Mm} {o : Int64} {cN sN : Nat}
    (hd : decode (mBy k) pc = .ok (.ineg, len)) (hln : mLnB (.ineg) len = true) (hp : mPay k pc (.ineg) a b c ts = true) (h : mStep l g d k Φ MC MS nx pc (.ineg, len, a, b, c, ts) L S m o cN sN) : mWB l g d k Φ MC MS pc L S m o cN sN := by
  intro p ev s mi args below meth cd H locs ls C hP hS hL
  obtain ⟨hx, hb, hml, hr, hlk, hown, hts, htab, htr, hW, hB⟩ := id C
  have e1 : len = 1 := Nat.eq_of_beq_eq_true hln
  subst e1
  obtain ⟨x, t, rfl, h⟩ := m1i_of h
  exact lv_ineg hx hb hd (hn _ _ _ _ _ _ _ h p ev s mi args below meth cd H locs ls C hP hS hL)
theorem ms_ladd {l : Launch} {g : mG} {d k : Nat} {Φ : mR → Mm → Int64 → Prop} {MC MS : Nat} {pc len a b c : Nat} {ts : List Nat} {nx : Nat → List Value → List Value → Mm → Int64 → Nat → Nat → Prop} (hn : ∀ pc L S m o c s, nx pc L S m o c s → mWB l g d k Φ MC MS pc L S m o c s) {L S : List Value} {m : Mm} {o : Int64} {cN sN : Nat}
    (hd : decode (mBy k) pc = .ok (.ladd, len)) (hln : mLnB (.ladd) len = true) (hp : mPay k pc (.ladd) a b c ts = true) (h : mStep l g d k Φ MC MS nx pc (.ladd, len, a, b, c, ts) L S m o cN sN) : mWB l g d k Φ MC MS pc L S m o cN sN := by
  intro p ev s mi args below meth cd H locs ls C hP hS hL
  obtain ⟨hx, hb, hml, hr, hlk, hown, hts, htab, htr, hW, hB⟩ := id C
  have e1 : len = 1 := Nat.eq_of_beq_eq_true hln
  subst e1
  obtain ⟨x, y, t, rfl, h⟩ := m2l_of h
  exact lv_ladd hx hb hd (hn _ _ _ _ _ _ _ h p ev s mi args below meth cd H locs ls C hP hS hL)
theorem ms_lsub {l : Launch} {g : mG} {d k : Nat} {Φ : mR → Mm → Int64 → Prop} {MC MS : Nat} {pc len a b c : Nat} {ts : List Nat} {nx : Nat → List Value → List Value → Mm → Int64 → Nat → Nat → Prop} (hn : ∀ pc L S m o c s, nx pc L S m o c s → mWB l g d k Φ MC MS pc L S m o c s) {L S : List Value} {m : Mm} {o : Int64} {cN sN : Nat}
    (hd : decode (mBy k) pc = .ok (.lsub, len)) (hln : mLnB (.lsub) len = true) (hp : mPay k pc (.lsub) a b c ts = true) (h : mStep l g d k Φ MC MS nx pc (.lsub, len, a, b, c, ts) L S m o cN sN) : mWB l g d k Φ MC MS pc L S m o cN sN := by
  intro p ev s mi args below meth cd H locs ls C hP hS hL
  obtain ⟨hx, hb, hml, hr, hlk, hown, hts, htab, htr, hW, hB⟩ := id C
  have e1 : len = 1 := Nat.eq_of_beq_eq_true hln
  subst e1
  obtain ⟨x, y, t, rfl, h⟩ := m2l_of h
  exact lv_lsub hx hb hd (hn _ _ _ _ _ _ _ h p ev s mi args below meth cd H locs ls C hP hS hL)
theorem ms_lmul {l : Launch} {g : mG} {d k : Nat} {Φ : mR → Mm → Int64 → Prop} {MC MS : Nat} {pc len a b c : Nat} {ts : List Nat} {nx : Nat → List Value → List Value → Mm → Int64 → Nat → Nat → Prop} (hn : ∀ pc L S m o c s, nx pc L S m o c s → mWB l g d k Φ MC MS pc L S m o c s) {L S : List Value} {m : Mm} {o : Int64} {cN sN : Nat}
    (hd : decode (mBy k) pc = .ok (.lmul, len)) (hln : mLnB (.lmul) len = true) (hp : mPay k pc (.lmul) a b c ts = true) (h : mStep l g d k Φ MC MS nx pc (.lmul, len, a, b, c, ts) L S m o cN sN) : mWB l g d k Φ MC MS pc L S m o cN sN := by
  intro p ev s mi args below meth cd H locs ls C hP hS hL
  obtain ⟨hx, hb, hml, hr, hlk, hown, hts, htab, htr, hW, hB⟩ := id C
  have e1 : len = 1 := Nat.eq_of_beq_eq_true hln
  subst e1
  obtain ⟨x, y, t, rfl, h⟩ := m2l_of h
  exact lv_lmul hx hb hd (hn _ _ _ _ _ _ _ h p ev s mi args below meth cd H locs ls C hP hS hL)
theorem ms_land {l : Launch} {g : mG} {d k : Nat} {Φ : mR → Mm → Int64 → Prop} {MC MS : Nat} {pc len a b c : Nat} {ts : List Nat} {nx : Nat → List Value → List Value → Mm → Int64 → Nat → Nat → Prop} (hn : ∀ pc L S m o c s, nx pc L S m o c s → mWB l g d k Φ MC MS pc L S m o c s) {L S : List Value} {m : Mm} {o : Int64} {cN sN : Nat}
    (hd : decode (mBy k) pc = .ok (.land, len)) (hln : mLnB (.land) len = true) (hp : mPay k pc (.land) a b c ts = true) (h : mStep l g d k Φ MC MS nx pc (.land, len, a, b, c, ts) L S m o cN sN) : mWB l g d k Φ MC MS pc L S m o cN sN := by
  intro p ev s mi args below meth cd H locs ls C hP hS hL
  obtain ⟨hx, hb, hml, hr, hlk, hown, hts, htab, htr, hW, hB⟩ := id C
  have e1 : len = 1 := Nat.eq_of_beq_eq_true hln
  subst e1
  obtain ⟨x, y, t, rfl, h⟩ := m2l_of h
  exact lv_land hx hb hd (hn _ _ _ _ _ _ _ h p ev s mi args below meth cd H locs ls C hP hS hL)
theorem ms_lor {l : Launch} {g : mG} {d k : Nat} {Φ : mR → Mm → Int64 → Prop} {MC MS : Nat} {pc len a b c : Nat} {ts : List Nat} {nx : Nat → List Value → List Value → Mm → Int64 → Nat → Nat → Prop} (hn : ∀ pc L S m o c s, nx pc L S m o c s → mWB l g d k Φ MC MS pc L S m o c s) {L S : List Value} {m : Mm} {o : Int64} {cN sN : Nat}
    (hd : decode (mBy k) pc = .ok (.lor, len)) (hln : mLnB (.lor) len = true) (hp : mPay k pc (.lor) a b c ts = true) (h : mStep l g d k Φ MC MS nx pc (.lor, len, a, b, c, ts) L S m o cN sN) : mWB l g d k Φ MC MS pc L S m o cN sN := by
  intro p ev s mi args below meth cd H locs ls C hP hS hL
  obtain ⟨hx, hb, hml, hr, hlk, hown, hts, htab, htr, hW, hB⟩ := id C
  have e1 : len = 1 := Nat.eq_of_beq_eq_true hln
  subst e1
  obtain ⟨x, y, t, rfl, h⟩ := m2l_of h
  exact lv_lor hx hb hd (hn _ _ _ _ _ _ _ h p ev s mi args below meth cd H locs ls C hP hS hL)
theorem ms_ldiv {l : Launch} {g : mG} {d k : Nat} {Φ : mR → Mm → Int64 → Prop} {MC MS : Nat} {pc len a b c : Nat} {ts : List Nat} {nx : Nat → List Value → List Value → Mm → Int64 → Nat → Nat → Prop} (hn : ∀ pc L S m o c s, nx pc L S m o c s → mWB l g d k Φ MC MS pc L S m o c s) {L S : List Value} {m : Mm} {o : Int64} {cN sN : Nat}
    (hd : decode (mBy k) pc = .ok (.ldiv, len)) (hln : mLnB (.ldiv) len = true) (hp : mPay k pc (.ldiv) a b c ts = true) (h : mStep l g d k Φ MC MS nx pc (.ldiv, len, a, b, c, ts) L S m o cN sN) : mWB l g d k Φ MC MS pc L S m o cN sN := by
  intro p ev s mi args below meth cd H locs ls C hP hS hL
  obtain ⟨hx, hb, hml, hr, hlk, hown, hts, htab, htr, hW, hB⟩ := id C
  have e1 : len = 1 := Nat.eq_of_beq_eq_true hln
  subst e1
  obtain ⟨x, y, t, rfl, h0, h⟩ := m2l_of h
  exact lv_ldiv hx hb hd h0 (hn _ _ _ _ _ _ _ h p ev s mi args below meth cd H locs ls C hP hS hL)
theorem ms_lrem {l : Launch} {g : mG} {d k : Nat} {Φ : mR → Mm → Int64 → Prop} {MC MS : Nat} {pc len a b c : Nat} {ts : List Nat} {nx : Nat → List Value → List Value → Mm → Int64 → Nat → Nat → Prop} (hn : ∀ pc L S m o c s, nx pc L S m o c s → mWB l g d k Φ MC MS pc L S m o c s) {L S : List Value} {m : Mm} {o : Int64} {cN sN : Nat}
    (hd : decode (mBy k) pc = .ok (.lrem, len)) (hln : mLnB (.lrem) len = true) (hp : mPay k pc (.lrem) a b c ts = true) (h : mStep l g d k Φ MC MS nx pc (.lrem, len, a, b, c, ts) L S m o cN sN) : mWB l g d k Φ MC MS pc L S m o cN sN := by
  intro p ev s mi args below meth cd H locs ls C hP hS hL
  obtain ⟨hx, hb, hml, hr, hlk, hown, hts, htab, htr, hW, hB⟩ := id C
  have e1 : len = 1 := Nat.eq_of_beq_eq_true hln
  subst e1
  obtain ⟨x, y, t, rfl, h0, h⟩ := m2l_of h
  exact lv_lrem hx hb hd h0 (hn _ _ _ _ _ _ _ h p ev s mi args below meth cd H locs ls C hP hS hL)
theorem ms_lshl {l : Launch} {g : mG} {d k : Nat} {Φ : mR → Mm → Int64 → Prop} {MC MS : Nat} {pc len a b c : Nat} {ts : List Nat} {nx : Nat → List Value → List Value → Mm → Int64 → Nat → Nat → Prop} (hn : ∀ pc L S m o c s, nx pc L S m o c s → mWB l g d k Φ MC MS pc L S m o c s) {L S : List Value} {m : Mm} {o : Int64} {cN sN : Nat}
    (hd : decode (mBy k) pc = .ok (.lshl, len)) (hln : mLnB (.lshl) len = true) (hp : mPay k pc (.lshl) a b c ts = true) (h : mStep l g d k Φ MC MS nx pc (.lshl, len, a, b, c, ts) L S m o cN sN) : mWB l g d k Φ MC MS pc L S m o cN sN := by
  intro p ev s mi args below meth cd H locs ls C hP hS hL
  obtain ⟨hx, hb, hml, hr, hlk, hown, hts, htab, htr, hW, hB⟩ := id C
  have e1 : len = 1 := Nat.eq_of_beq_eq_true hln
  subst e1
  obtain ⟨x, y, t, rfl, h⟩ := mIL_of h
  exact lv_lshl hx hb hd rfl (hn _ _ _ _ _ _ _ h p ev s mi args below meth cd H locs ls C hP hS hL)
theorem ms_lshr {l : Launch} {g : mG} {d k : Nat} {Φ : mR → Mm → Int64 → Prop} {MC MS : Nat} {pc len a b c : Nat} {ts : List Nat} {nx : Nat → List Value → List Value → Mm → Int64 → Nat → Nat → Prop} (hn : ∀ pc L S m o c s, nx pc L S m o c s → mWB l g d k Φ MC MS pc L S m o c s) {L S : List Value} {m : Mm} {o : Int64} {cN sN : Nat}
    (hd : decode (mBy k) pc = .ok (.lshr, len)) (hln : mLnB (.lshr) len = true) (hp : mPay k pc (.lshr) a b c ts = true) (h : mStep l g d k Φ MC MS nx pc (.lshr, len, a, b, c, ts) L S m o cN sN) : mWB l g d k Φ MC MS pc L S m o cN sN := by
  intro p ev s mi args below meth cd H locs ls C hP hS hL
  obtain ⟨hx, hb, hml, hr, hlk, hown, hts, htab, htr, hW, hB⟩ := id C
  have e1 : len = 1 := Nat.eq_of_beq_eq_true hln
  subst e1
  obtain ⟨x, y, t, rfl, h⟩ := mIL_of h
  exact lv_lshr hx hb hd rfl (hn _ _ _ _ _ _ _ h p ev s mi args below meth cd H locs ls C hP hS hL)
theorem ms_lcmp {l : Launch} {g : mG} {d k : Nat} {Φ : mR → Mm → Int64 → Prop} {MC MS : Nat} {pc len a b c : Nat} {ts : List Nat} {nx : Nat → List Value → List Value → Mm → Int64 → Nat → Nat → Prop} (hn : ∀ pc L S m o c s, nx pc L S m o c s → mWB l g d k Φ MC MS pc L S m o c s) {L S : List Value} {m : Mm} {o : Int64} {cN sN : Nat}
    (hd : decode (mBy k) pc = .ok (.lcmp, len)) (hln : mLnB (.lcmp) len = true) (hp : mPay k pc (.lcmp) a b c ts = true) (h : mStep l g d k Φ MC MS nx pc (.lcmp, len, a, b, c, ts) L S m o cN sN) : mWB l g d k Φ MC MS pc L S m o cN sN := by
  intro p ev s mi args below meth cd H locs ls C hP hS hL
  obtain ⟨hx, hb, hml, hr, hlk, hown, hts, htab, htr, hW, hB⟩ := id C
  have e1 : len = 1 := Nat.eq_of_beq_eq_true hln
  subst e1
  obtain ⟨x, y, t, rfl, h⟩ := m2l_of h
  exact W.lcmp hx hb hd (hn _ _ _ _ _ _ _ h p ev s mi args below meth cd H locs ls C hP hS hL)
theorem ms_i2l {l : Launch} {g : mG} {d k : Nat} {Φ : mR → Mm → Int64 → Prop} {MC MS : Nat} {pc len a b c : Nat} {ts : List Nat} {nx : Nat → List Value → List Value → Mm → Int64 → Nat → Nat → Prop} (hn : ∀ pc L S m o c s, nx pc L S m o c s → mWB l g d k Φ MC MS pc L S m o c s) {L S : List Value} {m : Mm} {o : Int64} {cN sN : Nat}
    (hd : decode (mBy k) pc = .ok (.i2l, len)) (hln : mLnB (.i2l) len = true) (hp : mPay k pc (.i2l) a b c ts = true) (h : mStep l g d k Φ MC MS nx pc (.i2l, len, a, b, c, ts) L S m o cN sN) : mWB l g d k Φ MC MS pc L S m o cN sN := by
  intro p ev s mi args below meth cd H locs ls C hP hS hL
  obtain ⟨hx, hb, hml, hr, hlk, hown, hts, htab, htr, hW, hB⟩ := id C
  have e1 : len = 1 := Nat.eq_of_beq_eq_true hln
  subst e1
  obtain ⟨x, t, rfl, h⟩ := m1i_of h
  exact lv_i2l hx hb hd rfl (hn _ _ _ _ _ _ _ h p ev s mi args below meth cd H locs ls C hP hS hL)
theorem ms_l2i {l : Launch} {g : mG} {d k : Nat} {Φ : mR → Mm → Int64 → Prop} {MC MS : Nat} {pc len a b c : Nat} {ts : List Nat} {nx : Nat → List Value → List Value → Mm → Int64 → Nat → Nat → Prop} (hn : ∀ pc L S m o c s, nx pc L S m o c s → mWB l g d k Φ MC MS pc L S m o c s) {L S : List Value} {m : Mm} {o : Int64} {cN sN : Nat}
    (hd : decode (mBy k) pc = .ok (.l2i, len)) (hln : mLnB (.l2i) len = true) (hp : mPay k pc (.l2i) a b c ts = true) (h : mStep l g d k Φ MC MS nx pc (.l2i, len, a, b, c, ts) L S m o cN sN) : mWB l g d k Φ MC MS pc L S m o cN sN := by
  intro p ev s mi args below meth cd H locs ls C hP hS hL
  obtain ⟨hx, hb, hml, hr, hlk, hown, hts, htab, htr, hW, hB⟩ := id C
  have e1 : len = 1 := Nat.eq_of_beq_eq_true hln
  subst e1
  obtain ⟨x, t, rfl, h⟩ := m1l_of h
  exact lv_l2i hx hb hd rfl (hn _ _ _ _ _ _ _ h p ev s mi args below meth cd H locs ls C hP hS hL)
theorem ms_iconst {l : Launch} {g : mG} {d k : Nat} {Φ : mR → Mm → Int64 → Prop} {MC MS : Nat} {pc len a b c : Nat} {ts : List Nat} {nx : Nat → List Value → List Value → Mm → Int64 → Nat → Nat → Prop} (hn : ∀ pc L S m o c s, nx pc L S m o c s → mWB l g d k Φ MC MS pc L S m o c s) {L S : List Value} {m : Mm} {o : Int64} {cN sN : Nat} {n : Int}
    (hd : decode (mBy k) pc = .ok (.iconst n, len)) (hln : mLnB (.iconst n) len = true) (hp : mPay k pc (.iconst n) a b c ts = true) (h : mStep l g d k Φ MC MS nx pc (.iconst n, len, a, b, c, ts) L S m o cN sN) : mWB l g d k Φ MC MS pc L S m o cN sN := by
  intro p ev s mi args below meth cd H locs ls C hP hS hL
  obtain ⟨hx, hb, hml, hr, hlk, hown, hts, htab, htr, hW, hB⟩ := id C
  have e1 : len = 1 := Nat.eq_of_beq_eq_true hln
  subst e1
  exact lv_iconst hx hb hd (of_decide_eq_true hp) (hn _ _ _ _ _ _ _ h p ev s mi args below meth cd H locs ls C hP hS hL)
theorem ms_bipush {l : Launch} {g : mG} {d k : Nat} {Φ : mR → Mm → Int64 → Prop} {MC MS : Nat} {pc len a b c : Nat} {ts : List Nat} {nx : Nat → List Value → List Value → Mm → Int64 → Nat → Nat → Prop} (hn : ∀ pc L S m o c s, nx pc L S m o c s → mWB l g d k Φ MC MS pc L S m o c s) {L S : List Value} {m : Mm} {o : Int64} {cN sN : Nat} {n : Int}
    (hd : decode (mBy k) pc = .ok (.bipush n, len)) (hln : mLnB (.bipush n) len = true) (hp : mPay k pc (.bipush n) a b c ts = true) (h : mStep l g d k Φ MC MS nx pc (.bipush n, len, a, b, c, ts) L S m o cN sN) : mWB l g d k Φ MC MS pc L S m o cN sN := by
  intro p ev s mi args below meth cd H locs ls C hP hS hL
  obtain ⟨hx, hb, hml, hr, hlk, hown, hts, htab, htr, hW, hB⟩ := id C
  have e1 : len = 2 := Nat.eq_of_beq_eq_true hln
  subst e1
  exact lv_bipush hx hb hd (of_decide_eq_true hp) (hn _ _ _ _ _ _ _ h p ev s mi args below meth cd H locs ls C hP hS hL)
theorem ms_sipush {l : Launch} {g : mG} {d k : Nat} {Φ : mR → Mm → Int64 → Prop} {MC MS : Nat} {pc len a b c : Nat} {ts : List Nat} {nx : Nat → List Value → List Value → Mm → Int64 → Nat → Nat → Prop} (hn : ∀ pc L S m o c s, nx pc L S m o c s → mWB l g d k Φ MC MS pc L S m o c s) {L S : List Value} {m : Mm} {o : Int64} {cN sN : Nat} {n : Int}
    (hd : decode (mBy k) pc = .ok (.sipush n, len)) (hln : mLnB (.sipush n) len = true) (hp : mPay k pc (.sipush n) a b c ts = true) (h : mStep l g d k Φ MC MS nx pc (.sipush n, len, a, b, c, ts) L S m o cN sN) : mWB l g d k Φ MC MS pc L S m o cN sN := by
  intro p ev s mi args below meth cd H locs ls C hP hS hL
  obtain ⟨hx, hb, hml, hr, hlk, hown, hts, htab, htr, hW, hB⟩ := id C
  have e1 : len = 3 := Nat.eq_of_beq_eq_true hln
  subst e1
  exact lv_sipush hx hb hd (of_decide_eq_true hp) (hn _ _ _ _ _ _ _ h p ev s mi args below meth cd H locs ls C hP hS hL)
theorem ms_lconst {l : Launch} {g : mG} {d k : Nat} {Φ : mR → Mm → Int64 → Prop} {MC MS : Nat} {pc len a b c : Nat} {ts : List Nat} {nx : Nat → List Value → List Value → Mm → Int64 → Nat → Nat → Prop} (hn : ∀ pc L S m o c s, nx pc L S m o c s → mWB l g d k Φ MC MS pc L S m o c s) {L S : List Value} {m : Mm} {o : Int64} {cN sN : Nat} {n : Fin 2}
    (hd : decode (mBy k) pc = .ok (.lconst n, len)) (hln : mLnB (.lconst n) len = true) (hp : mPay k pc (.lconst n) a b c ts = true) (h : mStep l g d k Φ MC MS nx pc (.lconst n, len, a, b, c, ts) L S m o cN sN) : mWB l g d k Φ MC MS pc L S m o cN sN := by
  intro p ev s mi args below meth cd H locs ls C hP hS hL
  obtain ⟨hx, hb, hml, hr, hlk, hown, hts, htab, htr, hW, hB⟩ := id C
  have e1 : len = 1 := Nat.eq_of_beq_eq_true hln
  subst e1
  exact lv_lconst hx hb hd rfl (hn _ _ _ _ _ _ _ h p ev s mi args below meth cd H locs ls C hP hS hL)
theorem ms_aconst_null {l : Launch} {g : mG} {d k : Nat} {Φ : mR → Mm → Int64 → Prop} {MC MS : Nat} {pc len a b c : Nat} {ts : List Nat} {nx : Nat → List Value → List Value → Mm → Int64 → Nat → Nat → Prop} (hn : ∀ pc L S m o c s, nx pc L S m o c s → mWB l g d k Φ MC MS pc L S m o c s) {L S : List Value} {m : Mm} {o : Int64} {cN sN : Nat}
    (hd : decode (mBy k) pc = .ok (.aconst_null, len)) (hln : mLnB (.aconst_null) len = true) (hp : mPay k pc (.aconst_null) a b c ts = true) (h : mStep l g d k Φ MC MS nx pc (.aconst_null, len, a, b, c, ts) L S m o cN sN) : mWB l g d k Φ MC MS pc L S m o cN sN := by
  intro p ev s mi args below meth cd H locs ls C hP hS hL
  obtain ⟨hx, hb, hml, hr, hlk, hown, hts, htab, htr, hW, hB⟩ := id C
  have e1 : len = 1 := Nat.eq_of_beq_eq_true hln
  subst e1
  exact lv_null hx hb hd (hn _ _ _ _ _ _ _ h p ev s mi args below meth cd H locs ls C hP hS hL)
theorem ms_iload {l : Launch} {g : mG} {d k : Nat} {Φ : mR → Mm → Int64 → Prop} {MC MS : Nat} {pc len a b c : Nat} {ts : List Nat} {nx : Nat → List Value → List Value → Mm → Int64 → Nat → Nat → Prop} (hn : ∀ pc L S m o c s, nx pc L S m o c s → mWB l g d k Φ MC MS pc L S m o c s) {L S : List Value} {m : Mm} {o : Int64} {cN sN : Nat} {i : Nat}
    (hd : decode (mBy k) pc = .ok (.iload i, len)) (hln : mLnB (.iload i) len = true) (hp : mPay k pc (.iload i) a b c ts = true) (h : mStep l g d k Φ MC MS nx pc (.iload i, len, a, b, c, ts) L S m o cN sN) : mWB l g d k Φ MC MS pc L S m o cN sN := by
  intro p ev s mi args below meth cd H locs ls C hP hS hL
  obtain ⟨hx, hb, hml, hr, hlk, hown, hts, htab, htr, hW, hB⟩ := id C
  have e1 : len = 2 := Nat.eq_of_beq_eq_true hln
  subst e1
  obtain ⟨x, q, h⟩ := mGi_of h
  exact lv_iload hx hb hd (mLv_get hL q (mJ_i x)) (hn _ _ _ _ _ _ _ h p ev s mi args below meth cd H locs ls C hP hS hL)
theorem ms_iload_n {l : Launch} {g : mG} {d k : Nat} {Φ : mR → Mm → Int64 → Prop} {MC MS : Nat} {pc len a b c : Nat} {ts : List Nat} {nx : Nat → List Value → List Value → Mm → Int64 → Nat → Nat → Prop} (hn : ∀ pc L S m o c s, nx pc L S m o c s → mWB l g d k Φ MC MS pc L S m o c s) {L S : List Value} {m : Mm} {o : Int64} {cN sN : Nat} {i : Fin 4}
    (hd : decode (mBy k) pc = .ok (.iload_n i, len)) (hln : mLnB (.iload_n i) len = true) (hp : mPay k pc (.iload_n i) a b c ts = true) (h : mStep l g d k Φ MC MS nx pc (.iload_n i, len, a, b, c, ts) L S m o cN sN) : mWB l g d k Φ MC MS pc L S m o cN sN := by
  intro p ev s mi args below meth cd H locs ls C hP hS hL
  obtain ⟨hx, hb, hml, hr, hlk, hown, hts, htab, htr, hW, hB⟩ := id C
  have e1 : len = 1 := Nat.eq_of_beq_eq_true hln
  subst e1
  obtain ⟨x, q, h⟩ := mGi_of h
  exact lv_iload_n hx hb hd rfl (mLv_get hL q (mJ_i x)) (hn _ _ _ _ _ _ _ h p ev s mi args below meth cd H locs ls C hP hS hL)
theorem ms_lload {l : Launch} {g : mG} {d k : Nat} {Φ : mR → Mm → Int64 → Prop} {MC MS : Nat} {pc len a b c : Nat} {ts : List Nat} {nx : Nat → List Value → List Value → Mm → Int64 → Nat → Nat → Prop} (hn : ∀ pc L S m o c s, nx pc L S m o c s → mWB l g d k Φ MC MS pc L S m o c s) {L S : List Value} {m : Mm} {o : Int64} {cN sN : Nat} {i : Nat}
    (hd : decode (mBy k) pc = .ok (.lload i, len)) (hln : mLnB (.lload i) len = true) (hp : mPay k pc (.lload i) a b c ts = true) (h : mStep l g d k Φ MC MS nx pc (.lload i, len, a, b, c, ts) L S m o cN sN) : mWB l g d k Φ MC MS pc L S m o cN sN := by
  intro p ev s mi args below meth cd H locs ls C hP hS hL
  obtain ⟨hx, hb, hml, hr, hlk, hown, hts, htab, htr, hW, hB⟩ := id C
  have e1 : len = 2 := Nat.eq_of_beq_eq_true hln
  subst e1
  obtain ⟨x, q, h⟩ := mGl_of h
  exact lv_lload hx hb hd (mLv_get hL q (mJ_l x)) (hn _ _ _ _ _ _ _ h p ev s mi args below meth cd H locs ls C hP hS hL)
theorem ms_lload_n {l : Launch} {g : mG} {d k : Nat} {Φ : mR → Mm → Int64 → Prop} {MC MS : Nat} {pc len a b c : Nat} {ts : List Nat} {nx : Nat → List Value → List Value → Mm → Int64 → Nat → Nat → Prop} (hn : ∀ pc L S m o c s, nx pc L S m o c s → mWB l g d k Φ MC MS pc L S m o c s) {L S : List Value} {m : Mm} {o : Int64} {cN sN : Nat} {i : Fin 4}
    (hd : decode (mBy k) pc = .ok (.lload_n i, len)) (hln : mLnB (.lload_n i) len = true) (hp : mPay k pc (.lload_n i) a b c ts = true) (h : mStep l g d k Φ MC MS nx pc (.lload_n i, len, a, b, c, ts) L S m o cN sN) : mWB l g d k Φ MC MS pc L S m o cN sN := by
  intro p ev s mi args below meth cd H locs ls C hP hS hL
  obtain ⟨hx, hb, hml, hr, hlk, hown, hts, htab, htr, hW, hB⟩ := id C
  have e1 : len = 1 := Nat.eq_of_beq_eq_true hln
  subst e1
  obtain ⟨x, q, h⟩ := mGl_of h
  exact lv_lload_n hx hb hd rfl (mLv_get hL q (mJ_l x)) (hn _ _ _ _ _ _ _ h p ev s mi args below meth cd H locs ls C hP hS hL)
theorem ms_aload {l : Launch} {g : mG} {d k : Nat} {Φ : mR → Mm → Int64 → Prop} {MC MS : Nat} {pc len a b c : Nat} {ts : List Nat} {nx : Nat → List Value → List Value → Mm → Int64 → Nat → Nat → Prop} (hn : ∀ pc L S m o c s, nx pc L S m o c s → mWB l g d k Φ MC MS pc L S m o c s) {L S : List Value} {m : Mm} {o : Int64} {cN sN : Nat} {i : Nat}
    (hd : decode (mBy k) pc = .ok (.aload i, len)) (hln : mLnB (.aload i) len = true) (hp : mPay k pc (.aload i) a b c ts = true) (h : mStep l g d k Φ MC MS nx pc (.aload i, len, a, b, c, ts) L S m o cN sN) : mWB l g d k Φ MC MS pc L S m o cN sN := by
  intro p ev s mi args below meth cd H locs ls C hP hS hL
  obtain ⟨hx, hb, hml, hr, hlk, hown, hts, htab, htr, hW, hB⟩ := id C
  have e1 : len = 2 := Nat.eq_of_beq_eq_true hln
  subst e1
  have h : mGr L i (fun v => nx (pc + 2) L (v :: S) m o cN sN) := h
  rcases mGr_of h with ⟨x, q, h⟩ | ⟨q, h⟩
  · exact lv_aload hx hb hd (mLv_get hL q (mJ_r x)) (hn _ _ _ _ _ _ _ h p ev s mi args below meth cd H locs ls C hP hS hL)
  · exact lv_aloadN hx hb hd (mLv_get hL q mJ_n) (hn _ _ _ _ _ _ _ h p ev s mi args below meth cd H locs ls C hP hS hL)
theorem ms_aload_n {l : Launch} {g : mG} {d k : Nat} {Φ : mR → Mm → Int64 → Prop} {MC MS : Nat} {pc len a b c : Nat} {ts : List Nat} {nx : Nat → List Value → List Value → Mm → Int64 → Nat → Nat → Prop} (hn : ∀ pc L S m o c s, nx pc L S m o c s → mWB l g d k Φ MC MS pc L S m o c s) {L S : List Value} {m : Mm} {o : Int64} {cN sN : Nat} {i : Fin 4}
    (hd : decode (mBy k) pc = .ok (.aload_n i, len)) (hln : mLnB (.aload_n i) len = true) (hp : mPay k pc (.aload_n i) a b c ts = true) (h : mStep l g d k Φ MC MS nx pc (.aload_n i, len, a, b, c, ts) L S m o cN sN) : mWB l g d k Φ MC MS pc L S m o cN sN := by
  intro p ev s mi args below meth cd H locs ls C hP hS hL
  obtain ⟨hx, hb, hml, hr, hlk, hown, hts, htab, htr, hW, hB⟩ := id C
  have e1 : len = 1 := Nat.eq_of_beq_eq_true hln
  subst e1
  have h : mGr L i (fun v => nx (pc + 1) L (v :: S) m o cN sN) := h
  rcases mGr_of h with ⟨x, q, h⟩ | ⟨q, h⟩
  · exact lv_aload_n hx hb hd rfl (mLv_get hL q (mJ_r x)) (hn _ _ _ _ _ _ _ h p ev s mi args below meth cd H locs ls C hP hS hL)
  · exact lv_aload_nN hx hb hd rfl (mLv_get hL q mJ_n) (hn _ _ _ _ _ _ _ h p ev s mi args below meth cd H locs ls C hP hS hL)
theorem ms_istore {l : Launch} {g : mG} {d k : Nat} {Φ : mR → Mm → Int64 → Prop} {MC MS : Nat} {pc len a b c : Nat} {ts : List Nat} {nx : Nat → List Value → List Value → Mm → Int64 → Nat → Nat → Prop} (hn : ∀ pc L S m o c s, nx pc L S m o c s → mWB l g d k Φ MC MS pc L S m o c s) {L S : List Value} {m : Mm} {o : Int64} {cN sN : Nat} {i : Nat}
    (hd : decode (mBy k) pc = .ok (.istore i, len)) (hln : mLnB (.istore i) len = true) (hp : mPay k pc (.istore i) a b c ts = true) (h : mStep l g d k Φ MC MS nx pc (.istore i, len, a, b, c, ts) L S m o cN sN) : mWB l g d k Φ MC MS pc L S m o cN sN := by
  intro p ev s mi args below meth cd H locs ls C hP hS hL
  obtain ⟨hx, hb, hml, hr, hlk, hown, hts, htab, htr, hW, hB⟩ := id C
  have e1 : len = 2 := Nat.eq_of_beq_eq_true hln
  subst e1
  obtain ⟨x, t, rfl, h⟩ := m1i_of h
  exact lv_istore hx hb hd hL (of_decide_eq_true hp) rfl (fun ls1 hl1 => hn _ _ _ _ _ _ _ h p ev s mi args below meth cd H locs ls1 C hP hS (mSto_has (v := .int x) hl1))
theorem ms_istore_n {l : Launch} {g : mG} {d k : Nat} {Φ : mR → Mm → Int64 → Prop} {MC MS : Nat} {pc len a b c : Nat} {ts : List Nat} {nx : Nat → List Value → List Value → Mm → Int64 → Nat → Nat → Prop} (hn : ∀ pc L S m o c s, nx pc L S m o c s → mWB l g d k Φ MC MS pc L S m o c s) {L S : List Value} {m : Mm} {o : Int64} {cN sN : Nat} {i : Fin 4}
    (hd : decode (mBy k) pc = .ok (.istore_n i, len)) (hln : mLnB (.istore_n i) len = true) (hp : mPay k pc (.istore_n i) a b c ts = true) (h : mStep l g d k Φ MC MS nx pc (.istore_n i, len, a, b, c, ts) L S m o cN sN) : mWB l g d k Φ MC MS pc L S m o cN sN := by
  intro p ev s mi args below meth cd H locs ls C hP hS hL
  obtain ⟨hx, hb, hml, hr, hlk, hown, hts, htab, htr, hW, hB⟩ := id C
  have e1 : len = 1 := Nat.eq_of_beq_eq_true hln
  subst e1
  obtain ⟨x, t, rfl, h⟩ := m1i_of h
  exact lv_istore_n hx hb hd rfl hL (of_decide_eq_true hp) rfl (fun ls1 hl1 => hn _ _ _ _ _ _ _ h p ev s mi args below meth cd H locs ls1 C hP hS (mSto_has (v := .int x) hl1))
theorem ms_astore {l : Launch} {g : mG} {d k : Nat} {Φ : mR → Mm → Int64 → Prop} {MC MS : Nat} {pc len a b c : Nat} {ts : List Nat} {nx : Nat → List Value → List Value → Mm → Int64 → Nat → Nat → Prop} (hn : ∀ pc L S m o c s, nx pc L S m o c s → mWB l g d k Φ MC MS pc L S m o c s) {L S : List Value} {m : Mm} {o : Int64} {cN sN : Nat} {i : Nat}
    (hd : decode (mBy k) pc = .ok (.astore i, len)) (hln : mLnB (.astore i) len = true) (hp : mPay k pc (.astore i) a b c ts = true) (h : mStep l g d k Φ MC MS nx pc (.astore i, len, a, b, c, ts) L S m o cN sN) : mWB l g d k Φ MC MS pc L S m o cN sN := by
  intro p ev s mi args below meth cd H locs ls C hP hS hL
  obtain ⟨hx, hb, hml, hr, hlk, hown, hts, htab, htr, hW, hB⟩ := id C
  have e1 : len = 2 := Nat.eq_of_beq_eq_true hln
  subst e1
  obtain ⟨x, t, rfl, h⟩ := m1r_of h
  exact lv_astore hx hb hd hL (of_decide_eq_true hp) rfl (fun ls1 hl1 => hn _ _ _ _ _ _ _ h p ev s mi args below meth cd H locs ls1 C hP hS (mSto_has (v := .ref x) hl1))
theorem ms_astore_n {l : Launch} {g : mG} {d k : Nat} {Φ : mR → Mm → Int64 → Prop} {MC MS : Nat} {pc len a b c : Nat} {ts : List Nat} {nx : Nat → List Value → List Value → Mm → Int64 → Nat → Nat → Prop} (hn : ∀ pc L S m o c s, nx pc L S m o c s → mWB l g d k Φ MC MS pc L S m o c s) {L S : List Value} {m : Mm} {o : Int64} {cN sN : Nat} {i : Fin 4}
    (hd : decode (mBy k) pc = .ok (.astore_n i, len)) (hln : mLnB (.astore_n i) len = true) (hp : mPay k pc (.astore_n i) a b c ts = true) (h : mStep l g d k Φ MC MS nx pc (.astore_n i, len, a, b, c, ts) L S m o cN sN) : mWB l g d k Φ MC MS pc L S m o cN sN := by
  intro p ev s mi args below meth cd H locs ls C hP hS hL
  obtain ⟨hx, hb, hml, hr, hlk, hown, hts, htab, htr, hW, hB⟩ := id C
  have e1 : len = 1 := Nat.eq_of_beq_eq_true hln
  subst e1
  obtain ⟨x, t, rfl, h⟩ := m1r_of h
  exact lv_astore_n hx hb hd rfl hL (of_decide_eq_true hp) rfl (fun ls1 hl1 => hn _ _ _ _ _ _ _ h p ev s mi args below meth cd H locs ls1 C hP hS (mSto_has (v := .ref x) hl1))
theorem ms_lstore {l : Launch} {g : mG} {d k : Nat} {Φ : mR → Mm → Int64 → Prop} {MC MS : Nat} {pc len a b c : Nat} {ts : List Nat} {nx : Nat → List Value → List Value → Mm → Int64 → Nat → Nat → Prop} (hn : ∀ pc L S m o c s, nx pc L S m o c s → mWB l g d k Φ MC MS pc L S m o c s) {L S : List Value} {m : Mm} {o : Int64} {cN sN : Nat} {i : Nat}
    (hd : decode (mBy k) pc = .ok (.lstore i, len)) (hln : mLnB (.lstore i) len = true) (hp : mPay k pc (.lstore i) a b c ts = true) (h : mStep l g d k Φ MC MS nx pc (.lstore i, len, a, b, c, ts) L S m o cN sN) : mWB l g d k Φ MC MS pc L S m o cN sN := by
  intro p ev s mi args below meth cd H locs ls C hP hS hL
  obtain ⟨hx, hb, hml, hr, hlk, hown, hts, htab, htr, hW, hB⟩ := id C
  have e1 : len = 2 := Nat.eq_of_beq_eq_true hln
  subst e1
  obtain ⟨x, t, rfl, h⟩ := m1l_of h
  exact lv_lstore hx hb hd hL (of_decide_eq_true hp) rfl (fun ls1 hl1 => hn _ _ _ _ _ _ _ h p ev s mi args below meth cd H locs ls1 C hP hS (mSto2_has (v := .long x) hl1))
theorem ms_lstore_n {l : Launch} {g : mG} {d k : Nat} {Φ : mR → Mm → Int64 → Prop} {MC MS : Nat} {pc len a b c : Nat} {ts : List Nat} {nx : Nat → List Value → List Value → Mm → Int64 → Nat → Nat → Prop} (hn : ∀ pc L S m o c s, nx pc L S m o c s → mWB l g d k Φ MC MS pc L S m o c s) {L S : List Value} {m : Mm} {o : Int64} {cN sN : Nat} {i : Fin 4}
    (hd : decode (mBy k) pc = .ok (.lstore_n i, len)) (hln : mLnB (.lstore_n i) len = true) (hp : mPay k pc (.lstore_n i) a b c ts = true) (h : mStep l g d k Φ MC MS nx pc (.lstore_n i, len, a, b, c, ts) L S m o cN sN) : mWB l g d k Φ MC MS pc L S m o cN sN := by
  intro p ev s mi args below meth cd H locs ls C hP hS hL
  obtain ⟨hx, hb, hml, hr, hlk, hown, hts, htab, htr, hW, hB⟩ := id C
  have e1 : len = 1 := Nat.eq_of_beq_eq_true hln
  subst e1
  obtain ⟨x, t, rfl, h⟩ := m1l_of h
  exact lv_lstore_n hx hb hd rfl hL (of_decide_eq_true hp) rfl (fun ls1 hl1 => hn _ _ _ _ _ _ _ h p ev s mi args below meth cd H locs ls1 C hP hS (mSto2_has (v := .long x) hl1))
theorem ms_iinc {l : Launch} {g : mG} {d k : Nat} {Φ : mR → Mm → Int64 → Prop} {MC MS : Nat} {pc len a b c : Nat} {ts : List Nat} {nx : Nat → List Value → List Value → Mm → Int64 → Nat → Nat → Prop} (hn : ∀ pc L S m o c s, nx pc L S m o c s → mWB l g d k Φ MC MS pc L S m o c s) {L S : List Value} {m : Mm} {o : Int64} {cN sN : Nat} {i : Nat} {n : Int}
    (hd : decode (mBy k) pc = .ok (.iinc i n, len)) (hln : mLnB (.iinc i n) len = true) (hp : mPay k pc (.iinc i n) a b c ts = true) (h : mStep l g d k Φ MC MS nx pc (.iinc i n, len, a, b, c, ts) L S m o cN sN) : mWB l g d k Φ MC MS pc L S m o cN sN := by
  intro p ev s mi args below meth cd H locs ls C hP hS hL
  obtain ⟨hx, hb, hml, hr, hlk, hown, hts, htab, htr, hW, hB⟩ := id C
  have e1 : len = 3 := Nat.eq_of_beq_eq_true hln
  subst e1
  obtain ⟨x, q, h⟩ := mGi_of h
  have hp : (decide (Int32.ofInt n = mLit n) && decide (i < mNl k)) = true := hp
  rw [Bool.and_eq_true, decide_eq_true_eq, decide_eq_true_eq] at hp
  obtain ⟨z, hz⟩ := List.getElem?_of_mem (mLv_mem.mpr ⟨i, _, q, mJ_i x, rfl⟩)
  exact lv_iinc hx hb hd hL hz (v := x + mLit n) (by rw [hp.1]) hp.2 rfl (fun ls1 hl1 => hn _ _ _ _ _ _ _ h p ev s mi args below meth cd H locs ls1 C hP hS (mSto_has (v := .int (x + mLit n)) hl1))
theorem ms_dup {l : Launch} {g : mG} {d k : Nat} {Φ : mR → Mm → Int64 → Prop} {MC MS : Nat} {pc len a b c : Nat} {ts : List Nat} {nx : Nat → List Value → List Value → Mm → Int64 → Nat → Nat → Prop} (hn : ∀ pc L S m o c s, nx pc L S m o c s → mWB l g d k Φ MC MS pc L S m o c s) {L S : List Value} {m : Mm} {o : Int64} {cN sN : Nat}
    (hd : decode (mBy k) pc = .ok (.dup, len)) (hln : mLnB (.dup) len = true) (hp : mPay k pc (.dup) a b c ts = true) (h : mStep l g d k Φ MC MS nx pc (.dup, len, a, b, c, ts) L S m o cN sN) : mWB l g d k Φ MC MS pc L S m o cN sN := by
  intro p ev s mi args below meth cd H locs ls C hP hS hL
  obtain ⟨hx, hb, hml, hr, hlk, hown, hts, htab, htr, hW, hB⟩ := id C
  have e1 : len = 1 := Nat.eq_of_beq_eq_true hln
  subst e1
  obtain ⟨v, t, rfl, h0, h⟩ := m1_of h
  exact lv_dup hx hb hd (by rw [mtr_cat]; exact h0) (hn _ _ _ _ _ _ _ h p ev s mi args below meth cd H locs ls C hP hS hL)
theorem ms_pop {l : Launch} {g : mG} {d k : Nat} {Φ : mR → Mm → Int64 → Prop} {MC MS : Nat} {pc len a b c : Nat} {ts : List Nat} {nx : Nat → List Value → List Value → Mm → Int64 → Nat → Nat → Prop} (hn : ∀ pc L S m o c s, nx pc L S m o c s → mWB l g d k Φ MC MS pc L S m o c s) {L S : List Value} {m : Mm} {o : Int64} {cN sN : Nat}
    (hd : decode (mBy k) pc = .ok (.pop, len)) (hln : mLnB (.pop) len = true) (hp : mPay k pc (.pop) a b c ts = true) (h : mStep l g d k Φ MC MS nx pc (.pop, len, a, b, c, ts) L S m o cN sN) : mWB l g d k Φ MC MS pc L S m o cN sN := by
  intro p ev s mi args below meth cd H locs ls C hP hS hL
  obtain ⟨hx, hb, hml, hr, hlk, hown, hts, htab, htr, hW, hB⟩ := id C
  have e1 : len = 1 := Nat.eq_of_beq_eq_true hln
  subst e1
  obtain ⟨v, t, rfl, h0, h⟩ := m1_of h
  exact lv_pop hx hb hd (by rw [mtr_cat]; exact h0) (hn _ _ _ _ _ _ _ h p ev s mi args below meth cd H locs ls C hP hS hL)
theorem ms_dup2 {l : Launch} {g : mG} {d k : Nat} {Φ : mR → Mm → Int64 → Prop} {MC MS : Nat} {pc len a b c : Nat} {ts : List Nat} {nx : Nat → List Value → List Value → Mm → Int64 → Nat → Nat → Prop} (hn : ∀ pc L S m o c s, nx pc L S m o c s → mWB l g d k Φ MC MS pc L S m o c s) {L S : List Value} {m : Mm} {o : Int64} {cN sN : Nat}
    (hd : decode (mBy k) pc = .ok (.dup2, len)) (hln : mLnB (.dup2) len = true) (hp : mPay k pc (.dup2) a b c ts = true) (h : mStep l g d k Φ MC MS nx pc (.dup2, len, a, b, c, ts) L S m o cN sN) : mWB l g d k Φ MC MS pc L S m o cN sN := by
  intro p ev s mi args below meth cd H locs ls C hP hS hL
  obtain ⟨hx, hb, hml, hr, hlk, hown, hts, htab, htr, hW, hB⟩ := id C
  have e1 : len = 1 := Nat.eq_of_beq_eq_true hln
  subst e1
  obtain ⟨v, t, rfl, h⟩ := m1_of h
  obtain ⟨w, t, rfl, h0, h1, h⟩ := m1_of h
  exact lv_dup2_11 hx hb hd (by rw [mtr_cat]; exact h0) (by rw [mtr_cat]; exact h1) (hn _ _ _ _ _ _ _ h p ev s mi args below meth cd H locs ls C hP hS hL)
theorem ms_goto {l : Launch} {g : mG} {d k : Nat} {Φ : mR → Mm → Int64 → Prop} {MC MS : Nat} {pc len a b c : Nat} {ts : List Nat} {nx : Nat → List Value → List Value → Mm → Int64 → Nat → Nat → Prop} (hn : ∀ pc L S m o c s, nx pc L S m o c s → mWB l g d k Φ MC MS pc L S m o c s) {L S : List Value} {m : Mm} {o : Int64} {cN sN : Nat} {off : Int}
    (hd : decode (mBy k) pc = .ok (.goto off, len)) (hln : mLnB (.goto off) len = true) (hp : mPay k pc (.goto off) a b c ts = true) (h : mStep l g d k Φ MC MS nx pc (.goto off, len, a, b, c, ts) L S m o cN sN) : mWB l g d k Φ MC MS pc L S m o cN sN := by
  intro p ev s mi args below meth cd H locs ls C hP hS hL
  obtain ⟨hx, hb, hml, hr, hlk, hown, hts, htab, htr, hW, hB⟩ := id C
  have e1 : len = 3 := Nat.eq_of_beq_eq_true hln
  subst e1
  exact lv_goto hx hb hd (of_decide_eq_true hp) (hn _ _ _ _ _ _ _ h p ev s mi args below meth cd H locs ls C hP hS hL)
theorem ms_if_eq {l : Launch} {g : mG} {d k : Nat} {Φ : mR → Mm → Int64 → Prop} {MC MS : Nat} {pc len a b c : Nat} {ts : List Nat} {nx : Nat → List Value → List Value → Mm → Int64 → Nat → Nat → Prop} (hn : ∀ pc L S m o c s, nx pc L S m o c s → mWB l g d k Φ MC MS pc L S m o c s) {L S : List Value} {m : Mm} {o : Int64} {cN sN : Nat} {off : Int}
    (hd : decode (mBy k) pc = .ok (.ifCond .eq off, len)) (hln : mLnB (.ifCond .eq off) len = true) (hp : mPay k pc (.ifCond .eq off) a b c ts = true) (h : mStep l g d k Φ MC MS nx pc (.ifCond .eq off, len, a, b, c, ts) L S m o cN sN) : mWB l g d k Φ MC MS pc L S m o cN sN := by
  intro p ev s mi args below meth cd H locs ls C hP hS hL
  obtain ⟨hx, hb, hml, hr, hlk, hown, hts, htab, htr, hW, hB⟩ := id C
  have e1 : len = 3 := Nat.eq_of_beq_eq_true hln
  subst e1
  obtain ⟨x, t, rfl, h⟩ := m1i_of h
  exact lv_if_eq hx hb hd (of_decide_eq_true hp) (fun q => (hn _ _ _ _ _ _ _ (h.1 q) p ev s mi args below meth cd H locs ls C hP hS hL)) (fun q => (hn _ _ _ _ _ _ _ (h.2 q) p ev s mi args below meth cd H locs ls C hP hS hL))
theorem ms_icmp_eq {l : Launch} {g : mG} {d k : Nat} {Φ : mR → Mm → Int64 → Prop} {MC MS : Nat} {pc len a b c : Nat} {ts : List Nat} {nx : Nat → List Value → List Value → Mm → Int64 → Nat → Nat → Prop} (hn : ∀ pc L S m o c s, nx pc L S m o c s → mWB l g d k Φ MC MS pc L S m o c s) {L S : List Value} {m : Mm} {o : Int64} {cN sN : Nat} {off : Int}
    (hd : decode (mBy k) pc = .ok (.if_icmp .eq off, len)) (hln : mLnB (.if_icmp .eq off) len = true) (hp : mPay k pc (.if_icmp .eq off) a b c ts = true) (h : mStep l g d k Φ MC MS nx pc (.if_icmp .eq off, len, a, b, c, ts) L S m o cN sN) : mWB l g d k Φ MC MS pc L S m o cN sN := by
  intro p ev s mi args below meth cd H locs ls C hP hS hL
  obtain ⟨hx, hb, hml, hr, hlk, hown, hts, htab, htr, hW, hB⟩ := id C
  have e1 : len = 3 := Nat.eq_of_beq_eq_true hln
  subst e1
  obtain ⟨x, y, t, rfl, h⟩ := m2i_of h
  exact lv_icmp_eq hx hb hd (of_decide_eq_true hp) (fun q => (hn _ _ _ _ _ _ _ (h.1 q) p ev s mi args below meth cd H locs ls C hP hS hL)) (fun q => (hn _ _ _ _ _ _ _ (h.2 q) p ev s mi args below meth cd H locs ls C hP hS hL))
theorem ms_if_ne {l : Launch} {g : mG} {d k : Nat} {Φ : mR → Mm → Int64 → Prop} {MC MS : Nat} {pc len a b c : Nat} {ts : List Nat} {nx : Nat → List Value → List Value → Mm → Int64 → Nat → Nat → Prop} (hn : ∀ pc L S m o c s, nx pc L S m o c s → mWB l g d k Φ MC MS pc L S m o c s) {L S : List Value} {m : Mm} {o : Int64} {cN sN : Nat} {off : Int}
    (hd : decode (mBy k) pc = .ok (.ifCond .ne off, len)) (hln : mLnB (.ifCond .ne off) len = true) (hp : mPay k pc (.ifCond .ne off) a b c ts = true) (h : mStep l g d k Φ MC MS nx pc (.ifCond .ne off, len, a, b, c, ts) L S m o cN sN) : mWB l g d k Φ MC MS pc L S m o cN sN := by
  intro p ev s mi args below meth cd H locs ls C hP hS hL
  obtain ⟨hx, hb, hml, hr, hlk, hown, hts, htab, htr, hW, hB⟩ := id C
  have e1 : len = 3 := Nat.eq_of_beq_eq_true hln
  subst e1
  obtain ⟨x, t, rfl, h⟩ := m1i_of h
  exact lv_if_ne hx hb hd (of_decide_eq_true hp) (fun q => (hn _ _ _ _ _ _ _ (h.1 q) p ev s mi args below meth cd H locs ls C hP hS hL)) (fun q => (hn _ _ _ _ _ _ _ (h.2 q) p ev s mi args below meth cd H locs ls C hP hS hL))
theorem ms_icmp_ne {l : Launch} {g : mG} {d k : Nat} {Φ : mR → Mm → Int64 → Prop} {MC MS : Nat} {pc len a b c : Nat} {ts : List Nat} {nx : Nat → List Value → List Value → Mm → Int64 → Nat → Nat → Prop} (hn : ∀ pc L S m o c s, nx pc L S m o c s → mWB l g d k Φ MC MS pc L S m o c s) {L S : List Value} {m : Mm} {o : Int64} {cN sN : Nat} {off : Int}
    (hd : decode (mBy k) pc = .ok (.if_icmp .ne off, len)) (hln : mLnB (.if_icmp .ne off) len = true) (hp : mPay k pc (.if_icmp .ne off) a b c ts = true) (h : mStep l g d k Φ MC MS nx pc (.if_icmp .ne off, len, a, b, c, ts) L S m o cN sN) : mWB l g d k Φ MC MS pc L S m o cN sN := by
  intro p ev s mi args below meth cd H locs ls C hP hS hL
  obtain ⟨hx, hb, hml, hr, hlk, hown, hts, htab, htr, hW, hB⟩ := id C
  have e1 : len = 3 := Nat.eq_of_beq_eq_true hln
  subst e1
  obtain ⟨x, y, t, rfl, h⟩ := m2i_of h
  exact lv_icmp_ne hx hb hd (of_decide_eq_true hp) (fun q => (hn _ _ _ _ _ _ _ (h.1 q) p ev s mi args below meth cd H locs ls C hP hS hL)) (fun q => (hn _ _ _ _ _ _ _ (h.2 q) p ev s mi args below meth cd H locs ls C hP hS hL))
theorem ms_if_lt {l : Launch} {g : mG} {d k : Nat} {Φ : mR → Mm → Int64 → Prop} {MC MS : Nat} {pc len a b c : Nat} {ts : List Nat} {nx : Nat → List Value → List Value → Mm → Int64 → Nat → Nat → Prop} (hn : ∀ pc L S m o c s, nx pc L S m o c s → mWB l g d k Φ MC MS pc L S m o c s) {L S : List Value} {m : Mm} {o : Int64} {cN sN : Nat} {off : Int}
    (hd : decode (mBy k) pc = .ok (.ifCond .lt off, len)) (hln : mLnB (.ifCond .lt off) len = true) (hp : mPay k pc (.ifCond .lt off) a b c ts = true) (h : mStep l g d k Φ MC MS nx pc (.ifCond .lt off, len, a, b, c, ts) L S m o cN sN) : mWB l g d k Φ MC MS pc L S m o cN sN := by
  intro p ev s mi args below meth cd H locs ls C hP hS hL
  obtain ⟨hx, hb, hml, hr, hlk, hown, hts, htab, htr, hW, hB⟩ := id C
  have e1 : len = 3 := Nat.eq_of_beq_eq_true hln
  subst e1
  obtain ⟨x, t, rfl, h⟩ := m1i_of h
  exact lv_if_lt hx hb hd (of_decide_eq_true hp) (fun q => (hn _ _ _ _ _ _ _ (h.1 q) p ev s mi args below meth cd H locs ls C hP hS hL)) (fun q => (hn _ _ _ _ _ _ _ (h.2 q) p ev s mi args below meth cd H locs ls C hP hS hL))
theorem ms_icmp_lt {l : Launch} {g : mG} {d k : Nat} {Φ : mR → Mm → Int64 → Prop} {MC MS : Nat} {pc len a b c : Nat} {ts : List Nat} {nx : Nat → List Value → List Value → Mm → Int64 → Nat → Nat → Prop} (hn : ∀ pc L S m o c s, nx pc L S m o c s → mWB l g d k Φ MC MS pc L S m o c s) {L S : List Value} {m : Mm} {o : Int64} {cN sN : Nat} {off : Int}
    (hd : decode (mBy k) pc = .ok (.if_icmp .lt off, len)) (hln : mLnB (.if_icmp .lt off) len = true) (hp : mPay k pc (.if_icmp .lt off) a b c ts = true) (h : mStep l g d k Φ MC MS nx pc (.if_icmp .lt off, len, a, b, c, ts) L S m o cN sN) : mWB l g d k Φ MC MS pc L S m o cN sN := by
  intro p ev s mi args below meth cd H locs ls C hP hS hL
  obtain ⟨hx, hb, hml, hr, hlk, hown, hts, htab, htr, hW, hB⟩ := id C
  have e1 : len = 3 := Nat.eq_of_beq_eq_true hln
  subst e1
  obtain ⟨x, y, t, rfl, h⟩ := m2i_of h
  exact lv_icmp_lt hx hb hd (of_decide_eq_true hp) (fun q => (hn _ _ _ _ _ _ _ (h.1 q) p ev s mi args below meth cd H locs ls C hP hS hL)) (fun q => (hn _ _ _ _ _ _ _ (h.2 q) p ev s mi args below meth cd H locs ls C hP hS hL))
theorem ms_if_ge {l : Launch} {g : mG} {d k : Nat} {Φ : mR → Mm → Int64 → Prop} {MC MS : Nat} {pc len a b c : Nat} {ts : List Nat} {nx : Nat → List Value → List Value → Mm → Int64 → Nat → Nat → Prop} (hn : ∀ pc L S m o c s, nx pc L S m o c s → mWB l g d k Φ MC MS pc L S m o c s) {L S : List Value} {m : Mm} {o : Int64} {cN sN : Nat} {off : Int}
    (hd : decode (mBy k) pc = .ok (.ifCond .ge off, len)) (hln : mLnB (.ifCond .ge off) len = true) (hp : mPay k pc (.ifCond .ge off) a b c ts = true) (h : mStep l g d k Φ MC MS nx pc (.ifCond .ge off, len, a, b, c, ts) L S m o cN sN) : mWB l g d k Φ MC MS pc L S m o cN sN := by
  intro p ev s mi args below meth cd H locs ls C hP hS hL
  obtain ⟨hx, hb, hml, hr, hlk, hown, hts, htab, htr, hW, hB⟩ := id C
  have e1 : len = 3 := Nat.eq_of_beq_eq_true hln
  subst e1
  obtain ⟨x, t, rfl, h⟩ := m1i_of h
  exact lv_if_ge hx hb hd (of_decide_eq_true hp) (fun q => (hn _ _ _ _ _ _ _ (h.1 q) p ev s mi args below meth cd H locs ls C hP hS hL)) (fun q => (hn _ _ _ _ _ _ _ (h.2 q) p ev s mi args below meth cd H locs ls C hP hS hL))
theorem ms_icmp_ge {l : Launch} {g : mG} {d k : Nat} {Φ : mR → Mm → Int64 → Prop} {MC MS : Nat} {pc len a b c : Nat} {ts : List Nat} {nx : Nat → List Value → List Value → Mm → Int64 → Nat → Nat → Prop} (hn : ∀ pc L S m o c s, nx pc L S m o c s → mWB l g d k Φ MC MS pc L S m o c s) {L S : List Value} {m : Mm} {o : Int64} {cN sN : Nat} {off : Int}
    (hd : decode (mBy k) pc = .ok (.if_icmp .ge off, len)) (hln : mLnB (.if_icmp .ge off) len = true) (hp : mPay k pc (.if_icmp .ge off) a b c ts = true) (h : mStep l g d k Φ MC MS nx pc (.if_icmp .ge off, len, a, b, c, ts) L S m o cN sN) : mWB l g d k Φ MC MS pc L S m o cN sN := by
  intro p ev s mi args below meth cd H locs ls C hP hS hL
  obtain ⟨hx, hb, hml, hr, hlk, hown, hts, htab, htr, hW, hB⟩ := id C
  have e1 : len = 3 := Nat.eq_of_beq_eq_true hln
  subst e1
  obtain ⟨x, y, t, rfl, h⟩ := m2i_of h
  exact lv_icmp_ge hx hb hd (of_decide_eq_true hp) (fun q => (hn _ _ _ _ _ _ _ (h.1 q) p ev s mi args below meth cd H locs ls C hP hS hL)) (fun q => (hn _ _ _ _ _ _ _ (h.2 q) p ev s mi args below meth cd H locs ls C hP hS hL))
theorem ms_if_gt {l : Launch} {g : mG} {d k : Nat} {Φ : mR → Mm → Int64 → Prop} {MC MS : Nat} {pc len a b c : Nat} {ts : List Nat} {nx : Nat → List Value → List Value → Mm → Int64 → Nat → Nat → Prop} (hn : ∀ pc L S m o c s, nx pc L S m o c s → mWB l g d k Φ MC MS pc L S m o c s) {L S : List Value} {m : Mm} {o : Int64} {cN sN : Nat} {off : Int}
    (hd : decode (mBy k) pc = .ok (.ifCond .gt off, len)) (hln : mLnB (.ifCond .gt off) len = true) (hp : mPay k pc (.ifCond .gt off) a b c ts = true) (h : mStep l g d k Φ MC MS nx pc (.ifCond .gt off, len, a, b, c, ts) L S m o cN sN) : mWB l g d k Φ MC MS pc L S m o cN sN := by
  intro p ev s mi args below meth cd H locs ls C hP hS hL
  obtain ⟨hx, hb, hml, hr, hlk, hown, hts, htab, htr, hW, hB⟩ := id C
  have e1 : len = 3 := Nat.eq_of_beq_eq_true hln
  subst e1
  obtain ⟨x, t, rfl, h⟩ := m1i_of h
  exact lv_if_gt hx hb hd (of_decide_eq_true hp) (fun q => (hn _ _ _ _ _ _ _ (h.1 q) p ev s mi args below meth cd H locs ls C hP hS hL)) (fun q => (hn _ _ _ _ _ _ _ (h.2 q) p ev s mi args below meth cd H locs ls C hP hS hL))
theorem ms_icmp_gt {l : Launch} {g : mG} {d k : Nat} {Φ : mR → Mm → Int64 → Prop} {MC MS : Nat} {pc len a b c : Nat} {ts : List Nat} {nx : Nat → List Value → List Value → Mm → Int64 → Nat → Nat → Prop} (hn : ∀ pc L S m o c s, nx pc L S m o c s → mWB l g d k Φ MC MS pc L S m o c s) {L S : List Value} {m : Mm} {o : Int64} {cN sN : Nat} {off : Int}
    (hd : decode (mBy k) pc = .ok (.if_icmp .gt off, len)) (hln : mLnB (.if_icmp .gt off) len = true) (hp : mPay k pc (.if_icmp .gt off) a b c ts = true) (h : mStep l g d k Φ MC MS nx pc (.if_icmp .gt off, len, a, b, c, ts) L S m o cN sN) : mWB l g d k Φ MC MS pc L S m o cN sN := by
  intro p ev s mi args below meth cd H locs ls C hP hS hL
  obtain ⟨hx, hb, hml, hr, hlk, hown, hts, htab, htr, hW, hB⟩ := id C
  have e1 : len = 3 := Nat.eq_of_beq_eq_true hln
  subst e1
  obtain ⟨x, y, t, rfl, h⟩ := m2i_of h
  exact lv_icmp_gt hx hb hd (of_decide_eq_true hp) (fun q => (hn _ _ _ _ _ _ _ (h.1 q) p ev s mi args below meth cd H locs ls C hP hS hL)) (fun q => (hn _ _ _ _ _ _ _ (h.2 q) p ev s mi args below meth cd H locs ls C hP hS hL))
theorem ms_if_le {l : Launch} {g : mG} {d k : Nat} {Φ : mR → Mm → Int64 → Prop} {MC MS : Nat} {pc len a b c : Nat} {ts : List Nat} {nx : Nat → List Value → List Value → Mm → Int64 → Nat → Nat → Prop} (hn : ∀ pc L S m o c s, nx pc L S m o c s → mWB l g d k Φ MC MS pc L S m o c s) {L S : List Value} {m : Mm} {o : Int64} {cN sN : Nat} {off : Int}
    (hd : decode (mBy k) pc = .ok (.ifCond .le off, len)) (hln : mLnB (.ifCond .le off) len = true) (hp : mPay k pc (.ifCond .le off) a b c ts = true) (h : mStep l g d k Φ MC MS nx pc (.ifCond .le off, len, a, b, c, ts) L S m o cN sN) : mWB l g d k Φ MC MS pc L S m o cN sN := by
  intro p ev s mi args below meth cd H locs ls C hP hS hL
  obtain ⟨hx, hb, hml, hr, hlk, hown, hts, htab, htr, hW, hB⟩ := id C
  have e1 : len = 3 := Nat.eq_of_beq_eq_true hln
  subst e1
  obtain ⟨x, t, rfl, h⟩ := m1i_of h
  exact lv_if_le hx hb hd (of_decide_eq_true hp) (fun q => (hn _ _ _ _ _ _ _ (h.1 q) p ev s mi args below meth cd H locs ls C hP hS hL)) (fun q => (hn _ _ _ _ _ _ _ (h.2 q) p ev s mi args below meth cd H locs ls C hP hS hL))
theorem ms_icmp_le {l : Launch} {g : mG} {d k : Nat} {Φ : mR → Mm → Int64 → Prop} {MC MS : Nat} {pc len a b c : Nat} {ts : List Nat} {nx : Nat → List Value → List Value → Mm → Int64 → Nat → Nat → Prop} (hn : ∀ pc L S m o c s, nx pc L S m o c s → mWB l g d k Φ MC MS pc L S m o c s) {L S : List Value} {m : Mm} {o : Int64} {cN sN : Nat} {off : Int}
    (hd : decode (mBy k) pc = .ok (.if_icmp .le off, len)) (hln : mLnB (.if_icmp .le off) len = true) (hp : mPay k pc (.if_icmp .le off) a b c ts = true) (h : mStep l g d k Φ MC MS nx pc (.if_icmp .le off, len, a, b, c, ts) L S m o cN sN) : mWB l g d k Φ MC MS pc L S m o cN sN := by
  intro p ev s mi args below meth cd H locs ls C hP hS hL
  obtain ⟨hx, hb, hml, hr, hlk, hown, hts, htab, htr, hW, hB⟩ := id C
  have e1 : len = 3 := Nat.eq_of_beq_eq_true hln
  subst e1
  obtain ⟨x, y, t, rfl, h⟩ := m2i_of h
  exact lv_icmp_le hx hb hd (of_decide_eq_true hp) (fun q => (hn _ _ _ _ _ _ _ (h.1 q) p ev s mi args below meth cd H locs ls C hP hS hL)) (fun q => (hn _ _ _ _ _ _ _ (h.2 q) p ev s mi args below meth cd H locs ls C hP hS hL))
theorem ms_ifnull {l : Launch} {g : mG} {d k : Nat} {Φ : mR → Mm → Int64 → Prop} {MC MS : Nat} {pc len a b c : Nat} {ts : List Nat} {nx : Nat → List Value → List Value → Mm → Int64 → Nat → Nat → Prop} (hn : ∀ pc L S m o c s, nx pc L S m o c s → mWB l g d k Φ MC MS pc L S m o c s) {L S : List Value} {m : Mm} {o : Int64} {cN sN : Nat} {off : Int}
    (hd : decode (mBy k) pc = .ok (.ifnull off, len)) (hln : mLnB (.ifnull off) len = true) (hp : mPay k pc (.ifnull off) a b c ts = true) (h : mStep l g d k Φ MC MS nx pc (.ifnull off, len, a, b, c, ts) L S m o cN sN) : mWB l g d k Φ MC MS pc L S m o cN sN := by
  intro p ev s mi args below meth cd H locs ls C hP hS hL
  obtain ⟨hx, hb, hml, hr, hlk, hown, hts, htab, htr, hW, hB⟩ := id C
  have e1 : len = 3 := Nat.eq_of_beq_eq_true hln
  subst e1
  obtain ⟨v, t, rfl, h⟩ := m1_of h
  cases v with
  | null => exact lv_ifnullN hx hb hd (of_decide_eq_true hp) (hn _ _ _ _ _ _ _ h p ev s mi args below meth cd H locs ls C hP hS hL)
  | ref x => exact lv_ifnull hx hb hd (hn _ _ _ _ _ _ _ h p ev s mi args below meth cd H locs ls C hP hS hL)
  | _ => exact h.elim
theorem ms_ifnonnull {l : Launch} {g : mG} {d k : Nat} {Φ : mR → Mm → Int64 → Prop} {MC MS : Nat} {pc len a b c : Nat} {ts : List Nat} {nx : Nat → List Value → List Value → Mm → Int64 → Nat → Nat → Prop} (hn : ∀ pc L S m o c s, nx pc L S m o c s → mWB l g d k Φ MC MS pc L S m o c s) {L S : List Value} {m : Mm} {o : Int64} {cN sN : Nat} {off : Int}
    (hd : decode (mBy k) pc = .ok (.ifnonnull off, len)) (hln : mLnB (.ifnonnull off) len = true) (hp : mPay k pc (.ifnonnull off) a b c ts = true) (h : mStep l g d k Φ MC MS nx pc (.ifnonnull off, len, a, b, c, ts) L S m o cN sN) : mWB l g d k Φ MC MS pc L S m o cN sN := by
  intro p ev s mi args below meth cd H locs ls C hP hS hL
  obtain ⟨hx, hb, hml, hr, hlk, hown, hts, htab, htr, hW, hB⟩ := id C
  have e1 : len = 3 := Nat.eq_of_beq_eq_true hln
  subst e1
  obtain ⟨v, t, rfl, h⟩ := m1_of h
  cases v with
  | null => exact lv_ifnonnullN hx hb hd (hn _ _ _ _ _ _ _ h p ev s mi args below meth cd H locs ls C hP hS hL)
  | ref x => exact lv_ifnonnull hx hb hd (of_decide_eq_true hp) (hn _ _ _ _ _ _ _ h p ev s mi args below meth cd H locs ls C hP hS hL)
  | _ => exact h.elim
theorem ms_tableswitch {l : Launch} {g : mG} {d k : Nat} {Φ : mR → Mm → Int64 → Prop} {MC MS : Nat} {pc len a b c : Nat} {ts : List Nat} {nx : Nat → List Value → List Value → Mm → Int64 → Nat → Nat → Prop} (hn : ∀ pc L S m o c s, nx pc L S m o c s → mWB l g d k Φ MC MS pc L S m o c s) {L S : List Value} {m : Mm} {o : Int64} {cN sN : Nat} {dflt lo hi : Int} {offs : Array Int}
    (hd : decode (mBy k) pc = .ok (.tableswitch dflt lo hi offs, len)) (hln : mLnB (.tableswitch dflt lo hi offs) len = true) (hp : mPay k pc (.tableswitch dflt lo hi offs) a b c ts = true) (h : mStep l g d k Φ MC MS nx pc (.tableswitch dflt lo hi offs, len, a, b, c, ts) L S m o cN sN) : mWB l g d k Φ MC MS pc L S m o cN sN := by
  intro p ev s mi args below meth cd H locs ls C hP hS hL
  obtain ⟨hx, hb, hml, hr, hlk, hown, hts, htab, htr, hW, hB⟩ := id C
  obtain ⟨x, t, rfl, h⟩ := m1i_of h
  have hp : (decide ((pc : Int) + dflt = (a : Int)) && decide (offs.toList.map (fun z => (pc : Int) + z) = ts.map (fun t : Nat => (t : Int))) && decide (hi = lo + (ts.length : Int) - 1)) = true := hp
  simp only [Bool.and_eq_true, decide_eq_true_eq] at hp
  obtain ⟨⟨h1, h2⟩, h3⟩ := hp
  by_cases hc : x.toInt < lo ∨ hi < x.toInt
  · exact lv_tableOut hx hb hd hc h1 (hn _ _ _ _ _ _ _ (h.2 hc) p ev s mi args below meth cd H locs ls C hP hS hL)
  · have c1 : ¬ x.toInt < lo := fun q => hc (Or.inl q)
    have c2 : ¬ hi < x.toInt := fun q => hc (Or.inr q)
    have hi1 : (x.toInt - lo).toNat < ts.length := by omega
    have h4 : (offs.toList.map (fun z => (pc : Int) + z))[(x.toInt - lo).toNat]? = some ((ts[(x.toInt - lo).toNat] : Nat) : Int) := by
      rw [h2, List.getElem?_map, List.getElem?_eq_getElem hi1]
      rfl
    rw [List.getElem?_map] at h4
    obtain ⟨off, h5, h6⟩ := Option.map_eq_some_iff.mp h4
    exact lv_tableIn hx hb hd c1 c2 (off := off) (by rw [← Array.getElem?_toList]; exact h5) h6 (hn _ L t m o cN sN (mSw_of (x := x) (nx := fun q => nx q L t m o cN sN) (lo := lo) h.1 (i := (x.toInt - lo).toNat) (by omega) (List.getElem?_eq_getElem hi1)) p ev s mi args below meth cd H locs ls C hP hS hL)
theorem ms_lookupswitch {l : Launch} {g : mG} {d k : Nat} {Φ : mR → Mm → Int64 → Prop} {MC MS : Nat} {pc len a b c : Nat} {ts : List Nat} {nx : Nat → List Value → List Value → Mm → Int64 → Nat → Nat → Prop} (hn : ∀ pc L S m o c s, nx pc L S m o c s → mWB l g d k Φ MC MS pc L S m o c s) {L S : List Value} {m : Mm} {o : Int64} {cN sN : Nat} {dflt : Int} {ps : Array (Int × Int)}
    (hd : decode (mBy k) pc = .ok (.lookupswitch dflt ps, len)) (hln : mLnB (.lookupswitch dflt ps) len = true) (hp : mPay k pc (.lookupswitch dflt ps) a b c ts = true) (h : mStep l g d k Φ MC MS nx pc (.lookupswitch dflt ps, len, a, b, c, ts) L S m o cN sN) : mWB l g d k Φ MC MS pc L S m o cN sN := by
  intro p ev s mi args below meth cd H locs ls C hP hS hL
  obtain ⟨hx, hb, hml, hr, hlk, hown, hts, htab, htr, hW, hB⟩ := id C
  obtain ⟨x, t, rfl, h⟩ := m1i_of h
  have hp : (decide ((pc : Int) + dflt = (a : Int)) && decide (ps.toList.map (fun z => (pc : Int) + z.2) = ts.map (fun t : Nat => (t : Int))) && (ps.toList.zip (ps.toList.drop 1)).all (fun (x, y) => x.1 < y.1)) = true := hp
  simp only [Bool.and_eq_true, decide_eq_true_eq] at hp
  obtain ⟨⟨h1, h2⟩, h3⟩ := hp
  obtain ⟨q, h4, h5⟩ := mLk_of h1 h2 h
  rcases h5 with h5 | ⟨rfl, h5⟩
  · exact lv_lookup hx hb hd h3 rfl h4 (hn _ _ _ _ _ _ _ h5 p ev s mi args below meth cd H locs ls C hP hS hL)
  · exact lv_lookup hx hb hd h3 rfl h4 (hn _ _ _ _ _ _ _ h5 p ev s mi args below meth cd H locs ls C hP hS hL)
theorem ms_getfield {l : Launch} {g : mG} {d k : Nat} {Φ : mR → Mm → Int64 → Prop} {MC MS : Nat} {pc len a b c : Nat} {ts : List Nat} {nx : Nat → List Value → List Value → Mm → Int64 → Nat → Nat → Prop} (hn : ∀ pc L S m o c s, nx pc L S m o c s → mWB l g d k Φ MC MS pc L S m o c s) {L S : List Value} {m : Mm} {o : Int64} {cN sN : Nat} {i : Nat}
    (hd : decode (mBy k) pc = .ok (.getfield i, len)) (hln : mLnB (.getfield i) len = true) (hp : mPay k pc (.getfield i) a b c ts = true) (h : mStep l g d k Φ MC MS nx pc (.getfield i, len, a, b, c, ts) L S m o cN sN) : mWB l g d k Φ MC MS pc L S m o cN sN := by
  intro p ev s mi args below meth cd H locs ls C hP hS hL
  obtain ⟨hx, hb, hml, hr, hlk, hown, hts, htab, htr, hW, hB⟩ := id C
  have e1 : len = 3 := Nat.eq_of_beq_eq_true hln
  subst e1
  obtain ⟨x, t, rfl, h⟩ := m1r_of h
  obtain ⟨h13, h⟩ := mReq_of h
  obtain ⟨hxb, h⟩ := mReq_of h
  obtain ⟨hxn, hxk⟩ := mIsB_of hxb
  obtain ⟨r, hr1, hr2, hr3, hr4, -⟩ := mFld h13 hp
  have hsz := mSize_of hxn hxk hr1
  have he : (mLs g m o)[x]? = some (gA g x, .inr (a, (List.range (mLn x)).map (mFv g m x a))) := by rw [mLs_at g m o hxn, mCE_ob g m o hxk]
  have hv : ((List.range (mLn x)).map (mFv g m x a))[b]? = some (mFv g m x a b) := by rw [List.getElem?_map, List.getElem?_range (by omega)]; rfl
  have hval : mFv g m x a b = mtr (gA g) (bif Nat.beq c 1 then .ref (mRF x b) else .int (m x b)) := by
    unfold mFv
    by_cases hf : mIsRef a b = true
    · rw [if_pos hf, hr4, if_pos hf]; rfl
    · rw [if_neg hf, hr4, if_neg hf]; rfl
  refine va_get (ci := a) hx hb hts (fun w hw => List.mem_cons_of_mem _ (mUs_of hr1 w hw)) hown hW.1 hP.1 x he hr1 b hr2 (hts _ (List.mem_cons_of_mem _ hr3)) (fun _ q => q) hv hd ?_
  rw [hval]
  exact (hn _ _ _ _ _ _ _ h p ev s mi args below meth cd H locs ls C hP hS hL)
theorem ms_putfield {l : Launch} {g : mG} {d k : Nat} {Φ : mR → Mm → Int64 → Prop} {MC MS : Nat} {pc len a b c : Nat} {ts : List Nat} {nx : Nat → List Value → List Value → Mm → Int64 → Nat → Nat → Prop} (hn : ∀ pc L S m o c s, nx pc L S m o c s → mWB l g d k Φ MC MS pc L S m o c s) {L S : List Value} {m : Mm} {o : Int64} {cN sN : Nat} {i : Nat}
    (hd : decode (mBy k) pc = .ok (.putfield i, len)) (hln : mLnB (.putfield i) len = true) (hp : mPay k pc (.putfield i) a b c ts = true) (h : mStep l g d k Φ MC MS nx pc (.putfield i, len, a, b, c, ts) L S m o cN sN) : mWB l g d k Φ MC MS pc L S m o cN sN := by
  intro p ev s mi args below meth cd H locs ls C hP hS hL
  obtain ⟨hx, hb, hml, hr, hlk, hown, hts, htab, htr, hW, hB⟩ := id C
  have e1 : len = 3 := Nat.eq_of_beq_eq_true hln
  subst e1
  obtain ⟨v, x, t, rfl, h2⟩ := mIRf_of h
  obtain ⟨h13, h2⟩ := mReq_of h2
  obtain ⟨hc0, h2⟩ := mReq_of h2
  obtain ⟨hxb, h2⟩ := mReq_of h2
  obtain ⟨hxn, hxk⟩ := mIsB_of hxb
  have hc0 : c = 0 := Nat.eq_of_beq_eq_true hc0
  obtain ⟨r, hr1, hr2, hr3, hr4, hr5⟩ := mFld h13 hp
  have hsz := mSize_of hxn hxk hr1
  have hnr : ¬ mIsRef a b = true := fun q => by rw [if_pos q] at hr4; omega
  have hI : (r.2.1 b).2.2.1 = "I" := by
    unfold mIsRef at hnr
    rw [hr1] at hnr
    simpa using hnr
  obtain ⟨ty0, hty, hnm⟩ := mTy_of hr1
  have he : (mLs g m o)[x]? = some (gA g x, .inr (a, (List.range (mLn x)).map (mFv g m x a))) := by rw [mLs_at g m o hxn, mCE_ob g m o hxk]
  refine va_put (ci := a) (v := .int v) hx hb hts (fun w hw => List.mem_cons_of_mem _ (mUs_of hr1 w hw)) ty0 hty hnm hown hW.1 hP.1 hP.2 hS x he hr1 b hr2 (hts _ (List.mem_cons_of_mem _ hr3)) (fun _ q => q) (hr5 hc0) (ty := .int) (by rw [hI]; decide) rfl rfl (by rw [List.length_map, List.length_range]; omega) hd (fun H1 locs1 hP1 hD1 hS1 => ?_)
  have hset : (mLs g m o).set x (gA g x, .inr (a, ((List.range (mLn x)).map (mFv g m x a)).set b (.int v))) = mLs g (mset m x b v) o := by
    refine mLs_set g _ ?_ (fun j hj => mCE_eq g o (mset_ne m b v hj).symm)
    rw [mCE_ob g _ o hxk]
    refine congrArg (fun z => (Sum.inr (a, z) : va_E)) ?_
    apply List.ext_getElem?
    intro j
    by_cases hj : j < mLn x
    · rw [List.getElem?_map, List.getElem?_range hj]
      by_cases hjb : j = b
      · subst hjb
        rw [List.getElem?_set_self (by rw [List.length_map, List.length_range]; exact hj)]
        show _ = some (mFv g (mset m x j v) x a j)
        unfold mFv
        rw [if_neg hnr, mset_eq]
        simp [upd]
      · rw [List.getElem?_set_ne (fun q => hjb q.symm), List.getElem?_map, List.getElem?_range hj]
        show some (mFv g m x a j) = some (mFv g (mset m x b v) x a j)
        unfold mFv
        rw [mset_eq]
        simp [upd, hjb]
    · rw [List.getElem?_eq_none (by rw [List.length_set, List.length_map, List.length_range]; omega), List.getElem?_eq_none (by rw [List.length_map, List.length_range]; omega)]
  rw [hset] at hP1 hD1
  exact (hn _ _ _ _ _ _ _ h2 p ev s mi args below meth cd H1 locs1 ls C ⟨hP1, hD1⟩ hS1 hL)
theorem ms_iaload {l : Launch} {g : mG} {d k : Nat} {Φ : mR → Mm → Int64 → Prop} {MC MS : Nat} {pc len a b c : Nat} {ts : List Nat} {nx : Nat → List Value → List Value → Mm → Int64 → Nat → Nat → Prop} (hn : ∀ pc L S m o c s, nx pc L S m o c s → mWB l g d k Φ MC MS pc L S m o c s) {L S : List Value} {m : Mm} {o : Int64} {cN sN : Nat}
    (hd : decode (mBy k) pc = .ok (.iaload, len)) (hln : mLnB (.iaload) len = true) (hp : mPay k pc (.iaload) a b c ts = true) (h : mStep l g d k Φ MC MS nx pc (.iaload, len, a, b, c, ts) L S m o cN sN) : mWB l g d k Φ MC MS pc L S m o cN sN := by
  intro p ev s mi args below meth cd H locs ls C hP hS hL
  obtain ⟨hx, hb, hml, hr, hlk, hown, hts, htab, htr, hW, hB⟩ := id C
  have e1 : len = 1 := Nat.eq_of_beq_eq_true hln
  subst e1
  obtain ⟨j, x, t, rfl, h1⟩ := mIR_of h
  have h2 : (bif Nat.beq b 1 then (x = mScr ∧ mReq (mInB j (gL g)) (nx (pc + 1) L (.int (gS g j.toNatClampNeg) :: t) m o cN sN)) else mReq (mIsB x 1) (mReq (mInB j (mLn x)) (nx (pc + 1) L (.int (m x j.toNatClampNeg) :: t) m o cN sN))) := h1
  clear h h1
  cases hb1 : Nat.beq b 1 with
  | true =>
    rw [hb1, cond_true] at h2
    obtain ⟨hxe, h3⟩ := h2
    subst hxe
    obtain ⟨hin, h4⟩ := mReq_of h3
    obtain ⟨-, -, -, -, -, -, w7, w8, w9, -⟩ := hW
    exact va_sld hx hb w7 w9 (Nat.not_le.mpr w8) hS (mInB_of hin) hd (hn _ _ _ _ _ _ _ h4 p ev s mi args below meth cd H locs ls C hP hS hL)
  | false =>
    rw [hb1, cond_false] at h2
    obtain ⟨hxb, h3⟩ := mReq_of h2
    obtain ⟨hin, h4⟩ := mReq_of h3
    obtain ⟨hxn, hxk⟩ := mIsB_of hxb
    exact va_iald hx hb hW.1 hP.1 x 0 (by rw [mLs_at g m o hxn, mCE_1 g m o hxk]) rfl (mInB_of hin) hd (hn _ _ _ _ _ _ _ h4 p ev s mi args below meth cd H locs ls C hP hS hL)
theorem ms_baload {l : Launch} {g : mG} {d k : Nat} {Φ : mR → Mm → Int64 → Prop} {MC MS : Nat} {pc len a b c : Nat} {ts : List Nat} {nx : Nat → List Value → List Value → Mm → Int64 → Nat → Nat → Prop} (hn : ∀ pc L S m o c s, nx pc L S m o c s → mWB l g d k Φ MC MS pc L S m o c s) {L S : List Value} {m : Mm} {o : Int64} {cN sN : Nat}
    (hd : decode (mBy k) pc = .ok (.baload, len)) (hln : mLnB (.baload) len = true) (hp : mPay k pc (.baload) a b c ts = true) (h : mStep l g d k Φ MC MS nx pc (.baload, len, a, b, c, ts) L S m o cN sN) : mWB l g d k Φ MC MS pc L S m o cN sN := by
  intro p ev s mi args below meth cd H locs ls C hP hS hL
  obtain ⟨hx, hb, hml, hr, hlk, hown, hts, htab, htr, hW, hB⟩ := id C
  have e1 : len = 1 := Nat.eq_of_beq_eq_true hln
  subst e1
  obtain ⟨j, x, t, rfl, h⟩ := mIR_of h
  obtain ⟨hxb, h⟩ := mReq_of h
  obtain ⟨hin, h⟩ := mReq_of h
  obtain ⟨hxn, hxk⟩ := mIsB_of hxb
  exact va_zald hx hb hW.1 hP.1 x 1 (by rw [mLs_at g m o hxn, mCE_2 g m o hxk]) rfl (mInB_of hin) hd (hn _ _ _ _ _ _ _ h p ev s mi args below meth cd H locs ls C hP hS hL)
theorem ms_laload {l : Launch} {g : mG} {d k : Nat} {Φ : mR → Mm → Int64 → Prop} {MC MS : Nat} {pc len a b c : Nat} {ts : List Nat} {nx : Nat → List Value → List Value → Mm → Int64 → Nat → Nat → Prop} (hn : ∀ pc L S m o c s, nx pc L S m o c s → mWB l g d k Φ MC MS pc L S m o c s) {L S : List Value} {m : Mm} {o : Int64} {cN sN : Nat}
    (hd : decode (mBy k) pc = .ok (.laload, len)) (hln : mLnB (.laload) len = true) (hp : mPay k pc (.laload) a b c ts = true) (h : mStep l g d k Φ MC MS nx pc (.laload, len, a, b, c, ts) L S m o cN sN) : mWB l g d k Φ MC MS pc L S m o cN sN := by
  intro p ev s mi args below meth cd H locs ls C hP hS hL
  obtain ⟨hx, hb, hml, hr, hlk, hown, hts, htab, htr, hW, hB⟩ := id C
  have e1 : len = 1 := Nat.eq_of_beq_eq_true hln
  subst e1
  obtain ⟨j, x, t, rfl, h⟩ := mIR_of h
  obtain ⟨hxb, h⟩ := mReq_of h
  obtain ⟨hin, h⟩ := mReq_of h
  obtain ⟨hxn, hxk⟩ := mIsB_of hxb
  exact va_lald hx hb hW.1 hP.1 x 2 (f := fun _ => o) (by rw [mLs_at g m o hxn, mCE_3 g m o hxk]) rfl (mInB_of hin) hd (hn _ _ _ _ _ _ _ h p ev s mi args below meth cd H locs ls C hP hS hL)
theorem ms_aaload {l : Launch} {g : mG} {d k : Nat} {Φ : mR → Mm → Int64 → Prop} {MC MS : Nat} {pc len a b c : Nat} {ts : List Nat} {nx : Nat → List Value → List Value → Mm → Int64 → Nat → Nat → Prop} (hn : ∀ pc L S m o c s, nx pc L S m o c s → mWB l g d k Φ MC MS pc L S m o c s) {L S : List Value} {m : Mm} {o : Int64} {cN sN : Nat}
    (hd : decode (mBy k) pc = .ok (.aaload, len)) (hln : mLnB (.aaload) len = true) (hp : mPay k pc (.aaload) a b c ts = true) (h : mStep l g d k Φ MC MS nx pc (.aaload, len, a, b, c, ts) L S m o cN sN) : mWB l g d k Φ MC MS pc L S m o cN sN := by
  intro p ev s mi args below meth cd H locs ls C hP hS hL
  obtain ⟨hx, hb, hml, hr, hlk, hown, hts, htab, htr, hW, hB⟩ := id C
  have e1 : len = 1 := Nat.eq_of_beq_eq_true hln
  subst e1
  obtain ⟨j, x, t, rfl, h⟩ := mIR_of h
  obtain ⟨hxb, h⟩ := mReq_of h
  obtain ⟨hin, h⟩ := mReq_of h
  obtain ⟨hxn, hx3, hx8⟩ := mRowB_of hxb
  have hlt : j.toNatClampNeg < mLn x := Nat.not_le.mp fun q => mInB_of hin (Or.inr q)
  have hc := hP.1 x _ (by rw [mLs_at g m o hxn, mCE_4 g m o hx3 hx8])
  obtain ⟨ty, hty, hrf⟩ : ∃ ty : FieldType, (mTys g)[mKd x - 1]? = some (gC g (mKd x - 1), ty) ∧ ty.isReference = true := by
    rcases (show mKd x = 4 ∨ mKd x = 5 ∨ mKd x = 6 ∨ mKd x = 7 by omega) with q | q | q | q <;> rw [q] <;> exact ⟨_, rfl, rfl⟩
  exact W.aald (v := .ref (gA g (mRF x j.toNatClampNeg))) (ty := ty) hx hb hc ((hW.1.2 _ _ hty).1 (mLn x) (fun i => va_rf (some (gA g (mRF x i))))) hrf (fun q => by cases q) (by show ¬ (j < 0 ∨ (arrV _ _ _).slots.size ≤ _); rw [arrV_size]; exact mInB_of hin) (by show (arrV _ _ _).slots[_]? = _; rw [arrV_read _ _ hlt]; rfl) rfl rfl hd (hn _ _ _ _ _ _ _ h p ev s mi args below meth cd H locs ls C hP hS hL)
theorem ms_iastore {l : Launch} {g : mG} {d k : Nat} {Φ : mR → Mm → Int64 → Prop} {MC MS : Nat} {pc len a b c : Nat} {ts : List Nat} {nx : Nat → List Value → List Value → Mm → Int64 → Nat → Nat → Prop} (hn : ∀ pc L S m o c s, nx pc L S m o c s → mWB l g d k Φ MC MS pc L S m o c s) {L S : List Value} {m : Mm} {o : Int64} {cN sN : Nat}
    (hd : decode (mBy k) pc = .ok (.iastore, len)) (hln : mLnB (.iastore) len = true) (hp : mPay k pc (.iastore) a b c ts = true) (h : mStep l g d k Φ MC MS nx pc (.iastore, len, a, b, c, ts) L S m o cN sN) : mWB l g d k Φ MC MS pc L S m o cN sN := by
  intro p ev s mi args below meth cd H locs ls C hP hS hL
  obtain ⟨hx, hb, hml, hr, hlk, hown, hts, htab, htr, hW, hB⟩ := id C
  have e1 : len = 1 := Nat.eq_of_beq_eq_true hln
  subst e1
  obtain ⟨v, j, x, t, rfl, h⟩ := mIIR_of h
  obtain ⟨hxb, h⟩ := mReq_of h
  obtain ⟨hin, h⟩ := mReq_of h
  obtain ⟨hxn, hxk⟩ := mIsB_of hxb
  refine va_iast hx hb hW.1 hP.1 hP.2 hS x 0 (by rw [mLs_at g m o hxn, mCE_1 g m o hxk]) rfl (mInB_of hin) hd (fun H1 locs1 hP1 hD1 hS1 => ?_)
  rw [mLs_set g (m' := mset m x j.toNatClampNeg v) (o' := o) _ (by rw [mCE_1 g _ o hxk, mset_eq]) (fun i hi => mCE_eq g o (mset_ne m _ v hi).symm)] at hP1 hD1
  exact (hn _ _ _ _ _ _ _ h p ev s mi args below meth cd H1 locs1 ls C ⟨hP1, hD1⟩ hS1 hL)
theorem ms_bastore {l : Launch} {g : mG} {d k : Nat} {Φ : mR → Mm → Int64 → Prop} {MC MS : Nat} {pc len a b c : Nat} {ts : List Nat} {nx : Nat → List Value → List Value → Mm → Int64 → Nat → Nat → Prop} (hn : ∀ pc L S m o c s, nx pc L S m o c s → mWB l g d k Φ MC MS pc L S m o c s) {L S : List Value} {m : Mm} {o : Int64} {cN sN : Nat}
    (hd : decode (mBy k) pc = .ok (.bastore, len)) (hln : mLnB (.bastore) len = true) (hp : mPay k pc (.bastore) a b c ts = true) (h : mStep l g d k Φ MC MS nx pc (.bastore, len, a, b, c, ts) L S m o cN sN) : mWB l g d k Φ MC MS pc L S m o cN sN := by
  intro p ev s mi args below meth cd H locs ls C hP hS hL
  obtain ⟨hx, hb, hml, hr, hlk, hown, hts, htab, htr, hW, hB⟩ := id C
  have e1 : len = 1 := Nat.eq_of_beq_eq_true hln
  subst e1
  obtain ⟨v, j, x, t, rfl, h⟩ := mIIR_of h
  obtain ⟨hxb, h⟩ := mReq_of h
  obtain ⟨hin, h⟩ := mReq_of h
  obtain ⟨h01, h⟩ := h
  obtain ⟨hxn, hxk⟩ := mIsB_of hxb
  refine va_zast hx hb hW.1 hP.1 hP.2 hS x 1 (by rw [mLs_at g m o hxn, mCE_2 g m o hxk]) rfl (mInB_of hin) hd (fun H1 locs1 hP1 hD1 hS1 => ?_)
  have hnv : vp_nar .boolean v = v := by rcases h01 with rfl | rfl <;> decide
  rw [hnv] at hP1 hD1
  rw [mLs_set g (m' := mset m x j.toNatClampNeg v) (o' := o) _ (by rw [mCE_2 g _ o hxk, mset_eq]) (fun i hi => mCE_eq g o (mset_ne m _ v hi).symm)] at hP1 hD1
  exact (hn _ _ _ _ _ _ _ h p ev s mi args below meth cd H1 locs1 ls C ⟨hP1, hD1⟩ hS1 hL)
theorem ms_lastore {l : Launch} {g : mG} {d k : Nat} {Φ : mR → Mm → Int64 → Prop} {MC MS : Nat} {pc len a b c : Nat} {ts : List Nat} {nx : Nat → List Value → List Value → Mm → Int64 → Nat → Nat → Prop} (hn : ∀ pc L S m o c s, nx pc L S m o c s → mWB l g d k Φ MC MS pc L S m o c s) {L S : List Value} {m : Mm} {o : Int64} {cN sN : Nat}
    (hd : decode (mBy k) pc = .ok (.lastore, len)) (hln : mLnB (.lastore) len = true) (hp : mPay k pc (.lastore) a b c ts = true) (h : mStep l g d k Φ MC MS nx pc (.lastore, len, a, b, c, ts) L S m o cN sN) : mWB l g d k Φ MC MS pc L S m o cN sN := by
  intro p ev s mi args below meth cd H locs ls C hP hS hL
  obtain ⟨hx, hb, hml, hr, hlk, hown, hts, htab, htr, hW, hB⟩ := id C
  have e1 : len = 1 := Nat.eq_of_beq_eq_true hln
  subst e1
  obtain ⟨v, j, x, t, rfl, hxe, h2⟩ := mLIR_of h
  clear h
  subst hxe
  obtain ⟨hin, h2⟩ := mReq_of h2
  have hxk : mKd aOut = 3 := by decide
  have hxn : aOut < mNc := by decide
  have hl1 : mLn aOut = 1 := by decide
  have hj : j.toNatClampNeg = 0 := by
    have := mInB_of hin
    have h2 : j.toNatClampNeg < 1 := Nat.not_le.mp fun q => this (Or.inr q)
    omega
  have hc3 : (mLs g m o)[aOut]? = some (gA g aOut, .inl (gC g 2, mLn aOut, .inr (.inl (fun _ => o)))) := by rw [mLs_at g m o hxn, mCE_3 g m o hxk]
  refine va_last hx hb hW.1 hP.1 hP.2 hS aOut 2 hc3 rfl (by rw [hl1]; exact mInB_of hin) hd (fun H1 locs1 hP1 hD1 hS1 => ?_)
  have hset := mLs_set g (m := m) (m' := m) (o := o) (o' := v) (k := aOut) (.inl (gC g 2, mLn aOut, .inr (.inl (fun _ => v)))) (by rw [mCE_3 g m v hxk]) (fun i hi => by
    by_cases hi3 : mKd i = 3
    · exact absurd (mOut_one i hi3) hi
    · exact mCE_o g m o v hi3)
  have hP2 : va_P g.1 vwCl (mLs g m v) H1 := by
    rw [← hset]
    intro z q hz
    by_cases hza : z = aOut
    · subst hza
      rw [List.getElem?_set_self (by rw [List.getElem?_eq_some_iff] at hc3; exact hc3.1)] at hz
      cases hz
      have h9 := hP1 aOut _ (List.getElem?_set_self (by rw [List.getElem?_eq_some_iff] at hc3; exact hc3.1))
      show H1[gA g aOut]? = some (vp_cell (gC g 2) (mLn aOut, .inr (.inl (fun _ => v))))
      rw [show H1[gA g aOut]? = some (vp_cell (gC g 2) (mLn aOut, .inr (.inl (vp_updL (fun _ => o) j.toNatClampNeg v)))) from h9]
      refine congrArg some ?_
      rw [vp_cell_l, vp_cell_l, hl1, hj]
      unfold arrV
      refine congrArg (fun z => ({ cls := gC g 2, slots := z, vm := .none } : Cell)) ?_
      apply Array.ext
      · simp
      · intro i h1 h2
        simp at h1
        subst h1
        simp [vp_updL]
    · rw [List.getElem?_set_ne (fun q => hza q.symm)] at hz
      exact hP1 z q (by rw [List.getElem?_set_ne (fun q => hza q.symm)]; exact hz)
  have hD2 : va_D (mA g) (mLs g m v) := mD_any hP.2
  exact (hn _ _ _ _ _ _ _ h2 p ev s mi args below meth cd H1 locs1 ls C ⟨hP2, hD2⟩ hS1 hL)
theorem ms_arraylength {l : Launch} {g : mG} {d k : Nat} {Φ : mR → Mm → Int64 → Prop} {MC MS : Nat} {pc len a b c : Nat} {ts : List Nat} {nx : Nat → List Value → List Value → Mm → Int64 → Nat → Nat → Prop} (hn : ∀ pc L S m o c s, nx pc L S m o c s → mWB l g d k Φ MC MS pc L S m o c s) {L S : List Value} {m : Mm} {o : Int64} {cN sN : Nat}
    (hd : decode (mBy k) pc = .ok (.arraylength, len)) (hln : mLnB (.arraylength) len = true) (hp : mPay k pc (.arraylength) a b c ts = true) (h : mStep l g d k Φ MC MS nx pc (.arraylength, len, a, b, c, ts) L S m o cN sN) : mWB l g d k Φ MC MS pc L S m o cN sN := by
  intro p ev s mi args below meth cd H locs ls C hP hS hL
  obtain ⟨hx, hb, hml, hr, hlk, hown, hts, htab, htr, hW, hB⟩ := id C
  have e1 : len = 1 := Nat.eq_of_beq_eq_true hln
  subst e1
  obtain ⟨x, t, rfl, h1⟩ := m1r_of h
  have h2 : (bif Nat.beq b 1 then (x = mScr ∧ nx (pc + 1) L (.int (Int32.ofNat (gL g)) :: t) m o cN sN) else mReq (mArrB x) (nx (pc + 1) L (.int (Int32.ofNat (mLn x)) :: t) m o cN sN)) := h1
  clear h h1
  cases hb1 : Nat.beq b 1 with
  | true =>
    rw [hb1, cond_true] at h2
    obtain ⟨hxe, h3⟩ := h2
    subst hxe
    obtain ⟨-, -, -, -, -, -, w7, w8, w9, -⟩ := hW
    exact va_slen hx hb w7 w9 (Nat.not_le.mpr w8) hS hd (hn _ _ _ _ _ _ _ h3 p ev s mi args below meth cd H locs ls C hP hS hL)
  | false =>
    rw [hb1, cond_false] at h2
    obtain ⟨hxb, h3⟩ := mReq_of h2
    obtain ⟨hxn, hx0, hx8⟩ := mArrB_of hxb
    rcases (show mKd x = 1 ∨ mKd x = 2 ∨ mKd x = 3 ∨ (3 < mKd x ∧ mKd x < 8) by omega) with q | q | q | ⟨q, q2⟩
    · exact va_alen (x := ((mLn x, .inl (m x)) : vp_A)) hx hb hW.1 hP.1 x 0 (by rw [mLs_at g m o hxn, mCE_1 g m o q]) (ty := .int) rfl rfl hd (hn _ _ _ _ _ _ _ h3 p ev s mi args below meth cd H locs ls C hP hS hL)
    · exact va_alen (x := ((mLn x, .inl (m x)) : vp_A)) hx hb hW.1 hP.1 x 1 (by rw [mLs_at g m o hxn, mCE_2 g m o q]) (ty := .boolean) rfl rfl hd (hn _ _ _ _ _ _ _ h3 p ev s mi args below meth cd H locs ls C hP hS hL)
    · exact va_alen (x := ((mLn x, .inr (.inl (fun _ => o))) : vp_A)) hx hb hW.1 hP.1 x 2 (by rw [mLs_at g m o hxn, mCE_3 g m o q]) (ty := .long) rfl rfl hd (hn _ _ _ _ _ _ _ h3 p ev s mi args below meth cd H locs ls C hP hS hL)
    · obtain ⟨ty, hty⟩ : ∃ ty : FieldType, (mTys g)[mKd x - 1]? = some (gC g (mKd x - 1), ty) := by
        rcases (show mKd x = 4 ∨ mKd x = 5 ∨ mKd x = 6 ∨ mKd x = 7 by omega) with q | q | q | q <;> rw [q] <;> exact ⟨_, rfl⟩
      exact va_alen (x := ((mLn x, .inr (.inr (.inr (.inr (fun i => some (gA g (mRF x i))))))) : vp_A)) hx hb hW.1 hP.1 x (mKd x - 1) (by rw [mLs_at g m o hxn, mCE_4 g m o q q2]) hty rfl hd (hn _ _ _ _ _ _ _ h3 p ev s mi args below meth cd H locs ls C hP hS hL)
theorem ms_ldc {l : Launch} {g : mG} {d k : Nat} {Φ : mR → Mm → Int64 → Prop} {MC MS : Nat} {pc len a b c : Nat} {ts : List Nat} {nx : Nat → List Value → List Value → Mm → Int64 → Nat → Nat → Prop} (hn : ∀ pc L S m o c s, nx pc L S m o c s → mWB l g d k Φ MC MS pc L S m o c s) {L S : List Value} {m : Mm} {o : Int64} {cN sN : Nat} {i : Nat}
    (hd : decode (mBy k) pc = .ok (.ldc i, len)) (hln : mLnB (.ldc i) len = true) (hp : mPay k pc (.ldc i) a b c ts = true) (h : mStep l g d k Φ MC MS nx pc (.ldc i, len, a, b, c, ts) L S m o cN sN) : mWB l g d k Φ MC MS pc L S m o cN sN := by
  intro p ev s mi args below meth cd H locs ls C hP hS hL
  obtain ⟨hx, hb, hml, hr, hlk, hown, hts, htab, htr, hW, hB⟩ := id C
  have e1 : len = 2 := Nat.eq_of_beq_eq_true hln
  subst e1
  have hp : (if c = 1 then mStr.any (fun q => q.1 == mCn (mOc k) && q.2.1 == i && q.2.2 == a) else if c = 2 then mKs.any (fun q => q.1 == mOc k && q.2.1 == i && q.2.2.1 == a && decide (lw_tbl[q.2.2.2.1]? = some (.constant (mCn q.1) q.2.1 (Int32.ofNat q.2.2.1)))) else true) = true := hp
  cases hc1 : Nat.beq c 1 with
  | true =>
    have h : (bif Nat.beq c 1 then nx (pc + 2) L (.ref (mSt a) :: S) m o cN sN else bif Nat.beq c 2 then nx (pc + 2) L (.int (Int32.ofNat a) :: S) m o cN sN else False) := h
    rw [hc1, cond_true] at h
    rw [if_pos (Nat.eq_of_beq_eq_true hc1)] at hp
    obtain ⟨q, hq, hq2⟩ := List.any_eq_true.mp hp
    simp only [Bool.and_eq_true, beq_iff_eq] at hq2
    obtain ⟨⟨e1, e2⟩, e3⟩ := hq2
    obtain ⟨-, -, w3, -, -, -, -, -, -, w10, -⟩ := hW
    have hz := w3 q hq
    rw [e1, e2, e3] at hz
    have hlt : a < mTx.length := by
      have := List.all_eq_true.mp mStr_lt q hq
      rw [e3] at this
      exact of_decide_eq_true this
    have hadr : mtr (gA g) (.ref (mSt a)) = .ref (gK g a) := congrArg Value.ref (w10 a hlt)
    refine va_ldcS hx hb hown hz hd ?_
    rw [← hadr]
    exact (hn _ _ _ _ _ _ _ h p ev s mi args below meth cd H locs ls C hP hS hL)
  | false =>
    have h : (bif Nat.beq c 1 then nx (pc + 2) L (.ref (mSt a) :: S) m o cN sN else bif Nat.beq c 2 then nx (pc + 2) L (.int (Int32.ofNat a) :: S) m o cN sN else False) := h
    rw [hc1, cond_false] at h
    cases hc2 : Nat.beq c 2 with
    | false => rw [hc2, cond_false] at h; exact h.elim
    | true =>
      rw [hc2, cond_true] at h
      have e2 : c = 2 := Nat.eq_of_beq_eq_true hc2
      rw [if_neg (by omega), if_pos e2] at hp
      exact lv_ldc hx hb hown (hts _ (List.mem_cons_of_mem _ (mKs_in hp))) hd (hn _ _ _ _ _ _ _ h p ev s mi args below meth cd H locs ls C hP hS hL)
theorem ms_ldc_w {l : Launch} {g : mG} {d k : Nat} {Φ : mR → Mm → Int64 → Prop} {MC MS : Nat} {pc len a b c : Nat} {ts : List Nat} {nx : Nat → List Value → List Value → Mm → Int64 → Nat → Nat → Prop} (hn : ∀ pc L S m o c s, nx pc L S m o c s → mWB l g d k Φ MC MS pc L S m o c s) {L S : List Value} {m : Mm} {o : Int64} {cN sN : Nat} {i : Nat}
    (hd : decode (mBy k) pc = .ok (.ldc_w i, len)) (hln : mLnB (.ldc_w i) len = true) (hp : mPay k pc (.ldc_w i) a b c ts = true) (h : mStep l g d k Φ MC MS nx pc (.ldc_w i, len, a, b, c, ts) L S m o cN sN) : mWB l g d k Φ MC MS pc L S m o cN sN := by
  intro p ev s mi args below meth cd H locs ls C hP hS hL
  obtain ⟨hx, hb, hml, hr, hlk, hown, hts, htab, htr, hW, hB⟩ := id C
  have e1 : len = 3 := Nat.eq_of_beq_eq_true hln
  subst e1
  have hp : (if c = 2 then mKs.any (fun q => q.1 == mOc k && q.2.1 == i && q.2.2.1 == a && decide (lw_tbl[q.2.2.2.1]? = some (.constant (mCn q.1) q.2.1 (Int32.ofNat q.2.2.1)))) else true) = true := hp
  have h : (bif Nat.beq c 2 then nx (pc + 3) L (.int (Int32.ofNat a) :: S) m o cN sN else False) := h
  cases hc2 : Nat.beq c 2 with
  | false => rw [hc2, cond_false] at h; exact h.elim
  | true =>
    rw [hc2, cond_true] at h
    rw [if_pos (Nat.eq_of_beq_eq_true hc2)] at hp
    exact lv_ldcw hx hb hown (hts _ (List.mem_cons_of_mem _ (mKs_in hp))) hd (hn _ _ _ _ _ _ _ h p ev s mi args below meth cd H locs ls C hP hS hL)
theorem ms_ldc2_w {l : Launch} {g : mG} {d k : Nat} {Φ : mR → Mm → Int64 → Prop} {MC MS : Nat} {pc len a b c : Nat} {ts : List Nat} {nx : Nat → List Value → List Value → Mm → Int64 → Nat → Nat → Prop} (hn : ∀ pc L S m o c s, nx pc L S m o c s → mWB l g d k Φ MC MS pc L S m o c s) {L S : List Value} {m : Mm} {o : Int64} {cN sN : Nat} {i : Nat}
    (hd : decode (mBy k) pc = .ok (.ldc2_w i, len)) (hln : mLnB (.ldc2_w i) len = true) (hp : mPay k pc (.ldc2_w i) a b c ts = true) (h : mStep l g d k Φ MC MS nx pc (.ldc2_w i, len, a, b, c, ts) L S m o cN sN) : mWB l g d k Φ MC MS pc L S m o cN sN := by
  intro p ev s mi args below meth cd H locs ls C hP hS hL
  obtain ⟨hx, hb, hml, hr, hlk, hown, hts, htab, htr, hW, hB⟩ := id C
  have e1 : len = 3 := Nat.eq_of_beq_eq_true hln
  subst e1
  have hp : (if c = 2 then mKs.any (fun q => q.1 == mOc k && q.2.1 == i && q.2.2.1 == a && decide (lw_tbl[q.2.2.2.1]? = some (.constantLong (mCn q.1) q.2.1 (Int64.ofNat q.2.2.1)))) else true) = true := hp
  have h : (bif Nat.beq c 2 then nx (pc + 3) L (.long (Int64.ofNat a) :: S) m o cN sN else False) := h
  cases hc2 : Nat.beq c 2 with
  | false => rw [hc2, cond_false] at h; exact h.elim
  | true =>
    rw [hc2, cond_true] at h
    rw [if_pos (Nat.eq_of_beq_eq_true hc2)] at hp
    exact lv_ldc2 hx hb hown (hts _ (List.mem_cons_of_mem _ (mKs_inL hp))) hd (hn _ _ _ _ _ _ _ h p ev s mi args below meth cd H locs ls C hP hS hL)
theorem ms_ireturn {l : Launch} {g : mG} {d k : Nat} {Φ : mR → Mm → Int64 → Prop} {MC MS : Nat} {pc len a b c : Nat} {ts : List Nat} {nx : Nat → List Value → List Value → Mm → Int64 → Nat → Nat → Prop} (hn : ∀ pc L S m o c s, nx pc L S m o c s → mWB l g d k Φ MC MS pc L S m o c s) {L S : List Value} {m : Mm} {o : Int64} {cN sN : Nat}
    (hd : decode (mBy k) pc = .ok (.ireturn, len)) (hln : mLnB (.ireturn) len = true) (hp : mPay k pc (.ireturn) a b c ts = true) (h : mStep l g d k Φ MC MS nx pc (.ireturn, len, a, b, c, ts) L S m o cN sN) : mWB l g d k Φ MC MS pc L S m o cN sN := by
  intro p ev s mi args below meth cd H locs ls C hP hS hL
  obtain ⟨hx, hb, hml, hr, hlk, hown, hts, htab, htr, hW, hB⟩ := id C
  have e1 : len = 1 := Nat.eq_of_beq_eq_true hln
  subst e1
  have hp : (if a = 0 then decide (mRt k = some .int) else if a = 1 then decide (mRt k = some .boolean) else true) = true := hp
  obtain ⟨x, rfl, h2⟩ := mEi_of h
  have h2 : (bif Nat.beq a 0 then Φ (.inl (some (.int x))) m o ∧ cN ≤ MC ∧ sN ≤ MS else bif Nat.beq a 1 then (x = 0 ∨ x = 1) ∧ Φ (.inl (some (.int x))) m o ∧ cN ≤ MC ∧ sN ≤ MS else False) := h2
  clear h
  cases ha0 : Nat.beq a 0 with
  | true =>
    rw [ha0, cond_true] at h2
    obtain ⟨hf, hc1, hc2⟩ := h2
    rw [if_pos (Nat.eq_of_beq_eq_true ha0), decide_eq_true_eq] at hp
    exact vx_ret (W.widen hc1 hc2 (W.iret hx hb (hr.trans hp) (fun t ht hw => ⟨⟨some (.int x), m, o, rfl, hf, by rw [ht]; exact hP⟩, hS.F ht⟩) hS.2.2 hd hlk))
  | false =>
    rw [ha0, cond_false] at h2
    cases ha1 : Nat.beq a 1 with
    | false => rw [ha1, cond_false] at h2; exact h2.elim
    | true =>
      rw [ha1, cond_true] at h2
      obtain ⟨h01, hf, hc1, hc2⟩ := h2
      have e1 : a = 1 := Nat.eq_of_beq_eq_true ha1
      rw [if_neg (by omega), if_pos e1, decide_eq_true_eq] at hp
      exact vx_ret (W.widen hc1 hc2 (W.zret hx hb (hr.trans hp) (by rcases h01 with rfl | rfl <;> rfl) (fun t ht hw => ⟨⟨some (.int x), m, o, rfl, hf, by rw [ht]; exact hP⟩, hS.F ht⟩) hS.2.2 hd hlk))
theorem ms_lreturn {l : Launch} {g : mG} {d k : Nat} {Φ : mR → Mm → Int64 → Prop} {MC MS : Nat} {pc len a b c : Nat} {ts : List Nat} {nx : Nat → List Value → List Value → Mm → Int64 → Nat → Nat → Prop} (hn : ∀ pc L S m o c s, nx pc L S m o c s → mWB l g d k Φ MC MS pc L S m o c s) {L S : List Value} {m : Mm} {o : Int64} {cN sN : Nat}
    (hd : decode (mBy k) pc = .ok (.lreturn, len)) (hln : mLnB (.lreturn) len = true) (hp : mPay k pc (.lreturn) a b c ts = true) (h : mStep l g d k Φ MC MS nx pc (.lreturn, len, a, b, c, ts) L S m o cN sN) : mWB l g d k Φ MC MS pc L S m o cN sN := by
  intro p ev s mi args below meth cd H locs ls C hP hS hL
  obtain ⟨hx, hb, hml, hr, hlk, hown, hts, htab, htr, hW, hB⟩ := id C
  have e1 : len = 1 := Nat.eq_of_beq_eq_true hln
  subst e1
  obtain ⟨x, rfl, hf, hc1, hc2⟩ := mEl_of h
  exact vx_ret (W.widen hc1 hc2 (W.lret hx hb (hr.trans (of_decide_eq_true hp)) (fun t ht hw => ⟨⟨some (.long x), m, o, rfl, hf, by rw [ht]; exact hP⟩, hS.F ht⟩) hS.2.2 hd hlk))
theorem ms_return_ {l : Launch} {g : mG} {d k : Nat} {Φ : mR → Mm → Int64 → Prop} {MC MS : Nat} {pc len a b c : Nat} {ts : List Nat} {nx : Nat → List Value → List Value → Mm → Int64 → Nat → Nat → Prop} (hn : ∀ pc L S m o c s, nx pc L S m o c s → mWB l g d k Φ MC MS pc L S m o c s) {L S : List Value} {m : Mm} {o : Int64} {cN sN : Nat}
    (hd : decode (mBy k) pc = .ok (.return_, len)) (hln : mLnB (.return_) len = true) (hp : mPay k pc (.return_) a b c ts = true) (h : mStep l g d k Φ MC MS nx pc (.return_, len, a, b, c, ts) L S m o cN sN) : mWB l g d k Φ MC MS pc L S m o cN sN := by
  intro p ev s mi args below meth cd H locs ls C hP hS hL
  obtain ⟨hx, hb, hml, hr, hlk, hown, hts, htab, htr, hW, hB⟩ := id C
  have e1 : len = 1 := Nat.eq_of_beq_eq_true hln
  subst e1
  obtain ⟨rfl, hf, hc1, hc2⟩ := mEv_of h
  exact vx_ret (W.widen hc1 hc2 (W.vret hx hb (hr.trans (of_decide_eq_true hp)) (fun t ht hw => ⟨⟨none, m, o, rfl, hf, by rw [ht]; exact hP⟩, hS.F ht⟩) hS.2.2 hd hlk))
theorem ms_areturn {l : Launch} {g : mG} {d k : Nat} {Φ : mR → Mm → Int64 → Prop} {MC MS : Nat} {pc len a b c : Nat} {ts : List Nat} {nx : Nat → List Value → List Value → Mm → Int64 → Nat → Nat → Prop} (hn : ∀ pc L S m o c s, nx pc L S m o c s → mWB l g d k Φ MC MS pc L S m o c s) {L S : List Value} {m : Mm} {o : Int64} {cN sN : Nat}
    (hd : decode (mBy k) pc = .ok (.areturn, len)) (hln : mLnB (.areturn) len = true) (hp : mPay k pc (.areturn) a b c ts = true) (h : mStep l g d k Φ MC MS nx pc (.areturn, len, a, b, c, ts) L S m o cN sN) : mWB l g d k Φ MC MS pc L S m o cN sN := by
  intro p ev s mi args below meth cd H locs ls C hP hS hL
  obtain ⟨hx, hb, hml, hr, hlk, hown, hts, htab, htr, hW, hB⟩ := id C
  have e1 : len = 1 := Nat.eq_of_beq_eq_true hln
  subst e1
  have hp : (if a = 0 then (match mRt k with | some (.object _) => true | some (.array _) => true | _ => false) else true) = true := hp
  have hrt : a = 0 → ∃ rt, mRt k = some rt ∧ ((∃ n, rt = .object n) ∨ ∃ t, rt = .array t) := fun e0 => by
    rw [if_pos e0] at hp
    cases hq : mRt k with
    | none => rw [hq] at hp; cases hp
    | some rt =>
      rw [hq] at hp
      cases rt with
      | object n => exact ⟨_, rfl, Or.inl ⟨n, rfl⟩⟩
      | array t => exact ⟨_, rfl, Or.inr ⟨t, rfl⟩⟩
      | _ => cases hp
  have h : mEr S (fun v => mReq (Nat.beq a 0) (Φ (.inl (some v)) m o ∧ cN ≤ MC ∧ sN ≤ MS)) := h
  rcases mEr_of h with ⟨x, rfl, h2⟩ | ⟨rfl, h2⟩
  · obtain ⟨ha0, hf, hc1, hc2⟩ := mReq_of h2
    obtain ⟨rt, h3, h4⟩ := hrt (Nat.eq_of_beq_eq_true ha0)
    exact vx_ret (W.widen hc1 hc2 (W.aret hx hb (hr.trans h3) h4 (Or.inr ⟨_, rfl⟩) (fun t ht hw => ⟨⟨some (.ref x), m, o, rfl, hf, by rw [ht]; exact hP⟩, hS.F ht⟩) hS.2.2 hd hlk))
  · obtain ⟨ha0, hf, hc1, hc2⟩ := mReq_of h2
    obtain ⟨rt, h3, h4⟩ := hrt (Nat.eq_of_beq_eq_true ha0)
    exact vx_ret (W.widen hc1 hc2 (W.aret hx hb (hr.trans h3) h4 (Or.inl rfl) (fun t ht hw => ⟨⟨some .null, m, o, rfl, hf, by rw [ht]; exact hP⟩, hS.F ht⟩) hS.2.2 hd hlk))
