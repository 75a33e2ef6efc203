set_option maxRecDepth 100000
/-! THE JDK's METHODS that the class calls -/
section J0
variable {l : Launch} {g : mG} {d k : Nat} {Φ : mR → Mm → Int64 → Prop} {MC MS : Nat} {pc : Nat} {L S : List Value} {m : Mm} {o : Int64} {cN sN : Nat} {ix a b c : Nat} {ts : List Nat}
theorem jr_value {i : Nat} (hk : mChk k = true) (he : mFind (mCd k) pc = some (.getfield ix, 3, a, b, c, ts)) (hoc : mCn (mOc k) = "java/lang/String") (hlk : Cond.fieldLink "java/lang/String" ix "java/lang/String" "value" "[B" ∈ mGW) (hi : i < mTx.length)
    (kk : mWB l g d k Φ MC MS (pc + 3) L (.ref (mVt i) :: S) m o cN sN) : mWB l g d k Φ MC MS pc L (.ref (mSt i) :: S) m o cN sN := by
  intro p ev s mi args below meth cd H locs ls C hP hS hL
  obtain ⟨hx, hb, hml, hr, hlk2, hown, hts, htab, htr, hW, hB⟩ := id C
  obtain ⟨hd, -, -⟩ := mDec hk he
  obtain ⟨w1, w2, w3, w4, w5, w6, w7, w8, w9, w10, w11, w12, w13, w14, w15, w16, w17⟩ := id hW
  show W p l ev _ s mi args below meth cd H locs cN sN _ (F0 mi pc ls (.ref (gA g (mSt i)) :: S.map (mtr (gA g))))
  rw [w10 i hi]
  rw [hoc] at hown
  refine vk_getf hx hb (w4.1 i hi).2.2.1 hS hown (hts _ (List.mem_cons_of_mem _ hlk)) (fun x h => h) hd ?_
  rw [← w15 i hi]
  exact kk p ev s mi args below meth cd H locs ls C hP hS hL
theorem jr_coder {i : Nat} (hk : mChk k = true) (he : mFind (mCd k) pc = some (.getfield ix, 3, a, b, c, ts)) (hoc : mCn (mOc k) = "java/lang/String") (hlk : Cond.fieldLink "java/lang/String" ix "java/lang/String" "coder" "B" ∈ mGW) (hi : i < mTx.length)
    (kk : mWB l g d k Φ MC MS (pc + 3) L (.int 0 :: S) m o cN sN) : mWB l g d k Φ MC MS pc L (.ref (mSt i) :: S) m o cN sN := by
  intro p ev s mi args below meth cd H locs ls C hP hS hL
  obtain ⟨hx, hb, hml, hr, hlk2, hown, hts, htab, htr, hW, hB⟩ := id C
  obtain ⟨hd, -, -⟩ := mDec hk he
  obtain ⟨w1, w2, w3, w4, w5, w6, w7, w8, w9, w10, w11, w12, w13, w14, w15, w16, w17⟩ := id hW
  show W p l ev _ s mi args below meth cd H locs cN sN _ (F0 mi pc ls (.ref (gA g (mSt i)) :: S.map (mtr (gA g))))
  rw [w10 i hi]
  rw [hoc] at hown
  refine vk_getf hx hb (w4.1 i hi).2.1 hS hown (hts _ (List.mem_cons_of_mem _ hlk)) (fun x h => h) hd ?_
  exact kk p ev s mi args below meth cd H locs ls C hP hS hL
theorem jr_compact (hk : mChk k = true) (he : mFind (mCd k) pc = some (.getstatic ix, 3, a, b, c, ts)) (hoc : mCn (mOc k) = "java/lang/String") (hlk : Cond.fieldLink "java/lang/String" ix "java/lang/String" "COMPACT_STRINGS" "Z" ∈ mGW)
    (kk : mWB l g d k Φ MC MS (pc + 3) L (.int 1 :: S) m o cN sN) : mWB l g d k Φ MC MS pc L S m o cN sN := by
  intro p ev s mi args below meth cd H locs ls C hP hS hL
  obtain ⟨hx, hb, hml, hr, hlk2, hown, hts, htab, htr, hW, hB⟩ := id C
  obtain ⟨hd, -, -⟩ := mDec hk he
  obtain ⟨w1, w2, w3, w4, w5, w6, w7, w8, w9, w10, w11, w12, w13, w14, w15, w16, w17⟩ := id hW
  rw [hoc] at hown
  exact va_gets hx hb w11 hS hown (hts _ (List.mem_cons_of_mem _ hlk)) (fun x h => h) hd (kk p ev s mi args below meth cd H locs ls C hP hS hL)
theorem jr_form (hk : mChk k = true) (he : mFind (mCd k) pc = some (.getstatic ix, 3, a, b, c, ts)) (hoc : mCn (mOc k) = "java/lang/String") (hlk : Cond.fieldLink "java/lang/String" ix "jdk/internal/util/Preconditions" "SIOOBE_FORMATTER" "Ljava/util/function/BiFunction;" ∈ mGW)
    (k1 : mWB l g d k Φ MC MS (pc + 3) L (.null :: S) m o cN sN) (k2 : mWB l g d k Φ MC MS (pc + 3) L (.ref mFm :: S) m o cN sN) : mWB l g d k Φ MC MS pc L S m o cN sN := by
  intro p ev s mi args below meth cd H locs ls C hP hS hL
  obtain ⟨hx, hb, hml, hr, hlk2, hown, hts, htab, htr, hW, hB⟩ := id C
  obtain ⟨hd, -, -⟩ := mDec hk he
  obtain ⟨w1, w2, w3, w4, w5, w6, w7, w8, w9, w10, w11, w12, w13, w14, w15, w16, w17⟩ := id hW
  rw [hoc] at hown
  rcases w14 with w14 | w14
  · exact va_gets hx hb w14 hS hown (hts _ (List.mem_cons_of_mem _ hlk)) (fun x h => h) hd (k1 p ev s mi args below meth cd H locs ls C hP hS hL)
  · exact va_gets hx hb w14 hS hown (hts _ (List.mem_cons_of_mem _ hlk)) (fun x h => h) hd (k2 p ev s mi args below meth cd H locs ls C hP hS hL)
theorem jr_len {i : Nat} (hk : mChk k = true) (he : mFind (mCd k) pc = some (.arraylength, 1, a, b, c, ts)) (hi : i < mTx.length)
    (kk : mWB l g d k Φ MC MS (pc + 1) L (.int (nI (mTl.getD i 0)) :: S) m o cN sN) : mWB l g d k Φ MC MS pc L (.ref (mVt i) :: S) m o cN sN := by
  intro p ev s mi args below meth cd H locs ls C hP hS hL
  obtain ⟨hx, hb, hml, hr, hlk2, hown, hts, htab, htr, hW, hB⟩ := id C
  obtain ⟨hd, -, -⟩ := mDec hk he
  obtain ⟨w1, w2, w3, w4, w5, w6, w7, w8, w9, w10, w11, w12, w13, w14, w15, w16, w17⟩ := id hW
  show W p l ev _ s mi args below meth cd H locs cN sN _ (F0 mi pc ls (.ref (gA g (mVt i)) :: S.map (mtr (gA g))))
  rw [w15 i hi]
  exact va_tlen hx hb (w4.1 i hi).2.2.2 hS rfl hd (kk p ev s mi args below meth cd H locs ls C hP hS hL)
theorem jr_byte {i j : Nat} (hk : mChk k = true) (he : mFind (mCd k) pc = some (.baload, 1, a, b, c, ts)) (hi : i < mTx.length) (hj : j < mTl.getD i 0) (hj2 : j < 2 ^ 31)
    (kk : mWB l g d k Φ MC MS (pc + 1) L (.int ((mTb.getD i []).getD j 0) :: S) m o cN sN) : mWB l g d k Φ MC MS pc L (.int (nI j) :: .ref (mVt i) :: S) m o cN sN := by
  intro p ev s mi args below meth cd H locs ls C hP hS hL
  obtain ⟨hx, hb, hml, hr, hlk2, hown, hts, htab, htr, hW, hB⟩ := id C
  obtain ⟨hd, -, -⟩ := mDec hk he
  obtain ⟨w1, w2, w3, w4, w5, w6, w7, w8, w9, w10, w11, w12, w13, w14, w15, w16, w17⟩ := id hW
  show W p l ev _ s mi args below meth cd H locs cN sN _ (F0 mi pc ls (.int (nI j) :: .ref (gA g (mVt i)) :: S.map (mtr (gA g))))
  rw [w15 i hi]
  refine va_tb hx hb (w4.1 i hi).2.2.2 hS (i := nI j) (v := .int ((mTb.getD i []).getD j 0)) ?_ (by rw [nI_clamp hj2]) hd (kk p ev s mi args below meth cd H locs ls C hP hS hL)
  rintro (q | q)
  · exact nI_pos hj2 q
  · rw [nI_clamp hj2] at q; omega
theorem jr_i2c {x : Int32} (hk : mChk k = true) (he : mFind (mCd k) pc = some (.i2c, 1, a, b, c, ts))
    (kk : mWB l g d k Φ MC MS (pc + 1) L (.int (x.toUInt32 % 65536).toInt32 :: S) m o cN sN) : mWB l g d k Φ MC MS pc L (.int x :: S) m o cN sN := by
  intro p ev s mi args below meth cd H locs ls C hP hS hL
  obtain ⟨hx, hb, hml, hr, hlk2, hown, hts, htab, htr, hW, hB⟩ := id C
  obtain ⟨hd, -, -⟩ := mDec hk he
  exact lv_i2c hx hb hd rfl (kk p ev s mi args below meth cd H locs ls C hP hS hL)
theorem jr_ret {x : Int32} {ty : FieldType} (hk : mChk k = true) (he : mFind (mCd k) pc = some (.ireturn, 1, a, b, c, ts)) (hrt : mRt k = some ty) (hn : narrow ty (.int x) = .int x) (hf : Φ (.inl (some (.int x))) m o) (h1 : cN ≤ MC) (h2 : sN ≤ MS) : mWB l g d k Φ MC MS pc L [.int x] m o cN sN := by
  intro p ev s mi args below meth cd H locs ls C hP hS hL
  obtain ⟨hx, hb, hml, hr, hlk, hown, hts, htab, htr, hW, hB⟩ := id C
  obtain ⟨hd, -, -⟩ := mDec hk he
  exact vx_ret (W.widen h1 h2 (W.zret hx hb (hr.trans hrt) hn (fun t ht hw => ⟨⟨some (.int x), m, o, rfl, hf, by rw [ht]; exact hP⟩, hS.F ht⟩) hS.2.2 hd hlk))
/-- fewer cells are asked -/
theorem mWB_widen {cN' sN' : Nat} (h : mWB l g d k Φ MC MS pc L S m o cN' sN') (h1 : cN ≤ cN') (h2 : sN ≤ sN') : mWB l g d k Φ MC MS pc L S m o cN sN := fun p ev s mi args below meth cd H locs ls C hP hS hL => W.widen h1 h2 (h p ev s mi args below meth cd H locs ls C hP hS hL)
end J0
theorem jl_cs : Cond.fieldLink "java/lang/String" 38 "java/lang/String" "COMPACT_STRINGS" "Z" ∈ mGW := List.mem_filter.mpr ⟨by decide +kernel, rfl⟩
theorem jl_co : Cond.fieldLink "java/lang/String" 15 "java/lang/String" "coder" "B" ∈ mGW := List.mem_filter.mpr ⟨by decide +kernel, rfl⟩
theorem jl_va : Cond.fieldLink "java/lang/String" 9 "java/lang/String" "value" "[B" ∈ mGW := List.mem_filter.mpr ⟨by decide +kernel, rfl⟩
theorem jl_fo : Cond.fieldLink "java/lang/String" 1053 "jdk/internal/util/Preconditions" "SIOOBE_FORMATTER" "Ljava/util/function/BiFunction;" ∈ mGW := List.mem_filter.mpr ⟨by decide +kernel, rfl⟩
/-- the i-th text's length and signs -/
def tLen (i : Nat) : Nat := mTl.getD i 0
def tCh (i j : Nat) : Int32 := (mTb.getD i []).getD j 0
theorem tCh_c : ∀ i, i < 19 → ∀ j, j < tLen i → ((tCh i j &&& 255).toUInt32 % 65536).toInt32 = tCh i j ∧ narrow .char (.int (tCh i j)) = .int (tCh i j) := by decide +kernel
section J1
variable {l : Launch} {g : mG} {d : Nat}
theorem j_coder (m : Mm) {i : Nat} (hi : i < mTx.length) : mFi l g d k_J0_coder_7d493 [.ref (mSt i)] m 0 m := by
  refine nFi 0 rfl rfl rfl (by decide) rfl (fun htr o Φ hΦ => ?_)
  refine jr_compact (mOk (by decide)) rfl rfl jl_cs ?_
  refine mGoOn (mOk (by decide)) rfl [7,14] 400 ?_
  show ((1 : Int32) = 0 → _) ∧ (¬ (1 : Int32) = 0 → mWB l g d k_J0_coder_7d493 Φ 0 0 7 [.ref (mSt i)] [.ref (mSt i)] m o 0 0)
  refine ⟨fun q => absurd q (by decide), fun _ => ?_⟩
  refine jr_coder (mOk (by decide)) rfl rfl jl_co hi ?_
  refine mGoOn (mOk (by decide)) rfl [14] 400 ?_
  show mWB l g d k_J0_coder_7d493 Φ 0 0 14 [.ref (mSt i)] [.int 0] m o 0 0
  exact jr_ret (ty := .byte) (mOk (by decide)) rfl rfl rfl hΦ (Nat.le_refl _) (Nat.le_refl _)
theorem j_isLatin1 (m : Mm) {i : Nat} (hi : i < mTx.length) : mFi l g d k_J0_isLatin1_aae02 [.ref (mSt i)] m 1 m := by
  refine nFi 0 rfl rfl rfl (by decide) rfl (fun htr o Φ hΦ => ?_)
  refine jr_compact (mOk (by decide)) rfl rfl jl_cs ?_
  refine mGoOn (mOk (by decide)) rfl [7] 400 ?_
  show ((1 : Int32) = 0 → _) ∧ (¬ (1 : Int32) = 0 → mWB l g d k_J0_isLatin1_aae02 Φ 0 0 7 [.ref (mSt i)] [.ref (mSt i)] m o 0 0)
  refine ⟨fun q => absurd q (by decide), fun _ => ?_⟩
  refine jr_coder (mOk (by decide)) rfl rfl jl_co hi ?_
  refine mGoOn (mOk (by decide)) rfl [] 400 ?_
  show (¬ (0 : Int32) = 0 → _) ∧ ((0 : Int32) = 0 → ((1 : Int32) = 0 ∨ (1 : Int32) = 1) ∧ Φ (.inl (some (.int (1 : Int32)))) m o ∧ 0 ≤ 0 ∧ 0 ≤ 0)
  exact ⟨fun q => absurd rfl q, fun _ => ⟨Or.inr rfl, eR hΦ⟩⟩
theorem j_length (m : Mm) {i : Nat} (hi : i < mTx.length) (hd : 1 ≤ d) : mFi l g d k_J0_length_8abf5 [.ref (mSt i)] m (nI (tLen i)) m := by
  refine nFi 0 rfl rfl rfl (by decide) rfl (fun htr o Φ hΦ => ?_)
  refine mGoOn (mOk (by decide)) rfl [1] 400 ?_
  show mWB l g d k_J0_length_8abf5 Φ 0 0 1 [.ref (mSt i)] [.ref (mSt i)] m o 0 0
  refine jr_value (mOk (by decide)) rfl rfl jl_va hi ?_
  refine jr_len (mOk (by decide)) rfl hi ?_
  refine mGoOn (mOk (by decide)) rfl [] 400 ?_
  show (∃ j, j < mTx.length ∧ mSt i = mSt j) ∧ mCal l g d k_J0_length_8abf5 Φ 0 0 _ 6 k_J0_coder_7d493 false [.ref (mSt i)] [.int (nI (tLen i))] [.ref (mSt i)] m o 0 0 1
  refine ⟨⟨i, hi, rfl⟩, fCi htr (j_coder m hi) hd ?_⟩
  show Φ (.inl (some (.int (jshr (nI (tLen i)) 0)))) m o ∧ 0 ≤ 0 ∧ 0 ≤ 0
  have e : jshr (nI (tLen i)) 0 = nI (tLen i) := (show ∀ i, i < 19 → jshr (nI (tLen i)) 0 = nI (tLen i) by unfold jshr; decide +kernel) i hi
  rw [e]
  exact eR hΦ
theorem j_pre (m : Mm) {j n : Nat} (hj : j < n) (hn : n < 2 ^ 31) (v : Value) (hv : v = .null ∨ v = .ref mFm) : mFi l g d k_J3_checkIndex_8e157 [.int (nI j), .int (nI n), v] m (nI j) m := by
  refine nFi 0 (by rcases hv with rfl | rfl <;> rfl) rfl rfl (by decide) rfl (fun htr o Φ hΦ => ?_)
  refine mGoOn (mOk (by decide)) rfl [9] 400 ?_
  show (nI j < 0 → _) ∧ (¬ nI j < 0 → (nI j < nI n → Φ (.inl (some (.int (nI j)))) m o ∧ 0 ≤ 0 ∧ 0 ≤ 0) ∧ (¬ nI j < nI n → _))
  exact ⟨fun q => absurd q (nI_pos (by omega)), fun _ => ⟨fun _ => eR hΦ, fun q => absurd (nI_lt hj hn) q⟩⟩
theorem j_check (m : Mm) {j n : Nat} (hj : j < n) (hn : n < 2 ^ 31) (hd : 1 ≤ d) : mFu l g d k_J0_checkIndex_df160 [.int (nI j), .int (nI n)] m m := by
  refine nFu 0 rfl rfl rfl (by decide) rfl (fun htr o Φ hΦ => ?_)
  refine mGoOn (mOk (by decide)) rfl [2] 400 ?_
  show mWB l g d k_J0_checkIndex_df160 Φ 0 0 2 [.int (nI j), .int (nI n)] [.int (nI n), .int (nI j)] m o 0 0
  have key : ∀ v : Value, v = .null ∨ v = .ref mFm → mWB l g d k_J0_checkIndex_df160 Φ 0 0 5 [.int (nI j), .int (nI n)] [v, .int (nI n), .int (nI j)] m o 0 0 := by
    intro v hv
    refine mGoOn (mOk (by decide)) rfl [] 400 ?_
    show mCal l g d k_J0_checkIndex_df160 Φ 0 0 _ 5 k_J3_checkIndex_8e157 false [.int (nI j), .int (nI n), v] [] [.int (nI j), .int (nI n)] m o 0 0 1
    refine fCi htr (j_pre m hj hn v hv) hd ?_
    show (Value.int (nI j)).category = 1 ∧ Φ (.inl none) m o ∧ 0 ≤ 0 ∧ 0 ≤ 0
    exact ⟨rfl, eR hΦ⟩
  exact jr_form (mOk (by decide)) rfl rfl jl_fo (key .null (Or.inl rfl)) (key (.ref mFm) (Or.inr rfl))
theorem j_lat (m : Mm) {i j : Nat} (hi : i < mTx.length) (hj : j < tLen i) (hd : 2 ≤ d) : mFi l g d k_J1_charAt_3b067 [.ref (mVt i), .int (nI j)] m (tCh i j) m := by
  have hn : tLen i < 100 := (show ∀ i, i < 19 → tLen i < 100 by decide +kernel) i hi
  refine nFi 0 rfl rfl rfl (by decide) rfl (fun htr o Φ hΦ => ?_)
  refine mGoOn (mOk (by decide)) rfl [2] 400 ?_
  show mWB l g d k_J1_charAt_3b067 Φ 0 0 2 [.ref (mVt i), .int (nI j)] [.ref (mVt i), .int (nI j)] m o 0 0
  refine jr_len (mOk (by decide)) rfl hi ?_
  refine mGoOn (mOk (by decide)) rfl [8] 400 ?_
  show mCal l g d k_J1_charAt_3b067 Φ 0 0 _ 3 k_J0_checkIndex_df160 false [.int (nI j), .int (nI (tLen i))] [] [.ref (mVt i), .int (nI j)] m o 0 0 0
  refine fCv htr (j_check m hj (by omega) (by omega)) (by omega) ?_
  show mWB l g d k_J1_charAt_3b067 Φ 0 0 8 [.ref (mVt i), .int (nI j)] [.int (nI j), .ref (mVt i)] m o 0 0
  refine jr_byte (mOk (by decide)) rfl hi hj (by omega) ?_
  refine mGoOn (mOk (by decide)) rfl [13] 400 ?_
  show mWB l g d k_J1_charAt_3b067 Φ 0 0 13 [.ref (mVt i), .int (nI j)] [.int (tCh i j &&& 255)] m o 0 0
  refine jr_i2c (mOk (by decide)) rfl ?_
  have hc := tCh_c i hi j hj
  rw [hc.1]
  exact jr_ret (ty := .char) (mOk (by decide)) rfl rfl hc.2 hΦ (Nat.le_refl _) (Nat.le_refl _)
theorem j_charAt (m : Mm) {i j : Nat} (hi : i < mTx.length) (hj : j < tLen i) (hd : 3 ≤ d) : mFi l g d k_J0_charAt_5068e [.ref (mSt i), .int (nI j)] m (tCh i j) m := by
  refine nFi 0 rfl rfl rfl (by decide) rfl (fun htr o Φ hΦ => ?_)
  refine mGoOn (mOk (by decide)) rfl [8,15] 400 ?_
  show (∃ j, j < mTx.length ∧ mSt i = mSt j) ∧ mCal l g d k_J0_charAt_5068e Φ 0 0 _ 1 k_J0_isLatin1_aae02 false [.ref (mSt i)] [] [.ref (mSt i), .int (nI j)] m o 0 0 1
  refine ⟨⟨i, hi, rfl⟩, fCi htr (j_isLatin1 m hi) (by omega) ?_⟩
  show ((1 : Int32) = 0 → _) ∧ (¬ (1 : Int32) = 0 → mWB l g d k_J0_charAt_5068e Φ 0 0 8 [.ref (mSt i), .int (nI j)] [.ref (mSt i)] m o 0 0)
  refine ⟨fun q => absurd q (by decide), fun _ => ?_⟩
  refine jr_value (mOk (by decide)) rfl rfl jl_va hi ?_
  refine mGoOn (mOk (by decide)) rfl [15] 400 ?_
  show mCal l g d k_J0_charAt_5068e Φ 0 0 _ 12 k_J1_charAt_3b067 false [.ref (mVt i), .int (nI j)] [] [.ref (mSt i), .int (nI j)] m o 0 0 1
  refine fCi htr (j_lat m hi hj (by omega)) (by omega) ?_
  exact jr_ret (ty := .char) (mOk (by decide)) rfl rfl (tCh_c i hi j hj).2 hΦ (Nat.le_refl _) (Nat.le_refl _)
end J1
