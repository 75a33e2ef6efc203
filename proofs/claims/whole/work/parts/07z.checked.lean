theorem mOk {k : Nat} (h : k < 331) : mChk k = true := by
  by_cases h0 : k < 16
  · exact List.all_eq_true.mp mOkc_0 k (List.mem_range'_1.mpr ⟨by omega, by omega⟩)
  by_cases h1 : k < 29
  · exact List.all_eq_true.mp mOkc_1 k (List.mem_range'_1.mpr ⟨by omega, by omega⟩)
  by_cases h2 : k < 36
  · exact List.all_eq_true.mp mOkc_2 k (List.mem_range'_1.mpr ⟨by omega, by omega⟩)
  by_cases h3 : k < 42
  · exact List.all_eq_true.mp mOkc_3 k (List.mem_range'_1.mpr ⟨by omega, by omega⟩)
  by_cases h4 : k < 48
  · exact List.all_eq_true.mp mOkc_4 k (List.mem_range'_1.mpr ⟨by omega, by omega⟩)
  by_cases h5 : k < 57
  · exact List.all_eq_true.mp mOkc_5 k (List.mem_range'_1.mpr ⟨by omega, by omega⟩)
  by_cases h6 : k < 67
  · exact List.all_eq_true.mp mOkc_6 k (List.mem_range'_1.mpr ⟨by omega, by omega⟩)
  by_cases h7 : k < 76
  · exact List.all_eq_true.mp mOkc_7 k (List.mem_range'_1.mpr ⟨by omega, by omega⟩)
  by_cases h8 : k < 84
  · exact List.all_eq_true.mp mOkc_8 k (List.mem_range'_1.mpr ⟨by omega, by omega⟩)
  by_cases h9 : k < 90
  · exact List.all_eq_true.mp mOkc_9 k (List.mem_range'_1.mpr ⟨by omega, by omega⟩)
  by_cases h10 : k < 95
  · exact List.all_eq_true.mp mOkc_10 k (List.mem_range'_1.mpr ⟨by omega, by omega⟩)
  by_cases h11 : k < 102
  · exact List.all_eq_true.mp mOkc_11 k (List.mem_range'_1.mpr ⟨by omega, by omega⟩)
  by_cases h12 : k < 111
  · exact List.all_eq_true.mp mOkc_12 k (List.mem_range'_1.mpr ⟨by omega, by omega⟩)
  by_cases h13 : k < 136
  · exact List.all_eq_true.mp mOkc_13 k (List.mem_range'_1.mpr ⟨by omega, by omega⟩)
  by_cases h14 : k < 166
  · exact List.all_eq_true.mp mOkc_14 k (List.mem_range'_1.mpr ⟨by omega, by omega⟩)
  by_cases h15 : k < 167
  · exact List.all_eq_true.mp mOkc_15 k (List.mem_range'_1.mpr ⟨by omega, by omega⟩)
  by_cases h16 : k < 168
  · exact List.all_eq_true.mp mOkc_16 k (List.mem_range'_1.mpr ⟨by omega, by omega⟩)
  by_cases h17 : k < 181
  · exact List.all_eq_true.mp mOkc_17 k (List.mem_range'_1.mpr ⟨by omega, by omega⟩)
  by_cases h18 : k < 200
  · exact List.all_eq_true.mp mOkc_18 k (List.mem_range'_1.mpr ⟨by omega, by omega⟩)
  by_cases h19 : k < 217
  · exact List.all_eq_true.mp mOkc_19 k (List.mem_range'_1.mpr ⟨by omega, by omega⟩)
  by_cases h20 : k < 233
  · exact List.all_eq_true.mp mOkc_20 k (List.mem_range'_1.mpr ⟨by omega, by omega⟩)
  by_cases h21 : k < 252
  · exact List.all_eq_true.mp mOkc_21 k (List.mem_range'_1.mpr ⟨by omega, by omega⟩)
  by_cases h22 : k < 263
  · exact List.all_eq_true.mp mOkc_22 k (List.mem_range'_1.mpr ⟨by omega, by omega⟩)
  by_cases h23 : k < 272
  · exact List.all_eq_true.mp mOkc_23 k (List.mem_range'_1.mpr ⟨by omega, by omega⟩)
  by_cases h24 : k < 282
  · exact List.all_eq_true.mp mOkc_24 k (List.mem_range'_1.mpr ⟨by omega, by omega⟩)
  by_cases h25 : k < 291
  · exact List.all_eq_true.mp mOkc_25 k (List.mem_range'_1.mpr ⟨by omega, by omega⟩)
  by_cases h26 : k < 301
  · exact List.all_eq_true.mp mOkc_26 k (List.mem_range'_1.mpr ⟨by omega, by omega⟩)
  by_cases h27 : k < 310
  · exact List.all_eq_true.mp mOkc_27 k (List.mem_range'_1.mpr ⟨by omega, by omega⟩)
  by_cases h28 : k < 331
  · exact List.all_eq_true.mp mOkc_28 k (List.mem_range'_1.mpr ⟨by omega, by omega⟩)
  exact absurd h (by omega)
theorem mOkM {k : Nat} (h : k < 331) (hl : k ≠ 167) : mMeB k = true := by
  by_cases h0 : k < 16
  · exact List.all_eq_true.mp mOkm_0 k (List.mem_range'_1.mpr ⟨by omega, by omega⟩)
  by_cases h1 : k < 29
  · exact List.all_eq_true.mp mOkm_1 k (List.mem_range'_1.mpr ⟨by omega, by omega⟩)
  by_cases h2 : k < 36
  · exact List.all_eq_true.mp mOkm_2 k (List.mem_range'_1.mpr ⟨by omega, by omega⟩)
  by_cases h3 : k < 42
  · exact List.all_eq_true.mp mOkm_3 k (List.mem_range'_1.mpr ⟨by omega, by omega⟩)
  by_cases h4 : k < 48
  · exact List.all_eq_true.mp mOkm_4 k (List.mem_range'_1.mpr ⟨by omega, by omega⟩)
  by_cases h5 : k < 57
  · exact List.all_eq_true.mp mOkm_5 k (List.mem_range'_1.mpr ⟨by omega, by omega⟩)
  by_cases h6 : k < 67
  · exact List.all_eq_true.mp mOkm_6 k (List.mem_range'_1.mpr ⟨by omega, by omega⟩)
  by_cases h7 : k < 76
  · exact List.all_eq_true.mp mOkm_7 k (List.mem_range'_1.mpr ⟨by omega, by omega⟩)
  by_cases h8 : k < 84
  · exact List.all_eq_true.mp mOkm_8 k (List.mem_range'_1.mpr ⟨by omega, by omega⟩)
  by_cases h9 : k < 90
  · exact List.all_eq_true.mp mOkm_9 k (List.mem_range'_1.mpr ⟨by omega, by omega⟩)
  by_cases h10 : k < 95
  · exact List.all_eq_true.mp mOkm_10 k (List.mem_range'_1.mpr ⟨by omega, by omega⟩)
  by_cases h11 : k < 102
  · exact List.all_eq_true.mp mOkm_11 k (List.mem_range'_1.mpr ⟨by omega, by omega⟩)
  by_cases h12 : k < 111
  · exact List.all_eq_true.mp mOkm_12 k (List.mem_range'_1.mpr ⟨by omega, by omega⟩)
  by_cases h13 : k < 136
  · exact List.all_eq_true.mp mOkm_13 k (List.mem_range'_1.mpr ⟨by omega, by omega⟩)
  by_cases h14 : k < 166
  · exact List.all_eq_true.mp mOkm_14 k (List.mem_range'_1.mpr ⟨by omega, by omega⟩)
  by_cases h15 : k < 167
  · exact List.all_eq_true.mp mOkm_15 k (List.mem_range'_1.mpr ⟨by omega, by omega⟩)
  by_cases h16 : k < 168
  · exact absurd (by omega) hl
  by_cases h17 : k < 181
  · exact List.all_eq_true.mp mOkm_17 k (List.mem_range'_1.mpr ⟨by omega, by omega⟩)
  by_cases h18 : k < 200
  · exact List.all_eq_true.mp mOkm_18 k (List.mem_range'_1.mpr ⟨by omega, by omega⟩)
  by_cases h19 : k < 217
  · exact List.all_eq_true.mp mOkm_19 k (List.mem_range'_1.mpr ⟨by omega, by omega⟩)
  by_cases h20 : k < 233
  · exact List.all_eq_true.mp mOkm_20 k (List.mem_range'_1.mpr ⟨by omega, by omega⟩)
  by_cases h21 : k < 252
  · exact List.all_eq_true.mp mOkm_21 k (List.mem_range'_1.mpr ⟨by omega, by omega⟩)
  by_cases h22 : k < 263
  · exact List.all_eq_true.mp mOkm_22 k (List.mem_range'_1.mpr ⟨by omega, by omega⟩)
  by_cases h23 : k < 272
  · exact List.all_eq_true.mp mOkm_23 k (List.mem_range'_1.mpr ⟨by omega, by omega⟩)
  by_cases h24 : k < 282
  · exact List.all_eq_true.mp mOkm_24 k (List.mem_range'_1.mpr ⟨by omega, by omega⟩)
  by_cases h25 : k < 291
  · exact List.all_eq_true.mp mOkm_25 k (List.mem_range'_1.mpr ⟨by omega, by omega⟩)
  by_cases h26 : k < 301
  · exact List.all_eq_true.mp mOkm_26 k (List.mem_range'_1.mpr ⟨by omega, by omega⟩)
  by_cases h27 : k < 310
  · exact List.all_eq_true.mp mOkm_27 k (List.mem_range'_1.mpr ⟨by omega, by omega⟩)
  by_cases h28 : k < 331
  · exact List.all_eq_true.mp mOkm_28 k (List.mem_range'_1.mpr ⟨by omega, by omega⟩)
  exact absurd h (by omega)
