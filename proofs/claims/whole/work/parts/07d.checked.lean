theorem mOkc_12 : (List.range' 102 9).all mChk = true := by decide +kernel
theorem mOkm_12 : (List.range' 102 9).all mMeB = true := by decide +kernel
theorem mOkc_13 : (List.range' 111 25).all mChk = true := by decide +kernel
theorem mOkm_13 : (List.range' 111 25).all mMeB = true := by decide +kernel
theorem mOkc_14 : (List.range' 136 30).all mChk = true := by decide +kernel
theorem mOkm_14 : (List.range' 136 30).all mMeB = true := by decide +kernel
theorem mOkc_15 : (List.range' 166 1).all mChk = true := by decide +kernel
theorem mOkm_15 : (List.range' 166 1).all mMeB = true := by decide +kernel
