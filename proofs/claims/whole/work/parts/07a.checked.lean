theorem mOkc_0 : (List.range' 0 16).all mChk = true := by decide +kernel
theorem mOkm_0 : (List.range' 0 16).all mMeB = true := by decide +kernel
theorem mOkc_1 : (List.range' 16 13).all mChk = true := by decide +kernel
theorem mOkm_1 : (List.range' 16 13).all mMeB = true := by decide +kernel
theorem mOkc_2 : (List.range' 29 7).all mChk = true := by decide +kernel
theorem mOkm_2 : (List.range' 29 7).all mMeB = true := by decide +kernel
theorem mOkc_3 : (List.range' 36 6).all mChk = true := by decide +kernel
theorem mOkm_3 : (List.range' 36 6).all mMeB = true := by decide +kernel
