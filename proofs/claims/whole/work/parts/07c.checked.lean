theorem mOkc_8 : (List.range' 76 8).all mChk = true := by decide +kernel
theorem mOkm_8 : (List.range' 76 8).all mMeB = true := by decide +kernel
theorem mOkc_9 : (List.range' 84 6).all mChk = true := by decide +kernel
theorem mOkm_9 : (List.range' 84 6).all mMeB = true := by decide +kernel
theorem mOkc_10 : (List.range' 90 5).all mChk = true := by decide +kernel
theorem mOkm_10 : (List.range' 90 5).all mMeB = true := by decide +kernel
theorem mOkc_11 : (List.range' 95 7).all mChk = true := by decide +kernel
theorem mOkm_11 : (List.range' 95 7).all mMeB = true := by decide +kernel
