theorem mOkc_21 : (List.range' 233 19).all mChk = true := by decide +kernel
theorem mOkm_21 : (List.range' 233 19).all mMeB = true := by decide +kernel
theorem mOkc_22 : (List.range' 252 11).all mChk = true := by decide +kernel
theorem mOkm_22 : (List.range' 252 11).all mMeB = true := by decide +kernel
theorem mOkc_23 : (List.range' 263 9).all mChk = true := by decide +kernel
theorem mOkm_23 : (List.range' 263 9).all mMeB = true := by decide +kernel
theorem mOkc_24 : (List.range' 272 10).all mChk = true := by decide +kernel
theorem mOkm_24 : (List.range' 272 10).all mMeB = true := by decide +kernel
