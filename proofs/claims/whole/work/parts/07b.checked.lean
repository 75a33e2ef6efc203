theorem mOkc_4 : (List.range' 42 6).all mChk = true := by decide +kernel
theorem mOkm_4 : (List.range' 42 6).all mMeB = true := by decide +kernel
theorem mOkc_5 : (List.range' 48 9).all mChk = true := by decide +kernel
theorem mOkm_5 : (List.range' 48 9).all mMeB = true := by decide +kernel
theorem mOkc_6 : (List.range' 57 10).all mChk = true := by decide +kernel
theorem mOkm_6 : (List.range' 57 10).all mMeB = true := by decide +kernel
theorem mOkc_7 : (List.range' 67 9).all mChk = true := by decide +kernel
theorem mOkm_7 : (List.range' 67 9).all mMeB = true := by decide +kernel
