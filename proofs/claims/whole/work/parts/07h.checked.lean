theorem mOkc_25 : (List.range' 282 9).all mChk = true := by decide +kernel
theorem mOkm_25 : (List.range' 282 9).all mMeB = true := by decide +kernel
theorem mOkc_26 : (List.range' 291 10).all mChk = true := by decide +kernel
theorem mOkm_26 : (List.range' 291 10).all mMeB = true := by decide +kernel
theorem mOkc_27 : (List.range' 301 9).all mChk = true := by decide +kernel
theorem mOkm_27 : (List.range' 301 9).all mMeB = true := by decide +kernel
theorem mOkc_28 : (List.range' 310 21).all mChk = true := by decide +kernel
theorem mOkm_28 : (List.range' 310 21).all mMeB = true := by decide +kernel
