theorem mOkc_17 : (List.range' 168 13).all mChk = true := by decide +kernel
theorem mOkm_17 : (List.range' 168 13).all mMeB = true := by decide +kernel
theorem mOkc_18 : (List.range' 181 19).all mChk = true := by decide +kernel
theorem mOkm_18 : (List.range' 181 19).all mMeB = true := by decide +kernel
theorem mOkc_19 : (List.range' 200 17).all mChk = true := by decide +kernel
theorem mOkm_19 : (List.range' 200 17).all mMeB = true := by decide +kernel
theorem mOkc_20 : (List.range' 217 16).all mChk = true := by decide +kernel
theorem mOkm_20 : (List.range' 217 16).all mMeB = true := by decide +kernel
