theorem mOkc_16 : (List.range' 167 1).all mChk = true := by
  show (mC_L_law_.all (mChkE 167) && true) = true
  unfold mC_L_law_
  simp only [List.all_append, Bool.and_true, Bool.true_and, mOkl_0, mOkl_1, mOkl_2, mOkl_3, mOkl_4, mOkl_5, mOkl_6, mOkl_7, mOkl_8, mOkl_9, mOkl_10, mOkl_11, mOkl_12, mOkl_13, mOkl_14, mOkl_15, mOkl_16, mOkl_17, mOkl_18, mOkl_19, mOkl_20, mOkl_21, mOkl_22, mOkl_23, mOkl_24, mOkl_25, mOkl_26, mOkl_27, mOkl_28, mOkl_29, mOkl_30, mOkl_31, mOkl_32, mOkl_33, mOkl_34, mOkl_35, mOkl_36, mOkl_37, mOkl_38, mOkl_39, mOkl_40, mOkl_41, mOkl_42, mOkl_43, mOkl_44, mOkl_45, mOkl_46, mOkl_47, mOkl_48, mOkl_49, mOkl_50, mOkl_51, mOkl_52, mOkl_53, mOkl_54, mOkl_55, mOkl_56, mOkl_57, mOkl_58, mOkl_59, mOkl_60, mOkl_61, mOkl_62, mOkl_63, mOkl_64, mOkl_65, mOkl_66, mOkl_67]

