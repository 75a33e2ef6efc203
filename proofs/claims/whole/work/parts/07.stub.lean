theorem mOk {k : Nat} (h : k < 331) : mChk k = true := sorry
theorem mOkM {k : Nat} (h : k < 331) (hl : k ≠ 167) : mMeB k = true := sorry
