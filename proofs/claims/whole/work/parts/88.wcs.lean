set_option maxRecDepth 100000
/-- the class's texts are the reference's words -/
theorem wc_all : isWd 5 = true ∧ wc 5 = six6 8 15 16 5 0 0 ∧ isWd 6 = true ∧ wc 6 = six6 8 15 21 18 0 0 ∧ isWd 7 = true ∧ wc 7 = six6 3 1 12 12 19 0 ∧ isWd 1 = true ∧ wc 1 = six6 19 20 18 5 5 20 ∧ isWd 8 = true ∧ wc 8 = six6 13 5 14 0 0 0 ∧ isWd 9 = true ∧ wc 9 = six6 23 1 12 11 19 0 ∧ isWd 10 = true ∧ wc 10 = six6 14 9 7 8 20 0 ∧ isWd 11 = true ∧ wc 11 = six6 8 5 1 18 4 0 ∧ isWd 12 = true ∧ wc 12 = six6 12 5 1 19 20 0 ∧ isWd 13 = true ∧ wc 13 = six6 13 15 19 20 0 0 := by decide +kernel
