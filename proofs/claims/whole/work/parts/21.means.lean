/-! every mean that a plate can have, tried -/
theorem mn_1 : mnT 1 = true := by decide +kernel
theorem mn_2 : mnT 2 = true := by decide +kernel
theorem mn_3 : mnT 3 = true := by decide +kernel
theorem mn_4 : mnT 4 = true := by decide +kernel
theorem mn_5 : mnT 5 = true := by decide +kernel
theorem mn_6 : mnT 6 = true := by decide +kernel
theorem mn_7 : mnT 7 = true := by decide +kernel
theorem mn_8 : mnT 8 = true := by decide +kernel
theorem mn_9 : mnT 9 = true := by decide +kernel
theorem mn_10 : mnT 10 = true := by decide +kernel
