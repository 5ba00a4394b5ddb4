/-! the law's own code, some of it -/
theorem okp_0 : (k_W_law_0).all (chkE 7 4 (some .boolean) (decide (y_W_law.name = "<init>")) code) = true := by decide +kernel
theorem okp_1 : (k_W_law_1).all (chkE 7 4 (some .boolean) (decide (y_W_law.name = "<init>")) code) = true := by decide +kernel
theorem okp_2 : (k_W_law_2).all (chkE 7 4 (some .boolean) (decide (y_W_law.name = "<init>")) code) = true := by decide +kernel
