/-! the law's own code, some of it -/
theorem okp_9 : (k_W_law_9).all (chkE 7 4 (some .boolean) (decide (y_W_law.name = "<init>")) code) = true := by decide +kernel
theorem okp_10 : (k_W_law_10).all (chkE 7 4 (some .boolean) (decide (y_W_law.name = "<init>")) code) = true := by decide +kernel
theorem okp_11 : (k_W_law_11).all (chkE 7 4 (some .boolean) (decide (y_W_law.name = "<init>")) code) = true := by decide +kernel
