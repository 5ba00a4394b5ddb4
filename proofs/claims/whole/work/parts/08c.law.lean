/-! the law's own code, some of it -/
theorem okp_6 : (k_W_law_6).all (chkE 7 4 (some .boolean) (decide (y_W_law.name = "<init>")) code) = true := by decide +kernel
theorem okp_7 : (k_W_law_7).all (chkE 7 4 (some .boolean) (decide (y_W_law.name = "<init>")) code) = true := by decide +kernel
theorem okp_8 : (k_W_law_8).all (chkE 7 4 (some .boolean) (decide (y_W_law.name = "<init>")) code) = true := by decide +kernel
