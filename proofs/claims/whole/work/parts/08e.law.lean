/-! the law's own code, some of it -/
theorem okp_12 : (k_W_law_12).all (chkE 7 4 (some .boolean) (decide (y_W_law.name = "<init>")) code) = true := by decide +kernel
theorem okp_13 : (k_W_law_13).all (chkE 7 4 (some .boolean) (decide (y_W_law.name = "<init>")) code) = true := by decide +kernel
theorem okp_14 : (k_W_law_14).all (chkE 7 4 (some .boolean) (decide (y_W_law.name = "<init>")) code) = true := by decide +kernel
