theorem pz_try : pz_w 3 = 3 := by decide +kernel
