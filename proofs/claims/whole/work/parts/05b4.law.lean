theorem pz_kl122 : (((pz_c344.drop 122).take 2)).all (fun q => pz_ck 344 q.2.2 q.2.1 q.1) = true := by decide +kernel
theorem pz_kl124 : (((pz_c344.drop 124).take 2)).all (fun q => pz_ck 344 q.2.2 q.2.1 q.1) = true := by decide +kernel
theorem pz_kl126 : (((pz_c344.drop 126).take 2)).all (fun q => pz_ck 344 q.2.2 q.2.1 q.1) = true := by decide +kernel
theorem pz_kl128 : (((pz_c344.drop 128).take 2)).all (fun q => pz_ck 344 q.2.2 q.2.1 q.1) = true := by decide +kernel
theorem pz_kl130 : (((pz_c344.drop 130).take 2)).all (fun q => pz_ck 344 q.2.2 q.2.1 q.1) = true := by decide +kernel
theorem pz_kl132 : (((pz_c344.drop 132).take 2)).all (fun q => pz_ck 344 q.2.2 q.2.1 q.1) = true := by decide +kernel
theorem pz_kl134 : (((pz_c344.drop 134).take 2)).all (fun q => pz_ck 344 q.2.2 q.2.1 q.1) = true := by decide +kernel
theorem pz_kl136 : (((pz_c344.drop 136).take 2)).all (fun q => pz_ck 344 q.2.2 q.2.1 q.1) = true := by decide +kernel
theorem pz_kl138 : (((pz_c344.drop 138).take 2)).all (fun q => pz_ck 344 q.2.2 q.2.1 q.1) = true := by decide +kernel
theorem pz_kl140 : (((pz_c344.drop 140).take 2)).all (fun q => pz_ck 344 q.2.2 q.2.1 q.1) = true := by decide +kernel
theorem pz_kl142 : (((pz_c344.drop 142).take 2)).all (fun q => pz_ck 344 q.2.2 q.2.1 q.1) = true := by decide +kernel
theorem pz_kl144 : (((pz_c344.drop 144).take 2)).all (fun q => pz_ck 344 q.2.2 q.2.1 q.1) = true := by decide +kernel
theorem pz_kr144 : (pz_c344.drop 144).all (fun q => pz_ck 344 q.2.2 q.2.1 q.1) = true := pz_st _ 2 _ pz_kl144 (by rw [List.drop_drop]; decide +kernel)
theorem pz_kr142 : (pz_c344.drop 142).all (fun q => pz_ck 344 q.2.2 q.2.1 q.1) = true := pz_st _ 2 _ pz_kl142 (by rw [List.drop_drop]; exact pz_kr144)
theorem pz_kr140 : (pz_c344.drop 140).all (fun q => pz_ck 344 q.2.2 q.2.1 q.1) = true := pz_st _ 2 _ pz_kl140 (by rw [List.drop_drop]; exact pz_kr142)
theorem pz_kr138 : (pz_c344.drop 138).all (fun q => pz_ck 344 q.2.2 q.2.1 q.1) = true := pz_st _ 2 _ pz_kl138 (by rw [List.drop_drop]; exact pz_kr140)
theorem pz_kr136 : (pz_c344.drop 136).all (fun q => pz_ck 344 q.2.2 q.2.1 q.1) = true := pz_st _ 2 _ pz_kl136 (by rw [List.drop_drop]; exact pz_kr138)
theorem pz_kr134 : (pz_c344.drop 134).all (fun q => pz_ck 344 q.2.2 q.2.1 q.1) = true := pz_st _ 2 _ pz_kl134 (by rw [List.drop_drop]; exact pz_kr136)
theorem pz_kr132 : (pz_c344.drop 132).all (fun q => pz_ck 344 q.2.2 q.2.1 q.1) = true := pz_st _ 2 _ pz_kl132 (by rw [List.drop_drop]; exact pz_kr134)
theorem pz_kr130 : (pz_c344.drop 130).all (fun q => pz_ck 344 q.2.2 q.2.1 q.1) = true := pz_st _ 2 _ pz_kl130 (by rw [List.drop_drop]; exact pz_kr132)
theorem pz_kr128 : (pz_c344.drop 128).all (fun q => pz_ck 344 q.2.2 q.2.1 q.1) = true := pz_st _ 2 _ pz_kl128 (by rw [List.drop_drop]; exact pz_kr130)
theorem pz_kr126 : (pz_c344.drop 126).all (fun q => pz_ck 344 q.2.2 q.2.1 q.1) = true := pz_st _ 2 _ pz_kl126 (by rw [List.drop_drop]; exact pz_kr128)
theorem pz_kr124 : (pz_c344.drop 124).all (fun q => pz_ck 344 q.2.2 q.2.1 q.1) = true := pz_st _ 2 _ pz_kl124 (by rw [List.drop_drop]; exact pz_kr126)
theorem pz_kr122 : (pz_c344.drop 122).all (fun q => pz_ck 344 q.2.2 q.2.1 q.1) = true := pz_st _ 2 _ pz_kl122 (by rw [List.drop_drop]; exact pz_kr124)
theorem pz_kr120 : (pz_c344.drop 120).all (fun q => pz_ck 344 q.2.2 q.2.1 q.1) = true := pz_st _ 2 _ pz_kl120 (by rw [List.drop_drop]; exact pz_kr122)
theorem pz_kr118 : (pz_c344.drop 118).all (fun q => pz_ck 344 q.2.2 q.2.1 q.1) = true := pz_st _ 2 _ pz_kl118 (by rw [List.drop_drop]; exact pz_kr120)
theorem pz_kr116 : (pz_c344.drop 116).all (fun q => pz_ck 344 q.2.2 q.2.1 q.1) = true := pz_st _ 2 _ pz_kl116 (by rw [List.drop_drop]; exact pz_kr118)
theorem pz_kr114 : (pz_c344.drop 114).all (fun q => pz_ck 344 q.2.2 q.2.1 q.1) = true := pz_st _ 2 _ pz_kl114 (by rw [List.drop_drop]; exact pz_kr116)
theorem pz_kr112 : (pz_c344.drop 112).all (fun q => pz_ck 344 q.2.2 q.2.1 q.1) = true := pz_st _ 2 _ pz_kl112 (by rw [List.drop_drop]; exact pz_kr114)
theorem pz_kr110 : (pz_c344.drop 110).all (fun q => pz_ck 344 q.2.2 q.2.1 q.1) = true := pz_st _ 2 _ pz_kl110 (by rw [List.drop_drop]; exact pz_kr112)
theorem pz_kr108 : (pz_c344.drop 108).all (fun q => pz_ck 344 q.2.2 q.2.1 q.1) = true := pz_st _ 2 _ pz_kl108 (by rw [List.drop_drop]; exact pz_kr110)
theorem pz_kr106 : (pz_c344.drop 106).all (fun q => pz_ck 344 q.2.2 q.2.1 q.1) = true := pz_st _ 2 _ pz_kl106 (by rw [List.drop_drop]; exact pz_kr108)
theorem pz_kr104 : (pz_c344.drop 104).all (fun q => pz_ck 344 q.2.2 q.2.1 q.1) = true := pz_st _ 2 _ pz_kl104 (by rw [List.drop_drop]; exact pz_kr106)
theorem pz_kr102 : (pz_c344.drop 102).all (fun q => pz_ck 344 q.2.2 q.2.1 q.1) = true := pz_st _ 2 _ pz_kl102 (by rw [List.drop_drop]; exact pz_kr104)
theorem pz_kr100 : (pz_c344.drop 100).all (fun q => pz_ck 344 q.2.2 q.2.1 q.1) = true := pz_st _ 2 _ pz_kl100 (by rw [List.drop_drop]; exact pz_kr102)
theorem pz_kr98 : (pz_c344.drop 98).all (fun q => pz_ck 344 q.2.2 q.2.1 q.1) = true := pz_st _ 2 _ pz_kl98 (by rw [List.drop_drop]; exact pz_kr100)
theorem pz_kr96 : (pz_c344.drop 96).all (fun q => pz_ck 344 q.2.2 q.2.1 q.1) = true := pz_st _ 2 _ pz_kl96 (by rw [List.drop_drop]; exact pz_kr98)
theorem pz_kr90 : (pz_c344.drop 90).all (fun q => pz_ck 344 q.2.2 q.2.1 q.1) = true := pz_st _ 6 _ pz_kl90 (by rw [List.drop_drop]; exact pz_kr96)
theorem pz_kr84 : (pz_c344.drop 84).all (fun q => pz_ck 344 q.2.2 q.2.1 q.1) = true := pz_st _ 6 _ pz_kl84 (by rw [List.drop_drop]; exact pz_kr90)
theorem pz_kr78 : (pz_c344.drop 78).all (fun q => pz_ck 344 q.2.2 q.2.1 q.1) = true := pz_st _ 6 _ pz_kl78 (by rw [List.drop_drop]; exact pz_kr84)
theorem pz_kr72 : (pz_c344.drop 72).all (fun q => pz_ck 344 q.2.2 q.2.1 q.1) = true := pz_st _ 6 _ pz_kl72 (by rw [List.drop_drop]; exact pz_kr78)
theorem pz_kr66 : (pz_c344.drop 66).all (fun q => pz_ck 344 q.2.2 q.2.1 q.1) = true := pz_st _ 6 _ pz_kl66 (by rw [List.drop_drop]; exact pz_kr72)
theorem pz_kr60 : (pz_c344.drop 60).all (fun q => pz_ck 344 q.2.2 q.2.1 q.1) = true := pz_st _ 6 _ pz_kl60 (by rw [List.drop_drop]; exact pz_kr66)
theorem pz_kr54 : (pz_c344.drop 54).all (fun q => pz_ck 344 q.2.2 q.2.1 q.1) = true := pz_st _ 6 _ pz_kl54 (by rw [List.drop_drop]; exact pz_kr60)
theorem pz_kr48 : (pz_c344.drop 48).all (fun q => pz_ck 344 q.2.2 q.2.1 q.1) = true := pz_st _ 6 _ pz_kl48 (by rw [List.drop_drop]; exact pz_kr54)
theorem pz_kr42 : (pz_c344.drop 42).all (fun q => pz_ck 344 q.2.2 q.2.1 q.1) = true := pz_st _ 6 _ pz_kl42 (by rw [List.drop_drop]; exact pz_kr48)
theorem pz_kr36 : (pz_c344.drop 36).all (fun q => pz_ck 344 q.2.2 q.2.1 q.1) = true := pz_st _ 6 _ pz_kl36 (by rw [List.drop_drop]; exact pz_kr42)
theorem pz_kr30 : (pz_c344.drop 30).all (fun q => pz_ck 344 q.2.2 q.2.1 q.1) = true := pz_st _ 6 _ pz_kl30 (by rw [List.drop_drop]; exact pz_kr36)
theorem pz_kr24 : (pz_c344.drop 24).all (fun q => pz_ck 344 q.2.2 q.2.1 q.1) = true := pz_st _ 6 _ pz_kl24 (by rw [List.drop_drop]; exact pz_kr30)
theorem pz_kr18 : (pz_c344.drop 18).all (fun q => pz_ck 344 q.2.2 q.2.1 q.1) = true := pz_st _ 6 _ pz_kl18 (by rw [List.drop_drop]; exact pz_kr24)
theorem pz_kr12 : (pz_c344.drop 12).all (fun q => pz_ck 344 q.2.2 q.2.1 q.1) = true := pz_st _ 6 _ pz_kl12 (by rw [List.drop_drop]; exact pz_kr18)
theorem pz_kr6 : (pz_c344.drop 6).all (fun q => pz_ck 344 q.2.2 q.2.1 q.1) = true := pz_st _ 6 _ pz_kl6 (by rw [List.drop_drop]; exact pz_kr12)
theorem pz_kr0 : (pz_c344.drop 0).all (fun q => pz_ck 344 q.2.2 q.2.1 q.1) = true := pz_st _ 6 _ pz_kl0 (by rw [List.drop_drop]; exact pz_kr6)
theorem pz_k344 : pz_ckb 344 pz_c344 = true := pz_kr0
