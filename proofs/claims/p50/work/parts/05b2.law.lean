theorem pz_kl30 : (((pz_c231.drop 30).take 5)).all (fun q => pz_ck 231 q.2.2 q.2.1 q.1) = true := by decide +kernel
theorem pz_kl35 : (((pz_c231.drop 35).take 5)).all (fun q => pz_ck 231 q.2.2 q.2.1 q.1) = true := by decide +kernel
theorem pz_kl40 : (((pz_c231.drop 40).take 5)).all (fun q => pz_ck 231 q.2.2 q.2.1 q.1) = true := by decide +kernel
theorem pz_kl45 : (((pz_c231.drop 45).take 5)).all (fun q => pz_ck 231 q.2.2 q.2.1 q.1) = true := by decide +kernel
theorem pz_kl50 : (((pz_c231.drop 50).take 5)).all (fun q => pz_ck 231 q.2.2 q.2.1 q.1) = true := by decide +kernel
theorem pz_kl55 : (((pz_c231.drop 55).take 5)).all (fun q => pz_ck 231 q.2.2 q.2.1 q.1) = true := by decide +kernel
theorem pz_kl60 : (((pz_c231.drop 60).take 5)).all (fun q => pz_ck 231 q.2.2 q.2.1 q.1) = true := by decide +kernel
theorem pz_kr60 : (pz_c231.drop 60).all (fun q => pz_ck 231 q.2.2 q.2.1 q.1) = true := pz_st _ 5 _ pz_kl60 (by rw [List.drop_drop]; decide +kernel)
theorem pz_kr55 : (pz_c231.drop 55).all (fun q => pz_ck 231 q.2.2 q.2.1 q.1) = true := pz_st _ 5 _ pz_kl55 (by rw [List.drop_drop]; exact pz_kr60)
theorem pz_kr50 : (pz_c231.drop 50).all (fun q => pz_ck 231 q.2.2 q.2.1 q.1) = true := pz_st _ 5 _ pz_kl50 (by rw [List.drop_drop]; exact pz_kr55)
theorem pz_kr45 : (pz_c231.drop 45).all (fun q => pz_ck 231 q.2.2 q.2.1 q.1) = true := pz_st _ 5 _ pz_kl45 (by rw [List.drop_drop]; exact pz_kr50)
theorem pz_kr40 : (pz_c231.drop 40).all (fun q => pz_ck 231 q.2.2 q.2.1 q.1) = true := pz_st _ 5 _ pz_kl40 (by rw [List.drop_drop]; exact pz_kr45)
theorem pz_kr35 : (pz_c231.drop 35).all (fun q => pz_ck 231 q.2.2 q.2.1 q.1) = true := pz_st _ 5 _ pz_kl35 (by rw [List.drop_drop]; exact pz_kr40)
theorem pz_kr30 : (pz_c231.drop 30).all (fun q => pz_ck 231 q.2.2 q.2.1 q.1) = true := pz_st _ 5 _ pz_kl30 (by rw [List.drop_drop]; exact pz_kr35)
theorem pz_kr25 : (pz_c231.drop 25).all (fun q => pz_ck 231 q.2.2 q.2.1 q.1) = true := pz_st _ 5 _ pz_kl25 (by rw [List.drop_drop]; exact pz_kr30)
theorem pz_kr20 : (pz_c231.drop 20).all (fun q => pz_ck 231 q.2.2 q.2.1 q.1) = true := pz_st _ 5 _ pz_kl20 (by rw [List.drop_drop]; exact pz_kr25)
theorem pz_kr15 : (pz_c231.drop 15).all (fun q => pz_ck 231 q.2.2 q.2.1 q.1) = true := pz_st _ 5 _ pz_kl15 (by rw [List.drop_drop]; exact pz_kr20)
theorem pz_kr10 : (pz_c231.drop 10).all (fun q => pz_ck 231 q.2.2 q.2.1 q.1) = true := pz_st _ 5 _ pz_kl10 (by rw [List.drop_drop]; exact pz_kr15)
theorem pz_kr5 : (pz_c231.drop 5).all (fun q => pz_ck 231 q.2.2 q.2.1 q.1) = true := pz_st _ 5 _ pz_kl5 (by rw [List.drop_drop]; exact pz_kr10)
theorem pz_kr0 : (pz_c231.drop 0).all (fun q => pz_ck 231 q.2.2 q.2.1 q.1) = true := pz_st _ 5 _ pz_kl0 (by rw [List.drop_drop]; exact pz_kr5)
theorem pz_k231 : pz_ckb 231 pz_c231 = true := pz_kr0
