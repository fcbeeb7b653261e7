theorem pz_kl96 : (((pz_c344.drop 96).take 6)).all (fun q => pz_ck 344 q.2.2 q.2.1 q.1) = true := by decide +kernel
theorem pz_kl102 : (((pz_c344.drop 102).take 6)).all (fun q => pz_ck 344 q.2.2 q.2.1 q.1) = true := by decide +kernel
theorem pz_kl108 : (((pz_c344.drop 108).take 6)).all (fun q => pz_ck 344 q.2.2 q.2.1 q.1) = true := by decide +kernel
theorem pz_kl114 : (((pz_c344.drop 114).take 6)).all (fun q => pz_ck 344 q.2.2 q.2.1 q.1) = true := by decide +kernel
theorem pz_kl120 : (((pz_c344.drop 120).take 6)).all (fun q => pz_ck 344 q.2.2 q.2.1 q.1) = true := by decide +kernel
