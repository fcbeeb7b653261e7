theorem pz_kl60 : (((pz_c344.drop 60).take 6)).all (fun q => pz_ck 344 q.2.2 q.2.1 q.1) = true := by decide +kernel
theorem pz_kl66 : (((pz_c344.drop 66).take 6)).all (fun q => pz_ck 344 q.2.2 q.2.1 q.1) = true := by decide +kernel
theorem pz_kl72 : (((pz_c344.drop 72).take 6)).all (fun q => pz_ck 344 q.2.2 q.2.1 q.1) = true := by decide +kernel
theorem pz_kl78 : (((pz_c344.drop 78).take 6)).all (fun q => pz_ck 344 q.2.2 q.2.1 q.1) = true := by decide +kernel
theorem pz_kl84 : (((pz_c344.drop 84).take 6)).all (fun q => pz_ck 344 q.2.2 q.2.1 q.1) = true := by decide +kernel
theorem pz_kl90 : (((pz_c344.drop 90).take 6)).all (fun q => pz_ck 344 q.2.2 q.2.1 q.1) = true := by decide +kernel
