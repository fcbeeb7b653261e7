theorem pz_st {α : Type} (p : α → Bool) (n : Nat) (L : List α) (h1 : (L.take n).all p = true) (h2 : (L.drop n).all p = true) : L.all p = true := by
  have h : (L.take n ++ L.drop n).all p = true := by rw [List.all_append, h1, h2]; rfl
  rwa [List.take_append_drop] at h
theorem pz_kl0 : (((pz_c344.drop 0).take 6)).all (fun q => pz_ck 344 q.2.2 q.2.1 q.1) = true := by decide +kernel
theorem pz_kl6 : (((pz_c344.drop 6).take 6)).all (fun q => pz_ck 344 q.2.2 q.2.1 q.1) = true := by decide +kernel
theorem pz_kl12 : (((pz_c344.drop 12).take 6)).all (fun q => pz_ck 344 q.2.2 q.2.1 q.1) = true := by decide +kernel
theorem pz_kl18 : (((pz_c344.drop 18).take 6)).all (fun q => pz_ck 344 q.2.2 q.2.1 q.1) = true := by decide +kernel
theorem pz_kl24 : (((pz_c344.drop 24).take 6)).all (fun q => pz_ck 344 q.2.2 q.2.1 q.1) = true := by decide +kernel
theorem pz_kl30 : (((pz_c344.drop 30).take 6)).all (fun q => pz_ck 344 q.2.2 q.2.1 q.1) = true := by decide +kernel
theorem pz_kl36 : (((pz_c344.drop 36).take 6)).all (fun q => pz_ck 344 q.2.2 q.2.1 q.1) = true := by decide +kernel
theorem pz_kl42 : (((pz_c344.drop 42).take 6)).all (fun q => pz_ck 344 q.2.2 q.2.1 q.1) = true := by decide +kernel
theorem pz_kl48 : (((pz_c344.drop 48).take 6)).all (fun q => pz_ck 344 q.2.2 q.2.1 q.1) = true := by decide +kernel
theorem pz_kl54 : (((pz_c344.drop 54).take 6)).all (fun q => pz_ck 344 q.2.2 q.2.1 q.1) = true := by decide +kernel
