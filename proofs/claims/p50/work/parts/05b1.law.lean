theorem pz_st {α : Type} (p : α → Bool) (n : Nat) (L : List α) (h1 : (L.take n).all p = true) (h2 : (L.drop n).all p = true) : L.all p = true := by
  have h : (L.take n ++ L.drop n).all p = true := by rw [List.all_append, h1, h2]; rfl
  rwa [List.take_append_drop] at h
theorem pz_kl0 : (((pz_c231.drop 0).take 5)).all (fun q => pz_ck 231 q.2.2 q.2.1 q.1) = true := by decide +kernel
theorem pz_kl5 : (((pz_c231.drop 5).take 5)).all (fun q => pz_ck 231 q.2.2 q.2.1 q.1) = true := by decide +kernel
theorem pz_kl10 : (((pz_c231.drop 10).take 5)).all (fun q => pz_ck 231 q.2.2 q.2.1 q.1) = true := by decide +kernel
theorem pz_kl15 : (((pz_c231.drop 15).take 5)).all (fun q => pz_ck 231 q.2.2 q.2.1 q.1) = true := by decide +kernel
theorem pz_kl20 : (((pz_c231.drop 20).take 5)).all (fun q => pz_ck 231 q.2.2 q.2.1 q.1) = true := by decide +kernel
theorem pz_kl25 : (((pz_c231.drop 25).take 5)).all (fun q => pz_ck 231 q.2.2 q.2.1 q.1) = true := by decide +kernel
