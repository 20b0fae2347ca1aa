theorem sp1 : pz_good (pz_go 0 [] 20000 ([], [])) = true := by decide +kernel
