theorem sp1 : (pm_x (pm_ext []) 20000 [] 309 0 [some (.ref 0), none, none, none, none, none, none, none] []).map (fun r => r.2) = some (.inl (some (.int 1))) := by decide +kernel
