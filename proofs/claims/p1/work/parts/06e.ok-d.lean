/-! decode of each method (wip/tool/heads.py) -/
theorem pm_d309 : pm_cm (309, (pm_ent 309).getD (0, 0, 0, 0, [])) = true := by decide +kernel
theorem pm_d310 : pm_cm (310, (pm_ent 310).getD (0, 0, 0, 0, [])) = true := by decide +kernel
theorem pm_d311 : pm_cm (311, (pm_ent 311).getD (0, 0, 0, 0, [])) = true := by decide +kernel
theorem pm_d312 : pm_cm (312, (pm_ent 312).getD (0, 0, 0, 0, [])) = true := by decide +kernel
theorem pm_d313 : pm_cm (313, (pm_ent 313).getD (0, 0, 0, 0, [])) = true := by decide +kernel
theorem pm_d314 : pm_cm (314, (pm_ent 314).getD (0, 0, 0, 0, [])) = true := by decide +kernel
theorem pm_d315 : pm_cm (315, (pm_ent 315).getD (0, 0, 0, 0, [])) = true := by decide +kernel
theorem pm_d316 : pm_cm (316, (pm_ent 316).getD (0, 0, 0, 0, [])) = true := by decide +kernel
theorem pm_d317 : pm_cm (317, (pm_ent 317).getD (0, 0, 0, 0, [])) = true := by decide +kernel
theorem pm_d318 : pm_cm (318, (pm_ent 318).getD (0, 0, 0, 0, [])) = true := by decide +kernel
theorem pm_d319 : pm_cm (319, (pm_ent 319).getD (0, 0, 0, 0, [])) = true := by decide +kernel
theorem pm_d320 : pm_cm (320, (pm_ent 320).getD (0, 0, 0, 0, [])) = true := by decide +kernel
theorem pm_d321 : pm_cm (321, (pm_ent 321).getD (0, 0, 0, 0, [])) = true := by decide +kernel
theorem pm_d322 : pm_cm (322, (pm_ent 322).getD (0, 0, 0, 0, [])) = true := by decide +kernel
theorem pm_d323 : pm_cm (323, (pm_ent 323).getD (0, 0, 0, 0, [])) = true := by decide +kernel
