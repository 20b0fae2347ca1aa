/-! feed: the two calls known ahead (printed by wip/tool/pzfeed.py) -/
def pz_Cf : pz_E := ([(0, 4294967295), (0, 4294967295), (0, 4294967295), (0, 4294967295), (0, 4294967295), (0, 4294967295), (0, 4294967295), (2147483666, 2147483666), (2147483648, 2147483672)], [])
def pz_Pr : Nat := pz_k0
def pz_Pt : Nat := pz_k6
def pz_Pm : Nat := pz_k27
noncomputable def pz_Hfb : pz_H := (170, pz_set (pz_set pz_H0.2 24 (109, 6, pz_up pz_Pt 1 68)) 25 (99, 0, 0))
noncomputable def pz_Hfc : pz_H := (170, pz_set (pz_set pz_Hfb.2 125 (112, 58, pz_up pz_Pm 2 68)) 126 (99, 1, 0))
noncomputable def pz_qa : pz_Q := (199922, 140, 49, [130, 661, 933, 1205], pz_Cf, pz_H0, [(pz_Cf, pz_Hfb, 70)])
noncomputable def pz_qb : pz_Q := (199869, 198, 49, [1130, 661, 933, 1205], pz_Cf, pz_Hfb, [(pz_Cf, pz_Hfc, 70)])
theorem pz_gr18 : pz_good (pz_go 7 [pz_qa, pz_qb] 200000 pz_Cf) = true := by decide +kernel
