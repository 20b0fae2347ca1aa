/-! cases -/
set_option maxHeartbeats 4000000 in
theorem lc_28 {X : List (Nat × List Value)} {xs : List Int32} {K : Nat} {h : pm_H} {Q : pm_H → (Option Value ⊕ Unit) → Prop} (hX0 : X[0]? = some (0, xs.map Value.int)) (hl : xs.length ≤ 3584) (hX : pw_Xk X) (hR : pw_Xr X) (I : pw_I h) (hK : pw_K h) (hTk : pw_PR 2 131 24 h) (hCk : pw_PR 3 135 24 h) (hBk : pw_PR 4 132 24 h) (hWk : pw_PR 5 133 24 h) (hMk : pw_PR 6 134 24 h) (hFk : pw_PR 8 136 24 h) (hRk : pw_PR 9 137 24 h) (hHk : pw_PR 14 162 288 h) (hGk : pw_PR 15 163 288 h) (hTn : pw_Tn h) (hLc : pw_Lc h) (hLs : pw_Shs h) (hRm : pw_Rm h) (hRo : pw_Ro h) (i : Int) (hi0 : 0 ≤ i) (hi1 : i + 7 ≤ xs.length) (a5 a6 a7 : Option Value) (s5 : ∀ n, pm_scl n a5 = true) (s6 : ∀ n, pm_scl n a6 = true) (s7 : ∀ n, pm_scl n a7 = true) (hB : ∀ (h' : pm_H) (b5 b6 b7 : Option Value), pw_I h' → pw_K h' → pw_PR 2 131 24 h' → pw_PR 3 135 24 h' → pw_PR 4 132 24 h' → pw_PR 5 133 24 h' → pw_PR 6 134 24 h' → pw_PR 8 136 24 h' → pw_PR 9 137 24 h' → pw_PR 14 162 288 h' → pw_PR 15 163 288 h' → pw_Tn h' → pw_Lc h' → pw_Shs h' → pw_Rm h' → pw_Ro h' → h'.length ≤ h.length + 1 → pm_slt h' ≤ pm_slt h + 1000 → (∀ n, pm_scl n b5 = true) → (∀ n, pm_scl n b6 = true) → (∀ n, pm_scl n b7 = true) → pwl X K h' 2368 [some (.ref 0), some (.ref 16), some (.ref 141), some (.ref 185), some (pw_i i), b5, b6, b7] [] Q) : pwl X (K + 150) h 1784 [some (.ref 0), some (.ref 16), some (.ref 141), some (.ref 185), some (pw_i i), a5, a6, a7] [] Q := by
  have E : pm_ent 309 = some (1, 8, 13, 1, pmc_309) := rfl
  refine pwl_ld E (pc' := 1785) (st' := [.ref 16]) rfl (fun _ => rfl) ?_
  refine pwl_ld E (pc' := 1786) (st' := [.ref 0, .ref 16]) rfl (fun _ => rfl) ?_
  refine pwl_ld E (pc' := 1788) (st' := [pw_i i, .ref 0, .ref 16]) rfl (fun _ => rfl) ?_
  refine pwl_ld E (pc' := 1789) (st' := [pw_i 1, pw_i i, .ref 0, .ref 16]) rfl (fun _ => rfl) ?_
  refine pwl_add E (pc' := 1790) rfl rfl ?_
  refine pwl_sald E (pc' := 1791) rfl hX0 hl (by omega) (by omega) rfl ?_
  have hs1 := pw_s_r xs (i + 1)
  refine pwl_ld E (pc' := 1792) (st' := [.ref 0, pw_i (pw_s xs (i + 1)), .ref 16]) rfl (fun _ => rfl) ?_
  refine pwl_ld E (pc' := 1794) (st' := [pw_i i, .ref 0, pw_i (pw_s xs (i + 1)), .ref 16]) rfl (fun _ => rfl) ?_
  refine pwl_ld E (pc' := 1795) (st' := [pw_i 2, pw_i i, .ref 0, pw_i (pw_s xs (i + 1)), .ref 16]) rfl (fun _ => rfl) ?_
  refine pwl_add E (pc' := 1796) rfl rfl ?_
  refine pwl_sald E (pc' := 1797) rfl hX0 hl (by omega) (by omega) rfl ?_
  have hs2 := pw_s_r xs (i + 2)
  obtain ⟨f3l, f3h, -⟩ := pw_obj (c := 0) I rfl
  refine pwl_call (m' := 154) (As := [.ref 16, pw_i (pw_s xs (i + 1)), pw_i (pw_s xs (i + 2))]) (rest := []) (ls'' := [some (.ref 16), some (pw_i (pw_s xs (i + 1))), some (pw_i (pw_s xs (i + 2))), none]) E rfl (fun _ => pwl_iV rfl rfl rfl (pw_cellI f3h rfl)) (rfl : pm_ent 154 = some (3, 4, 11, 0, pmc_154)) (by decide) rfl rfl (cm_154 (by decide) I (pw_s xs (i + 1)) (by omega) (by omega) (pw_s xs (i + 2)) (by omega) (by omega)) ?_
  rintro h5 v4 ⟨h5I, h5E, x6, rfl, hx6a, hx6b⟩
  refine ⟨_, rfl, ?_⟩
  have h5K := pw_KE I h5E hK rfl
  have h5L := h5E.1
  show pwl X _ h5 1800 [some (.ref 0), some (.ref 16), some (.ref 141), some (.ref 185), some (pw_i i), a5, a6, a7] [pw_i x6] _
  have h5Tk : pw_PR 2 131 24 h5 := pw_PRE (c := 2) (c' := 131) rfl rfl I h5E hTk rfl
  have h5Ck : pw_PR 3 135 24 h5 := pw_PRE (c := 3) (c' := 135) rfl rfl I h5E hCk rfl
  have h5Bk : pw_PR 4 132 24 h5 := pw_PRE (c := 4) (c' := 132) rfl rfl I h5E hBk rfl
  have h5Wk : pw_PR 5 133 24 h5 := pw_PRE (c := 5) (c' := 133) rfl rfl I h5E hWk rfl
  have h5Mk : pw_PR 6 134 24 h5 := pw_PRE (c := 6) (c' := 134) rfl rfl I h5E hMk rfl
  have h5Fk : pw_PR 8 136 24 h5 := pw_PRE (c := 8) (c' := 136) rfl rfl I h5E hFk rfl
  have h5Rk : pw_PR 9 137 24 h5 := pw_PRE (c := 9) (c' := 137) rfl rfl I h5E hRk rfl
  have h5Hk : pw_PR 14 162 288 h5 := pw_PRE (c := 14) (c' := 162) rfl rfl I h5E hHk rfl
  have h5Gk : pw_PR 15 163 288 h5 := pw_PRE (c := 15) (c' := 163) rfl rfl I h5E hGk rfl
  have h5Tn := pw_TnE I h5E hTn rfl
  have h5Lc := pw_LcE I h5E hLc rfl
  have h5Ls := pw_ShsE I h5E hLs rfl
  have h5Rm := pw_RmE I h5E hRm rfl
  have h5Ro := pw_RoE I h5E hRo rfl
  refine pwl_ld E (pc' := 1801) (st' := []) rfl (fun _ => rfl) ?_
  refine pwl_ld E (pc' := 1802) (st' := [.ref 141]) rfl (fun _ => rfl) ?_
  refine pwl_ld E (pc' := 1803) (st' := [.ref 0, .ref 141]) rfl (fun _ => rfl) ?_
  refine pwl_ld E (pc' := 1805) (st' := [pw_i i, .ref 0, .ref 141]) rfl (fun _ => rfl) ?_
  refine pwl_ld E (pc' := 1806) (st' := [pw_i 1, pw_i i, .ref 0, .ref 141]) rfl (fun _ => rfl) ?_
  refine pwl_add E (pc' := 1807) rfl rfl ?_
  refine pwl_sald E (pc' := 1808) rfl hX0 hl (by omega) (by omega) rfl ?_
  have hs7 := pw_s_r xs (i + 1)
  refine pwl_ld E (pc' := 1809) (st' := [.ref 0, pw_i (pw_s xs (i + 1)), .ref 141]) rfl (fun _ => rfl) ?_
  refine pwl_ld E (pc' := 1811) (st' := [pw_i i, .ref 0, pw_i (pw_s xs (i + 1)), .ref 141]) rfl (fun _ => rfl) ?_
  refine pwl_ld E (pc' := 1812) (st' := [pw_i 2, pw_i i, .ref 0, pw_i (pw_s xs (i + 1)), .ref 141]) rfl (fun _ => rfl) ?_
  refine pwl_add E (pc' := 1813) rfl rfl ?_
  refine pwl_sald E (pc' := 1814) rfl hX0 hl (by omega) (by omega) rfl ?_
  have hs8 := pw_s_r xs (i + 2)
  obtain ⟨f9l, f9h, -⟩ := pw_obj (c := 125) h5I rfl
  refine pwl_call (m' := 280) (As := [.ref 141, pw_i (pw_s xs (i + 1)), pw_i (pw_s xs (i + 2))]) (rest := []) (ls'' := [some (.ref 141), some (pw_i (pw_s xs (i + 1))), some (pw_i (pw_s xs (i + 2)))]) E rfl (fun _ => pwl_iV rfl rfl rfl (pw_cellI f9h rfl)) (rfl : pm_ent 280 = some (3, 3, 12, 0, pmc_280)) (by decide) rfl rfl (cm_280 (by decide) h5I (pw_s xs (i + 1)) (by omega) (by omega) (pw_s xs (i + 2)) (by omega) (by omega) h5K) ?_
  rintro h11 v10 ⟨h11I, h11E, x12, rfl, hx12a, hx12b⟩
  refine ⟨_, rfl, ?_⟩
  have h11K := pw_KE h5I h11E h5K rfl
  have h11L := h11E.1
  show pwl X _ h11 1817 [some (.ref 0), some (.ref 16), some (.ref 141), some (.ref 185), some (pw_i i), a5, a6, a7] [pw_i x12] _
  have h11Tk : pw_PR 2 131 24 h11 := pw_PRE (c := 2) (c' := 131) rfl rfl h5I h11E h5Tk rfl
  have h11Ck : pw_PR 3 135 24 h11 := pw_PRE (c := 3) (c' := 135) rfl rfl h5I h11E h5Ck rfl
  have h11Bk : pw_PR 4 132 24 h11 := pw_PRE (c := 4) (c' := 132) rfl rfl h5I h11E h5Bk rfl
  have h11Wk : pw_PR 5 133 24 h11 := pw_PRE (c := 5) (c' := 133) rfl rfl h5I h11E h5Wk rfl
  have h11Mk : pw_PR 6 134 24 h11 := pw_PRE (c := 6) (c' := 134) rfl rfl h5I h11E h5Mk rfl
  have h11Fk : pw_PR 8 136 24 h11 := pw_PRE (c := 8) (c' := 136) rfl rfl h5I h11E h5Fk rfl
  have h11Rk : pw_PR 9 137 24 h11 := pw_PRE (c := 9) (c' := 137) rfl rfl h5I h11E h5Rk rfl
  have h11Hk : pw_PR 14 162 288 h11 := pw_PRE (c := 14) (c' := 162) rfl rfl h5I h11E h5Hk rfl
  have h11Gk : pw_PR 15 163 288 h11 := pw_PRE (c := 15) (c' := 163) rfl rfl h5I h11E h5Gk rfl
  have h11Tn := pw_TnE h5I h11E h5Tn rfl
  have h11Lc := pw_LcE h5I h11E h5Lc rfl
  have h11Ls := pw_ShsE h5I h11E h5Ls rfl
  have h11Rm := pw_RmE h5I h11E h5Rm rfl
  have h11Ro := pw_RoE h5I h11E h5Ro rfl
  refine pwl_ld E (pc' := 1818) (st' := []) rfl (fun _ => rfl) ?_
  refine pwl_goto E (pc' := 2368) rfl (by decide) ?_
  exact pwl_mono (by omega) (hB h11 (a5) (a6) (a7) h11I h11K h11Tk h11Ck h11Bk h11Wk h11Mk h11Fk h11Rk h11Hk h11Gk h11Tn h11Lc h11Ls h11Rm h11Ro (by omega) (by omega) s5 s6 s7)
set_option maxHeartbeats 4000000 in
theorem lc_29 {X : List (Nat × List Value)} {xs : List Int32} {K : Nat} {h : pm_H} {Q : pm_H → (Option Value ⊕ Unit) → Prop} (hX0 : X[0]? = some (0, xs.map Value.int)) (hl : xs.length ≤ 3584) (hX : pw_Xk X) (hR : pw_Xr X) (I : pw_I h) (hK : pw_K h) (hTk : pw_PR 2 131 24 h) (hCk : pw_PR 3 135 24 h) (hBk : pw_PR 4 132 24 h) (hWk : pw_PR 5 133 24 h) (hMk : pw_PR 6 134 24 h) (hFk : pw_PR 8 136 24 h) (hRk : pw_PR 9 137 24 h) (hHk : pw_PR 14 162 288 h) (hGk : pw_PR 15 163 288 h) (hTn : pw_Tn h) (hLc : pw_Lc h) (hLs : pw_Shs h) (hRm : pw_Rm h) (hRo : pw_Ro h) (i : Int) (hi0 : 0 ≤ i) (hi1 : i + 7 ≤ xs.length) (a5 a6 a7 : Option Value) (s5 : ∀ n, pm_scl n a5 = true) (s6 : ∀ n, pm_scl n a6 = true) (s7 : ∀ n, pm_scl n a7 = true) (hB : ∀ (h' : pm_H) (b5 b6 b7 : Option Value), pw_I h' → pw_K h' → pw_PR 2 131 24 h' → pw_PR 3 135 24 h' → pw_PR 4 132 24 h' → pw_PR 5 133 24 h' → pw_PR 6 134 24 h' → pw_PR 8 136 24 h' → pw_PR 9 137 24 h' → pw_PR 14 162 288 h' → pw_PR 15 163 288 h' → pw_Tn h' → pw_Lc h' → pw_Shs h' → pw_Rm h' → pw_Ro h' → h'.length ≤ h.length + 1 → pm_slt h' ≤ pm_slt h + 1000 → (∀ n, pm_scl n b5 = true) → (∀ n, pm_scl n b6 = true) → (∀ n, pm_scl n b7 = true) → pwl X K h' 2368 [some (.ref 0), some (.ref 16), some (.ref 141), some (.ref 185), some (pw_i i), b5, b6, b7] [] Q) : pwl X (K + 150) h 1821 [some (.ref 0), some (.ref 16), some (.ref 141), some (.ref 185), some (pw_i i), a5, a6, a7] [] Q := by
  have E : pm_ent 309 = some (1, 8, 13, 1, pmc_309) := rfl
  refine pwl_ld E (pc' := 1822) (st' := [.ref 16]) rfl (fun _ => rfl) ?_
  refine pwl_ld E (pc' := 1823) (st' := [.ref 0, .ref 16]) rfl (fun _ => rfl) ?_
  refine pwl_ld E (pc' := 1825) (st' := [pw_i i, .ref 0, .ref 16]) rfl (fun _ => rfl) ?_
  refine pwl_ld E (pc' := 1826) (st' := [pw_i 1, pw_i i, .ref 0, .ref 16]) rfl (fun _ => rfl) ?_
  refine pwl_add E (pc' := 1827) rfl rfl ?_
  refine pwl_sald E (pc' := 1828) rfl hX0 hl (by omega) (by omega) rfl ?_
  have hs1 := pw_s_r xs (i + 1)
  refine pwl_ld E (pc' := 1829) (st' := [.ref 0, pw_i (pw_s xs (i + 1)), .ref 16]) rfl (fun _ => rfl) ?_
  refine pwl_ld E (pc' := 1831) (st' := [pw_i i, .ref 0, pw_i (pw_s xs (i + 1)), .ref 16]) rfl (fun _ => rfl) ?_
  refine pwl_ld E (pc' := 1832) (st' := [pw_i 2, pw_i i, .ref 0, pw_i (pw_s xs (i + 1)), .ref 16]) rfl (fun _ => rfl) ?_
  refine pwl_add E (pc' := 1833) rfl rfl ?_
  refine pwl_sald E (pc' := 1834) rfl hX0 hl (by omega) (by omega) rfl ?_
  have hs2 := pw_s_r xs (i + 2)
  refine pwl_ld E (pc' := 1835) (st' := [.ref 185, pw_i (pw_s xs (i + 2)), pw_i (pw_s xs (i + 1)), .ref 16]) rfl (fun _ => rfl) ?_
  refine pwl_call (m' := 319) (As := [.ref 16, pw_i (pw_s xs (i + 1)), pw_i (pw_s xs (i + 2)), .ref 185]) (rest := []) (ls'' := [some (.ref 16), some (pw_i (pw_s xs (i + 1))), some (pw_i (pw_s xs (i + 2))), some (.ref 185), none]) E rfl (fun _ => pwl_iS rfl rfl rfl (pw_sc8 I s5 s6 s7) rfl) (rfl : pm_ent 319 = some (4, 5, 13, 0, pmc_319)) (by decide) rfl rfl (cm_319 (by decide) I (pw_s xs (i + 1)) (by omega) (by omega) (pw_s xs (i + 2)) (by omega) (by omega)) ?_
  rintro h4 v3 ⟨h4I, h4E, x5, rfl, hx5a, hx5b⟩
  refine ⟨_, rfl, ?_⟩
  have h4K := pw_KE I h4E hK rfl
  have h4L := h4E.1
  show pwl X _ h4 1838 [some (.ref 0), some (.ref 16), some (.ref 141), some (.ref 185), some (pw_i i), a5, a6, a7] [pw_i x5] _
  have h4Tk : pw_PR 2 131 24 h4 := pw_PRE (c := 2) (c' := 131) rfl rfl I h4E hTk rfl
  have h4Ck : pw_PR 3 135 24 h4 := pw_PRE (c := 3) (c' := 135) rfl rfl I h4E hCk rfl
  have h4Bk : pw_PR 4 132 24 h4 := pw_PRE (c := 4) (c' := 132) rfl rfl I h4E hBk rfl
  have h4Wk : pw_PR 5 133 24 h4 := pw_PRE (c := 5) (c' := 133) rfl rfl I h4E hWk rfl
  have h4Mk : pw_PR 6 134 24 h4 := pw_PRE (c := 6) (c' := 134) rfl rfl I h4E hMk rfl
  have h4Fk : pw_PR 8 136 24 h4 := pw_PRE (c := 8) (c' := 136) rfl rfl I h4E hFk rfl
  have h4Rk : pw_PR 9 137 24 h4 := pw_PRE (c := 9) (c' := 137) rfl rfl I h4E hRk rfl
  have h4Hk : pw_PR 14 162 288 h4 := pw_PRE (c := 14) (c' := 162) rfl rfl I h4E hHk rfl
  have h4Gk : pw_PR 15 163 288 h4 := pw_PRE (c := 15) (c' := 163) rfl rfl I h4E hGk rfl
  have h4Tn := pw_TnE I h4E hTn rfl
  have h4Lc := pw_LcE I h4E hLc rfl
  have h4Ls := pw_ShsE I h4E hLs rfl
  have h4Rm := pw_RmE I h4E hRm rfl
  have h4Ro := pw_RoE I h4E hRo rfl
  refine pwl_ist E (pc' := 1840) (ls' := [some (.ref 0), some (.ref 16), some (.ref 141), some (.ref 185), some (pw_i i), some (pw_i x5), a6, a7]) rfl rfl rfl rfl ?_
  refine pwl_ld E (pc' := 1841) (st' := [.ref 141]) rfl (fun _ => rfl) ?_
  refine pwl_ld E (pc' := 1842) (st' := [.ref 0, .ref 141]) rfl (fun _ => rfl) ?_
  refine pwl_ld E (pc' := 1844) (st' := [pw_i i, .ref 0, .ref 141]) rfl (fun _ => rfl) ?_
  refine pwl_ld E (pc' := 1845) (st' := [pw_i 1, pw_i i, .ref 0, .ref 141]) rfl (fun _ => rfl) ?_
  refine pwl_add E (pc' := 1846) rfl rfl ?_
  refine pwl_sald E (pc' := 1847) rfl hX0 hl (by omega) (by omega) rfl ?_
  have hs6 := pw_s_r xs (i + 1)
  refine pwl_ld E (pc' := 1848) (st' := [.ref 0, pw_i (pw_s xs (i + 1)), .ref 141]) rfl (fun _ => rfl) ?_
  refine pwl_ld E (pc' := 1850) (st' := [pw_i i, .ref 0, pw_i (pw_s xs (i + 1)), .ref 141]) rfl (fun _ => rfl) ?_
  refine pwl_ld E (pc' := 1851) (st' := [pw_i 2, pw_i i, .ref 0, pw_i (pw_s xs (i + 1)), .ref 141]) rfl (fun _ => rfl) ?_
  refine pwl_add E (pc' := 1852) rfl rfl ?_
  refine pwl_sald E (pc' := 1853) rfl hX0 hl (by omega) (by omega) rfl ?_
  have hs7 := pw_s_r xs (i + 2)
  obtain ⟨f8l, f8h, -⟩ := pw_obj (c := 125) h4I rfl
  refine pwl_call (m' := 284) (As := [.ref 141, pw_i (pw_s xs (i + 1)), pw_i (pw_s xs (i + 2))]) (rest := []) (ls'' := [some (.ref 141), some (pw_i (pw_s xs (i + 1))), some (pw_i (pw_s xs (i + 2)))]) E rfl (fun _ => pwl_iV rfl rfl rfl (pw_cellI f8h rfl)) (rfl : pm_ent 284 = some (3, 3, 12, 2, pmc_284)) (by decide) rfl rfl (cm_284 (by decide) h4I (pw_s xs (i + 1)) (by omega) (by omega) (pw_s xs (i + 2)) (by omega) (by omega) h4K) ?_
  rintro h10 v9 ⟨h10I, h10E, w11, rfl⟩
  refine ⟨_, rfl, ?_⟩
  have h10K := pw_KE h4I h10E h4K rfl
  have h10L := h10E.1
  show pwl X _ h10 1856 [some (.ref 0), some (.ref 16), some (.ref 141), some (.ref 185), some (pw_i i), some (pw_i x5), a6, a7] [.long w11] _
  have h10Tk : pw_PR 2 131 24 h10 := pw_PRE (c := 2) (c' := 131) rfl rfl h4I h10E h4Tk rfl
  have h10Ck : pw_PR 3 135 24 h10 := pw_PRE (c := 3) (c' := 135) rfl rfl h4I h10E h4Ck rfl
  have h10Bk : pw_PR 4 132 24 h10 := pw_PRE (c := 4) (c' := 132) rfl rfl h4I h10E h4Bk rfl
  have h10Wk : pw_PR 5 133 24 h10 := pw_PRE (c := 5) (c' := 133) rfl rfl h4I h10E h4Wk rfl
  have h10Mk : pw_PR 6 134 24 h10 := pw_PRE (c := 6) (c' := 134) rfl rfl h4I h10E h4Mk rfl
  have h10Fk : pw_PR 8 136 24 h10 := pw_PRE (c := 8) (c' := 136) rfl rfl h4I h10E h4Fk rfl
  have h10Rk : pw_PR 9 137 24 h10 := pw_PRE (c := 9) (c' := 137) rfl rfl h4I h10E h4Rk rfl
  have h10Hk : pw_PR 14 162 288 h10 := pw_PRE (c := 14) (c' := 162) rfl rfl h4I h10E h4Hk rfl
  have h10Gk : pw_PR 15 163 288 h10 := pw_PRE (c := 15) (c' := 163) rfl rfl h4I h10E h4Gk rfl
  have h10Tn := pw_TnE h4I h10E h4Tn rfl
  have h10Lc := pw_LcE h4I h10E h4Lc rfl
  have h10Ls := pw_ShsE h4I h10E h4Ls rfl
  have h10Rm := pw_RmE h4I h10E h4Rm rfl
  have h10Ro := pw_RoE h4I h10E h4Ro rfl
  refine pwl_lst E (pc' := 1858) (ls' := [some (.ref 0), some (.ref 16), some (.ref 141), some (.ref 185), some (pw_i i), some (pw_i x5), some (.long w11), none]) rfl rfl rfl rfl ?_
  refine pwl_goto E (pc' := 2368) rfl (by decide) ?_
  exact pwl_mono (by omega) (hB h10 (some (pw_i x5)) (some (.long w11)) (none) h10I h10K h10Tk h10Ck h10Bk h10Wk h10Mk h10Fk h10Rk h10Hk h10Gk h10Tn h10Lc h10Ls h10Rm h10Ro (by omega) (by omega) (fun _ => rfl) (fun _ => rfl) (fun _ => rfl))
set_option maxHeartbeats 4000000 in
theorem lc_30 {X : List (Nat × List Value)} {xs : List Int32} {K : Nat} {h : pm_H} {Q : pm_H → (Option Value ⊕ Unit) → Prop} (hX0 : X[0]? = some (0, xs.map Value.int)) (hl : xs.length ≤ 3584) (hX : pw_Xk X) (hR : pw_Xr X) (I : pw_I h) (hK : pw_K h) (hTk : pw_PR 2 131 24 h) (hCk : pw_PR 3 135 24 h) (hBk : pw_PR 4 132 24 h) (hWk : pw_PR 5 133 24 h) (hMk : pw_PR 6 134 24 h) (hFk : pw_PR 8 136 24 h) (hRk : pw_PR 9 137 24 h) (hHk : pw_PR 14 162 288 h) (hGk : pw_PR 15 163 288 h) (hTn : pw_Tn h) (hLc : pw_Lc h) (hLs : pw_Shs h) (hRm : pw_Rm h) (hRo : pw_Ro h) (i : Int) (hi0 : 0 ≤ i) (hi1 : i + 7 ≤ xs.length) (a5 a6 a7 : Option Value) (s5 : ∀ n, pm_scl n a5 = true) (s6 : ∀ n, pm_scl n a6 = true) (s7 : ∀ n, pm_scl n a7 = true) (hB : ∀ (h' : pm_H) (b5 b6 b7 : Option Value), pw_I h' → pw_K h' → pw_PR 2 131 24 h' → pw_PR 3 135 24 h' → pw_PR 4 132 24 h' → pw_PR 5 133 24 h' → pw_PR 6 134 24 h' → pw_PR 8 136 24 h' → pw_PR 9 137 24 h' → pw_PR 14 162 288 h' → pw_PR 15 163 288 h' → pw_Tn h' → pw_Lc h' → pw_Shs h' → pw_Rm h' → pw_Ro h' → h'.length ≤ h.length + 1 → pm_slt h' ≤ pm_slt h + 1000 → (∀ n, pm_scl n b5 = true) → (∀ n, pm_scl n b6 = true) → (∀ n, pm_scl n b7 = true) → pwl X K h' 2368 [some (.ref 0), some (.ref 16), some (.ref 141), some (.ref 185), some (pw_i i), b5, b6, b7] [] Q) : pwl X (K + 150) h 1861 [some (.ref 0), some (.ref 16), some (.ref 141), some (.ref 185), some (pw_i i), a5, a6, a7] [] Q := by
  have E : pm_ent 309 = some (1, 8, 13, 1, pmc_309) := rfl
  refine pwl_ld E (pc' := 1862) (st' := [.ref 16]) rfl (fun _ => rfl) ?_
  refine pwl_ld E (pc' := 1863) (st' := [.ref 0, .ref 16]) rfl (fun _ => rfl) ?_
  refine pwl_ld E (pc' := 1865) (st' := [pw_i i, .ref 0, .ref 16]) rfl (fun _ => rfl) ?_
  refine pwl_ld E (pc' := 1866) (st' := [pw_i 1, pw_i i, .ref 0, .ref 16]) rfl (fun _ => rfl) ?_
  refine pwl_add E (pc' := 1867) rfl rfl ?_
  refine pwl_sald E (pc' := 1868) rfl hX0 hl (by omega) (by omega) rfl ?_
  have hs1 := pw_s_r xs (i + 1)
  refine pwl_ld E (pc' := 1869) (st' := [.ref 185, pw_i (pw_s xs (i + 1)), .ref 16]) rfl (fun _ => rfl) ?_
  refine pwl_call (m' := 320) (As := [.ref 16, pw_i (pw_s xs (i + 1)), .ref 185]) (rest := []) (ls'' := [some (.ref 16), some (pw_i (pw_s xs (i + 1))), some (.ref 185), none]) E rfl (fun _ => pwl_iS rfl rfl rfl (pw_sc8 I s5 s6 s7) rfl) (rfl : pm_ent 320 = some (3, 4, 13, 0, pmc_320)) (by decide) rfl rfl (cm_320 (by decide) I (pw_s xs (i + 1)) (by omega) (by omega)) ?_
  rintro h3 v2 ⟨h3I, h3E, x4, rfl, hx4a, hx4b⟩
  refine ⟨_, rfl, ?_⟩
  have h3K := pw_KE I h3E hK rfl
  have h3L := h3E.1
  show pwl X _ h3 1872 [some (.ref 0), some (.ref 16), some (.ref 141), some (.ref 185), some (pw_i i), a5, a6, a7] [pw_i x4] _
  have h3Tk : pw_PR 2 131 24 h3 := pw_PRE (c := 2) (c' := 131) rfl rfl I h3E hTk rfl
  have h3Ck : pw_PR 3 135 24 h3 := pw_PRE (c := 3) (c' := 135) rfl rfl I h3E hCk rfl
  have h3Bk : pw_PR 4 132 24 h3 := pw_PRE (c := 4) (c' := 132) rfl rfl I h3E hBk rfl
  have h3Wk : pw_PR 5 133 24 h3 := pw_PRE (c := 5) (c' := 133) rfl rfl I h3E hWk rfl
  have h3Mk : pw_PR 6 134 24 h3 := pw_PRE (c := 6) (c' := 134) rfl rfl I h3E hMk rfl
  have h3Fk : pw_PR 8 136 24 h3 := pw_PRE (c := 8) (c' := 136) rfl rfl I h3E hFk rfl
  have h3Rk : pw_PR 9 137 24 h3 := pw_PRE (c := 9) (c' := 137) rfl rfl I h3E hRk rfl
  have h3Hk : pw_PR 14 162 288 h3 := pw_PRE (c := 14) (c' := 162) rfl rfl I h3E hHk rfl
  have h3Gk : pw_PR 15 163 288 h3 := pw_PRE (c := 15) (c' := 163) rfl rfl I h3E hGk rfl
  have h3Tn := pw_TnE I h3E hTn rfl
  have h3Lc := pw_LcE I h3E hLc rfl
  have h3Ls := pw_ShsE I h3E hLs rfl
  have h3Rm := pw_RmE I h3E hRm rfl
  have h3Ro := pw_RoE I h3E hRo rfl
  refine pwl_ist E (pc' := 1874) (ls' := [some (.ref 0), some (.ref 16), some (.ref 141), some (.ref 185), some (pw_i i), some (pw_i x4), a6, a7]) rfl rfl rfl rfl ?_
  refine pwl_ld E (pc' := 1875) (st' := [.ref 141]) rfl (fun _ => rfl) ?_
  refine pwl_ld E (pc' := 1876) (st' := [.ref 0, .ref 141]) rfl (fun _ => rfl) ?_
  refine pwl_ld E (pc' := 1878) (st' := [pw_i i, .ref 0, .ref 141]) rfl (fun _ => rfl) ?_
  refine pwl_ld E (pc' := 1879) (st' := [pw_i 1, pw_i i, .ref 0, .ref 141]) rfl (fun _ => rfl) ?_
  refine pwl_add E (pc' := 1880) rfl rfl ?_
  refine pwl_sald E (pc' := 1881) rfl hX0 hl (by omega) (by omega) rfl ?_
  have hs5 := pw_s_r xs (i + 1)
  obtain ⟨f6l, f6h, -⟩ := pw_obj (c := 125) h3I rfl
  refine pwl_call (m' := 286) (As := [.ref 141, pw_i (pw_s xs (i + 1))]) (rest := []) (ls'' := [some (.ref 141), some (pw_i (pw_s xs (i + 1))), none, none, none, none, none, none, none, none, none, none, none, none, none, none, none]) E rfl (fun _ => pwl_iV rfl rfl rfl (pw_cellI f6h rfl)) (rfl : pm_ent 286 = some (2, 17, 12, 2, pmc_286)) (by decide) rfl rfl (cm_286 (by decide) h3I (pw_s xs (i + 1)) (by omega) (by omega) h3K) ?_
  rintro h8 v7 ⟨h8I, h8E, w9, rfl⟩
  refine ⟨_, rfl, ?_⟩
  have h8K := pw_KE h3I h8E h3K rfl
  have h8L := h8E.1
  show pwl X _ h8 1884 [some (.ref 0), some (.ref 16), some (.ref 141), some (.ref 185), some (pw_i i), some (pw_i x4), a6, a7] [.long w9] _
  have h8Tk : pw_PR 2 131 24 h8 := pw_PRE (c := 2) (c' := 131) rfl rfl h3I h8E h3Tk rfl
  have h8Ck : pw_PR 3 135 24 h8 := pw_PRE (c := 3) (c' := 135) rfl rfl h3I h8E h3Ck rfl
  have h8Bk : pw_PR 4 132 24 h8 := pw_PRE (c := 4) (c' := 132) rfl rfl h3I h8E h3Bk rfl
  have h8Wk : pw_PR 5 133 24 h8 := pw_PRE (c := 5) (c' := 133) rfl rfl h3I h8E h3Wk rfl
  have h8Mk : pw_PR 6 134 24 h8 := pw_PRE (c := 6) (c' := 134) rfl rfl h3I h8E h3Mk rfl
  have h8Fk : pw_PR 8 136 24 h8 := pw_PRE (c := 8) (c' := 136) rfl rfl h3I h8E h3Fk rfl
  have h8Rk : pw_PR 9 137 24 h8 := pw_PRE (c := 9) (c' := 137) rfl rfl h3I h8E h3Rk rfl
  have h8Hk : pw_PR 14 162 288 h8 := pw_PRE (c := 14) (c' := 162) rfl rfl h3I h8E h3Hk rfl
  have h8Gk : pw_PR 15 163 288 h8 := pw_PRE (c := 15) (c' := 163) rfl rfl h3I h8E h3Gk rfl
  have h8Tn := pw_TnE h3I h8E h3Tn rfl
  have h8Lc := pw_LcE h3I h8E h3Lc rfl
  have h8Ls := pw_ShsE h3I h8E h3Ls rfl
  have h8Rm := pw_RmE h3I h8E h3Rm rfl
  have h8Ro := pw_RoE h3I h8E h3Ro rfl
  refine pwl_lst E (pc' := 1886) (ls' := [some (.ref 0), some (.ref 16), some (.ref 141), some (.ref 185), some (pw_i i), some (pw_i x4), some (.long w9), none]) rfl rfl rfl rfl ?_
  refine pwl_goto E (pc' := 2368) rfl (by decide) ?_
  exact pwl_mono (by omega) (hB h8 (some (pw_i x4)) (some (.long w9)) (none) h8I h8K h8Tk h8Ck h8Bk h8Wk h8Mk h8Fk h8Rk h8Hk h8Gk h8Tn h8Lc h8Ls h8Rm h8Ro (by omega) (by omega) (fun _ => rfl) (fun _ => rfl) (fun _ => rfl))
set_option maxHeartbeats 4000000 in
theorem lc_31 {X : List (Nat × List Value)} {xs : List Int32} {K : Nat} {h : pm_H} {Q : pm_H → (Option Value ⊕ Unit) → Prop} (hX0 : X[0]? = some (0, xs.map Value.int)) (hl : xs.length ≤ 3584) (hX : pw_Xk X) (hR : pw_Xr X) (I : pw_I h) (hK : pw_K h) (hTk : pw_PR 2 131 24 h) (hCk : pw_PR 3 135 24 h) (hBk : pw_PR 4 132 24 h) (hWk : pw_PR 5 133 24 h) (hMk : pw_PR 6 134 24 h) (hFk : pw_PR 8 136 24 h) (hRk : pw_PR 9 137 24 h) (hHk : pw_PR 14 162 288 h) (hGk : pw_PR 15 163 288 h) (hTn : pw_Tn h) (hLc : pw_Lc h) (hLs : pw_Shs h) (hRm : pw_Rm h) (hRo : pw_Ro h) (i : Int) (hi0 : 0 ≤ i) (hi1 : i + 7 ≤ xs.length) (a5 a6 a7 : Option Value) (s5 : ∀ n, pm_scl n a5 = true) (s6 : ∀ n, pm_scl n a6 = true) (s7 : ∀ n, pm_scl n a7 = true) (hB : ∀ (h' : pm_H) (b5 b6 b7 : Option Value), pw_I h' → pw_K h' → pw_PR 2 131 24 h' → pw_PR 3 135 24 h' → pw_PR 4 132 24 h' → pw_PR 5 133 24 h' → pw_PR 6 134 24 h' → pw_PR 8 136 24 h' → pw_PR 9 137 24 h' → pw_PR 14 162 288 h' → pw_PR 15 163 288 h' → pw_Tn h' → pw_Lc h' → pw_Shs h' → pw_Rm h' → pw_Ro h' → h'.length ≤ h.length + 1 → pm_slt h' ≤ pm_slt h + 1000 → (∀ n, pm_scl n b5 = true) → (∀ n, pm_scl n b6 = true) → (∀ n, pm_scl n b7 = true) → pwl X K h' 2368 [some (.ref 0), some (.ref 16), some (.ref 141), some (.ref 185), some (pw_i i), b5, b6, b7] [] Q) : pwl X (K + 150) h 1889 [some (.ref 0), some (.ref 16), some (.ref 141), some (.ref 185), some (pw_i i), a5, a6, a7] [] Q := by
  have E : pm_ent 309 = some (1, 8, 13, 1, pmc_309) := rfl
  refine pwl_ld E (pc' := 1890) (st' := [.ref 16]) rfl (fun _ => rfl) ?_
  refine pwl_ld E (pc' := 1891) (st' := [.ref 0, .ref 16]) rfl (fun _ => rfl) ?_
  refine pwl_ld E (pc' := 1893) (st' := [pw_i i, .ref 0, .ref 16]) rfl (fun _ => rfl) ?_
  refine pwl_ld E (pc' := 1894) (st' := [pw_i 1, pw_i i, .ref 0, .ref 16]) rfl (fun _ => rfl) ?_
  refine pwl_add E (pc' := 1895) rfl rfl ?_
  refine pwl_sald E (pc' := 1896) rfl hX0 hl (by omega) (by omega) rfl ?_
  have hs1 := pw_s_r xs (i + 1)
  refine pwl_ld E (pc' := 1897) (st' := [.ref 0, pw_i (pw_s xs (i + 1)), .ref 16]) rfl (fun _ => rfl) ?_
  refine pwl_ld E (pc' := 1899) (st' := [pw_i i, .ref 0, pw_i (pw_s xs (i + 1)), .ref 16]) rfl (fun _ => rfl) ?_
  refine pwl_ld E (pc' := 1900) (st' := [pw_i 2, pw_i i, .ref 0, pw_i (pw_s xs (i + 1)), .ref 16]) rfl (fun _ => rfl) ?_
  refine pwl_add E (pc' := 1901) rfl rfl ?_
  refine pwl_sald E (pc' := 1902) rfl hX0 hl (by omega) (by omega) rfl ?_
  have hs2 := pw_s_r xs (i + 2)
  refine pwl_ld E (pc' := 1903) (st' := [.ref 0, pw_i (pw_s xs (i + 2)), pw_i (pw_s xs (i + 1)), .ref 16]) rfl (fun _ => rfl) ?_
  refine pwl_ld E (pc' := 1905) (st' := [pw_i i, .ref 0, pw_i (pw_s xs (i + 2)), pw_i (pw_s xs (i + 1)), .ref 16]) rfl (fun _ => rfl) ?_
  refine pwl_ld E (pc' := 1906) (st' := [pw_i 3, pw_i i, .ref 0, pw_i (pw_s xs (i + 2)), pw_i (pw_s xs (i + 1)), .ref 16]) rfl (fun _ => rfl) ?_
  refine pwl_add E (pc' := 1907) rfl rfl ?_
  refine pwl_sald E (pc' := 1908) rfl hX0 hl (by omega) (by omega) rfl ?_
  have hs3 := pw_s_r xs (i + 3)
  refine pwl_ld E (pc' := 1909) (st' := [.ref 0, pw_i (pw_s xs (i + 3)), pw_i (pw_s xs (i + 2)), pw_i (pw_s xs (i + 1)), .ref 16]) rfl (fun _ => rfl) ?_
  refine pwl_ld E (pc' := 1911) (st' := [pw_i i, .ref 0, pw_i (pw_s xs (i + 3)), pw_i (pw_s xs (i + 2)), pw_i (pw_s xs (i + 1)), .ref 16]) rfl (fun _ => rfl) ?_
  refine pwl_ld E (pc' := 1912) (st' := [pw_i 4, pw_i i, .ref 0, pw_i (pw_s xs (i + 3)), pw_i (pw_s xs (i + 2)), pw_i (pw_s xs (i + 1)), .ref 16]) rfl (fun _ => rfl) ?_
  refine pwl_add E (pc' := 1913) rfl rfl ?_
  refine pwl_sald E (pc' := 1914) rfl hX0 hl (by omega) (by omega) rfl ?_
  have hs4 := pw_s_r xs (i + 4)
  obtain ⟨f5l, f5h, -⟩ := pw_obj (c := 0) I rfl
  refine pwl_call (m' := 160) (As := [.ref 16, pw_i (pw_s xs (i + 1)), pw_i (pw_s xs (i + 2)), pw_i (pw_s xs (i + 3)), pw_i (pw_s xs (i + 4))]) (rest := []) (ls'' := [some (.ref 16), some (pw_i (pw_s xs (i + 1))), some (pw_i (pw_s xs (i + 2))), some (pw_i (pw_s xs (i + 3))), some (pw_i (pw_s xs (i + 4)))]) E rfl (fun _ => pwl_iV rfl rfl rfl (pw_cellI f5h rfl)) (rfl : pm_ent 160 = some (5, 5, 11, 1, pmc_160)) (by decide) rfl rfl (cm_160_k (by decide) I (pw_s xs (i + 1)) (by omega) (by omega) (pw_s xs (i + 2)) (by omega) (by omega) (pw_s xs (i + 3)) (by omega) (by omega) (pw_s xs (i + 4)) (by omega) (by omega)) ?_
  rintro h7 v6 ⟨h7I, h7E, x8, rfl, hx8a, hx8b, hx8r⟩
  refine ⟨_, rfl, ?_⟩
  have h7K := pw_KE I h7E hK rfl
  have h7L := h7E.1
  show pwl X _ h7 1917 [some (.ref 0), some (.ref 16), some (.ref 141), some (.ref 185), some (pw_i i), a5, a6, a7] [pw_i x8] _
  have hx8r : ((x8 = 1 ∧ 0 ≤ (pw_s xs (i + 1)) ∧ (pw_s xs (i + 1)) ≤ 23 ∧ pw_g h 2 (pw_s xs (i + 1)).toNat = 1 ∧ 0 ≤ (pw_s xs (i + 2)) ∧ (pw_s xs (i + 2)) ≤ 11 ∧ 0 ≤ (pw_s xs (i + 3)) ∧ (pw_s xs (i + 3)) ≤ 999 ∧ 0 ≤ (pw_s xs (i + 4)) ∧ (pw_s xs (i + 4)) ≤ 99999) ∨ (x8 = 0 ∧ ¬ (0 ≤ (pw_s xs (i + 1)) ∧ (pw_s xs (i + 1)) ≤ 23 ∧ pw_g h 2 (pw_s xs (i + 1)).toNat = 1 ∧ 0 ≤ (pw_s xs (i + 2)) ∧ (pw_s xs (i + 2)) ≤ 11 ∧ 0 ≤ (pw_s xs (i + 3)) ∧ (pw_s xs (i + 3)) ≤ 999 ∧ 0 ≤ (pw_s xs (i + 4)) ∧ (pw_s xs (i + 4)) ≤ 99999))) ∧ (x8 = 1 → pw_up h h7 14 ((pw_s xs (i + 1)) * 12 + (pw_s xs (i + 2))) ((pw_s xs (i + 3))) ∧ pw_up h h7 15 ((pw_s xs (i + 1)) * 12 + (pw_s xs (i + 2))) ((pw_s xs (i + 4)))) ∧ (x8 = 0 → pw_sm h h7 14 ∧ pw_sm h h7 15) := hx8r
  have h7Tk : pw_PR 2 131 24 h7 := pw_PRE (c := 2) (c' := 131) rfl rfl I h7E hTk rfl
  have h7Ck : pw_PR 3 135 24 h7 := pw_PRE (c := 3) (c' := 135) rfl rfl I h7E hCk rfl
  have h7Bk : pw_PR 4 132 24 h7 := pw_PRE (c := 4) (c' := 132) rfl rfl I h7E hBk rfl
  have h7Wk : pw_PR 5 133 24 h7 := pw_PRE (c := 5) (c' := 133) rfl rfl I h7E hWk rfl
  have h7Mk : pw_PR 6 134 24 h7 := pw_PRE (c := 6) (c' := 134) rfl rfl I h7E hMk rfl
  have h7Fk : pw_PR 8 136 24 h7 := pw_PRE (c := 8) (c' := 136) rfl rfl I h7E hFk rfl
  have h7Rk : pw_PR 9 137 24 h7 := pw_PRE (c := 9) (c' := 137) rfl rfl I h7E hRk rfl
  have h7Tn := pw_TnE I h7E hTn rfl
  have h7Lc := pw_LcE I h7E hLc rfl
  have h7Ls := pw_ShsE I h7E hLs rfl
  have h7Rm := pw_RmE I h7E hRm rfl
  have h7Ro := pw_RoE I h7E hRo rfl
  refine pwl_ld E (pc' := 1918) (st' := []) rfl (fun _ => rfl) ?_
  refine pwl_ld E (pc' := 1919) (st' := [.ref 141]) rfl (fun _ => rfl) ?_
  refine pwl_ld E (pc' := 1920) (st' := [.ref 0, .ref 141]) rfl (fun _ => rfl) ?_
  refine pwl_ld E (pc' := 1922) (st' := [pw_i i, .ref 0, .ref 141]) rfl (fun _ => rfl) ?_
  refine pwl_ld E (pc' := 1923) (st' := [pw_i 1, pw_i i, .ref 0, .ref 141]) rfl (fun _ => rfl) ?_
  refine pwl_add E (pc' := 1924) rfl rfl ?_
  refine pwl_sald E (pc' := 1925) rfl hX0 hl (by omega) (by omega) rfl ?_
  have hs9 := pw_s_r xs (i + 1)
  refine pwl_ld E (pc' := 1926) (st' := [.ref 0, pw_i (pw_s xs (i + 1)), .ref 141]) rfl (fun _ => rfl) ?_
  refine pwl_ld E (pc' := 1928) (st' := [pw_i i, .ref 0, pw_i (pw_s xs (i + 1)), .ref 141]) rfl (fun _ => rfl) ?_
  refine pwl_ld E (pc' := 1929) (st' := [pw_i 2, pw_i i, .ref 0, pw_i (pw_s xs (i + 1)), .ref 141]) rfl (fun _ => rfl) ?_
  refine pwl_add E (pc' := 1930) rfl rfl ?_
  refine pwl_sald E (pc' := 1931) rfl hX0 hl (by omega) (by omega) rfl ?_
  have hs10 := pw_s_r xs (i + 2)
  refine pwl_ld E (pc' := 1932) (st' := [.ref 0, pw_i (pw_s xs (i + 2)), pw_i (pw_s xs (i + 1)), .ref 141]) rfl (fun _ => rfl) ?_
  refine pwl_ld E (pc' := 1934) (st' := [pw_i i, .ref 0, pw_i (pw_s xs (i + 2)), pw_i (pw_s xs (i + 1)), .ref 141]) rfl (fun _ => rfl) ?_
  refine pwl_ld E (pc' := 1935) (st' := [pw_i 3, pw_i i, .ref 0, pw_i (pw_s xs (i + 2)), pw_i (pw_s xs (i + 1)), .ref 141]) rfl (fun _ => rfl) ?_
  refine pwl_add E (pc' := 1936) rfl rfl ?_
  refine pwl_sald E (pc' := 1937) rfl hX0 hl (by omega) (by omega) rfl ?_
  have hs11 := pw_s_r xs (i + 3)
  refine pwl_ld E (pc' := 1938) (st' := [.ref 0, pw_i (pw_s xs (i + 3)), pw_i (pw_s xs (i + 2)), pw_i (pw_s xs (i + 1)), .ref 141]) rfl (fun _ => rfl) ?_
  refine pwl_ld E (pc' := 1940) (st' := [pw_i i, .ref 0, pw_i (pw_s xs (i + 3)), pw_i (pw_s xs (i + 2)), pw_i (pw_s xs (i + 1)), .ref 141]) rfl (fun _ => rfl) ?_
  refine pwl_ld E (pc' := 1941) (st' := [pw_i 4, pw_i i, .ref 0, pw_i (pw_s xs (i + 3)), pw_i (pw_s xs (i + 2)), pw_i (pw_s xs (i + 1)), .ref 141]) rfl (fun _ => rfl) ?_
  refine pwl_add E (pc' := 1942) rfl rfl ?_
  refine pwl_sald E (pc' := 1943) rfl hX0 hl (by omega) (by omega) rfl ?_
  have hs12 := pw_s_r xs (i + 4)
  obtain ⟨f13l, f13h, -⟩ := pw_obj (c := 125) h7I rfl
  refine pwl_call (m' := 287) (As := [.ref 141, pw_i (pw_s xs (i + 1)), pw_i (pw_s xs (i + 2)), pw_i (pw_s xs (i + 3)), pw_i (pw_s xs (i + 4))]) (rest := []) (ls'' := [some (.ref 141), some (pw_i (pw_s xs (i + 1))), some (pw_i (pw_s xs (i + 2))), some (pw_i (pw_s xs (i + 3))), some (pw_i (pw_s xs (i + 4)))]) E rfl (fun _ => pwl_iV rfl rfl rfl (pw_cellI f13h rfl)) (rfl : pm_ent 287 = some (5, 5, 12, 1, pmc_287)) (by decide) rfl rfl (cm_287_k (by decide) h7I (pw_s xs (i + 1)) (by omega) (by omega) (pw_s xs (i + 2)) (by omega) (by omega) (pw_s xs (i + 3)) (by omega) (by omega) (pw_s xs (i + 4)) (by omega) (by omega)) ?_
  rintro h15 v14 ⟨h15I, h15E, x16, rfl, hx16a, hx16b, hx16r⟩
  refine ⟨_, rfl, ?_⟩
  have h15K := pw_KE h7I h15E h7K rfl
  have h15L := h15E.1
  show pwl X _ h15 1946 [some (.ref 0), some (.ref 16), some (.ref 141), some (.ref 185), some (pw_i i), a5, a6, a7] [pw_i x16] _
  have hx16r : ((x16 = 1 ∧ 0 ≤ (pw_s xs (i + 1)) ∧ (pw_s xs (i + 1)) ≤ 23 ∧ pw_g h7 131 (pw_s xs (i + 1)).toNat = 1 ∧ 0 ≤ (pw_s xs (i + 2)) ∧ (pw_s xs (i + 2)) ≤ 11 ∧ 0 ≤ (pw_s xs (i + 3)) ∧ (pw_s xs (i + 3)) ≤ 999 ∧ 0 ≤ (pw_s xs (i + 4)) ∧ (pw_s xs (i + 4)) ≤ 99999) ∨ (x16 = 0 ∧ ¬ (0 ≤ (pw_s xs (i + 1)) ∧ (pw_s xs (i + 1)) ≤ 23 ∧ pw_g h7 131 (pw_s xs (i + 1)).toNat = 1 ∧ 0 ≤ (pw_s xs (i + 2)) ∧ (pw_s xs (i + 2)) ≤ 11 ∧ 0 ≤ (pw_s xs (i + 3)) ∧ (pw_s xs (i + 3)) ≤ 999 ∧ 0 ≤ (pw_s xs (i + 4)) ∧ (pw_s xs (i + 4)) ≤ 99999))) ∧ (x16 = 1 → pw_up h7 h15 162 (12 * (pw_s xs (i + 1)) + (pw_s xs (i + 2))) ((pw_s xs (i + 3))) ∧ pw_up h7 h15 163 (12 * (pw_s xs (i + 1)) + (pw_s xs (i + 2))) ((pw_s xs (i + 4)))) ∧ (x16 = 0 → pw_sm h7 h15 162 ∧ pw_sm h7 h15 163) := hx16r
  have h15Tk : pw_PR 2 131 24 h15 := pw_PRE (c := 2) (c' := 131) rfl rfl h7I h15E h7Tk rfl
  have h15Ck : pw_PR 3 135 24 h15 := pw_PRE (c := 3) (c' := 135) rfl rfl h7I h15E h7Ck rfl
  have h15Bk : pw_PR 4 132 24 h15 := pw_PRE (c := 4) (c' := 132) rfl rfl h7I h15E h7Bk rfl
  have h15Wk : pw_PR 5 133 24 h15 := pw_PRE (c := 5) (c' := 133) rfl rfl h7I h15E h7Wk rfl
  have h15Mk : pw_PR 6 134 24 h15 := pw_PRE (c := 6) (c' := 134) rfl rfl h7I h15E h7Mk rfl
  have h15Fk : pw_PR 8 136 24 h15 := pw_PRE (c := 8) (c' := 136) rfl rfl h7I h15E h7Fk rfl
  have h15Rk : pw_PR 9 137 24 h15 := pw_PRE (c := 9) (c' := 137) rfl rfl h7I h15E h7Rk rfl
  have h15Tn := pw_TnE h7I h15E h7Tn rfl
  have h15Lc := pw_LcE h7I h15E h7Lc rfl
  have h15Ls := pw_ShsE h7I h15E h7Ls rfl
  have h15Rm := pw_RmE h7I h15E h7Rm rfl
  have h15Ro := pw_RoE h7I h15E h7Ro rfl
  have haa : x8 = x16 := by have z1 := hx8r.1; have z2 := hx16r.1; have hkt : 0 ≤ (pw_s xs (i + 1)) ∧ (pw_s xs (i + 1)) ≤ 23 → pw_g h 2 ((pw_s xs (i + 1))).toNat = pw_g h7 131 ((pw_s xs (i + 1))).toNat := (fun q => (hTk _ (by omega)).trans (pw_Eg (c := 131) I h7E rfl rfl _).symm); omega
  have h15Hk : pw_PR 14 162 288 h15 := pw_PR.kit hHk (pw_Eg (c := 162) I h7E rfl rfl) (pw_Eg (c := 14) h7I h15E rfl rfl) haa (by omega) (fun z => (hx8r.2.1 z).1) (fun z => (hx8r.2.2 z).1) (fun z => (hx16r.2.1 z).1) (fun z => (hx16r.2.2 z).1) (by omega)
  have h15Gk : pw_PR 15 163 288 h15 := pw_PR.kit hGk (pw_Eg (c := 163) I h7E rfl rfl) (pw_Eg (c := 15) h7I h15E rfl rfl) haa (by omega) (fun z => (hx8r.2.1 z).2) (fun z => (hx8r.2.2 z).2) (fun z => (hx16r.2.1 z).2) (fun z => (hx16r.2.2 z).2) (by omega)
  refine pwl_ld E (pc' := 1947) (st' := []) rfl (fun _ => rfl) ?_
  refine pwl_goto E (pc' := 2368) rfl (by decide) ?_
  exact pwl_mono (by omega) (hB h15 (a5) (a6) (a7) h15I h15K h15Tk h15Ck h15Bk h15Wk h15Mk h15Fk h15Rk h15Hk h15Gk h15Tn h15Lc h15Ls h15Rm h15Ro (by omega) (by omega) s5 s6 s7)
set_option maxHeartbeats 4000000 in
theorem lc_32 {X : List (Nat × List Value)} {xs : List Int32} {K : Nat} {h : pm_H} {Q : pm_H → (Option Value ⊕ Unit) → Prop} (hX0 : X[0]? = some (0, xs.map Value.int)) (hl : xs.length ≤ 3584) (hX : pw_Xk X) (hR : pw_Xr X) (I : pw_I h) (hK : pw_K h) (hTk : pw_PR 2 131 24 h) (hCk : pw_PR 3 135 24 h) (hBk : pw_PR 4 132 24 h) (hWk : pw_PR 5 133 24 h) (hMk : pw_PR 6 134 24 h) (hFk : pw_PR 8 136 24 h) (hRk : pw_PR 9 137 24 h) (hHk : pw_PR 14 162 288 h) (hGk : pw_PR 15 163 288 h) (hTn : pw_Tn h) (hLc : pw_Lc h) (hLs : pw_Shs h) (hRm : pw_Rm h) (hRo : pw_Ro h) (i : Int) (hi0 : 0 ≤ i) (hi1 : i + 7 ≤ xs.length) (a5 a6 a7 : Option Value) (s5 : ∀ n, pm_scl n a5 = true) (s6 : ∀ n, pm_scl n a6 = true) (s7 : ∀ n, pm_scl n a7 = true) (hB : ∀ (h' : pm_H) (b5 b6 b7 : Option Value), pw_I h' → pw_K h' → pw_PR 2 131 24 h' → pw_PR 3 135 24 h' → pw_PR 4 132 24 h' → pw_PR 5 133 24 h' → pw_PR 6 134 24 h' → pw_PR 8 136 24 h' → pw_PR 9 137 24 h' → pw_PR 14 162 288 h' → pw_PR 15 163 288 h' → pw_Tn h' → pw_Lc h' → pw_Shs h' → pw_Rm h' → pw_Ro h' → h'.length ≤ h.length + 1 → pm_slt h' ≤ pm_slt h + 1000 → (∀ n, pm_scl n b5 = true) → (∀ n, pm_scl n b6 = true) → (∀ n, pm_scl n b7 = true) → pwl X K h' 2368 [some (.ref 0), some (.ref 16), some (.ref 141), some (.ref 185), some (pw_i i), b5, b6, b7] [] Q) : pwl X (K + 150) h 1950 [some (.ref 0), some (.ref 16), some (.ref 141), some (.ref 185), some (pw_i i), a5, a6, a7] [] Q := by
  have E : pm_ent 309 = some (1, 8, 13, 1, pmc_309) := rfl
  refine pwl_ld E (pc' := 1951) (st' := [.ref 16]) rfl (fun _ => rfl) ?_
  refine pwl_ld E (pc' := 1952) (st' := [.ref 0, .ref 16]) rfl (fun _ => rfl) ?_
  refine pwl_ld E (pc' := 1954) (st' := [pw_i i, .ref 0, .ref 16]) rfl (fun _ => rfl) ?_
  refine pwl_ld E (pc' := 1955) (st' := [pw_i 1, pw_i i, .ref 0, .ref 16]) rfl (fun _ => rfl) ?_
  refine pwl_add E (pc' := 1956) rfl rfl ?_
  refine pwl_sald E (pc' := 1957) rfl hX0 hl (by omega) (by omega) rfl ?_
  have hs1 := pw_s_r xs (i + 1)
  refine pwl_ld E (pc' := 1958) (st' := [.ref 0, pw_i (pw_s xs (i + 1)), .ref 16]) rfl (fun _ => rfl) ?_
  refine pwl_ld E (pc' := 1960) (st' := [pw_i i, .ref 0, pw_i (pw_s xs (i + 1)), .ref 16]) rfl (fun _ => rfl) ?_
  refine pwl_ld E (pc' := 1961) (st' := [pw_i 2, pw_i i, .ref 0, pw_i (pw_s xs (i + 1)), .ref 16]) rfl (fun _ => rfl) ?_
  refine pwl_add E (pc' := 1962) rfl rfl ?_
  refine pwl_sald E (pc' := 1963) rfl hX0 hl (by omega) (by omega) rfl ?_
  have hs2 := pw_s_r xs (i + 2)
  refine pwl_ld E (pc' := 1964) (st' := [.ref 0, pw_i (pw_s xs (i + 2)), pw_i (pw_s xs (i + 1)), .ref 16]) rfl (fun _ => rfl) ?_
  refine pwl_ld E (pc' := 1966) (st' := [pw_i i, .ref 0, pw_i (pw_s xs (i + 2)), pw_i (pw_s xs (i + 1)), .ref 16]) rfl (fun _ => rfl) ?_
  refine pwl_ld E (pc' := 1967) (st' := [pw_i 3, pw_i i, .ref 0, pw_i (pw_s xs (i + 2)), pw_i (pw_s xs (i + 1)), .ref 16]) rfl (fun _ => rfl) ?_
  refine pwl_add E (pc' := 1968) rfl rfl ?_
  refine pwl_sald E (pc' := 1969) rfl hX0 hl (by omega) (by omega) rfl ?_
  have hs3 := pw_s_r xs (i + 3)
  refine pwl_ld E (pc' := 1970) (st' := [.ref 185, pw_i (pw_s xs (i + 3)), pw_i (pw_s xs (i + 2)), pw_i (pw_s xs (i + 1)), .ref 16]) rfl (fun _ => rfl) ?_
  refine pwl_call (m' := 321) (As := [.ref 16, pw_i (pw_s xs (i + 1)), pw_i (pw_s xs (i + 2)), pw_i (pw_s xs (i + 3)), .ref 185]) (rest := []) (ls'' := [some (.ref 16), some (pw_i (pw_s xs (i + 1))), some (pw_i (pw_s xs (i + 2))), some (pw_i (pw_s xs (i + 3))), some (.ref 185), none]) E rfl (fun _ => pwl_iS rfl rfl rfl (pw_sc8 I s5 s6 s7) rfl) (rfl : pm_ent 321 = some (5, 6, 13, 0, pmc_321)) (by decide) rfl rfl (cm_321 (by decide) I (pw_s xs (i + 1)) (by omega) (by omega) (pw_s xs (i + 2)) (by omega) (by omega) (pw_s xs (i + 3)) (by omega) (by omega)) ?_
  rintro h5 v4 ⟨h5I, h5E, x6, rfl, hx6a, hx6b⟩
  refine ⟨_, rfl, ?_⟩
  have h5K := pw_KE I h5E hK rfl
  have h5L := h5E.1
  show pwl X _ h5 1973 [some (.ref 0), some (.ref 16), some (.ref 141), some (.ref 185), some (pw_i i), a5, a6, a7] [pw_i x6] _
  have h5Tk : pw_PR 2 131 24 h5 := pw_PRE (c := 2) (c' := 131) rfl rfl I h5E hTk rfl
  have h5Ck : pw_PR 3 135 24 h5 := pw_PRE (c := 3) (c' := 135) rfl rfl I h5E hCk rfl
  have h5Bk : pw_PR 4 132 24 h5 := pw_PRE (c := 4) (c' := 132) rfl rfl I h5E hBk rfl
  have h5Wk : pw_PR 5 133 24 h5 := pw_PRE (c := 5) (c' := 133) rfl rfl I h5E hWk rfl
  have h5Mk : pw_PR 6 134 24 h5 := pw_PRE (c := 6) (c' := 134) rfl rfl I h5E hMk rfl
  have h5Fk : pw_PR 8 136 24 h5 := pw_PRE (c := 8) (c' := 136) rfl rfl I h5E hFk rfl
  have h5Rk : pw_PR 9 137 24 h5 := pw_PRE (c := 9) (c' := 137) rfl rfl I h5E hRk rfl
  have h5Hk : pw_PR 14 162 288 h5 := pw_PRE (c := 14) (c' := 162) rfl rfl I h5E hHk rfl
  have h5Gk : pw_PR 15 163 288 h5 := pw_PRE (c := 15) (c' := 163) rfl rfl I h5E hGk rfl
  have h5Tn := pw_TnE I h5E hTn rfl
  have h5Lc := pw_LcE I h5E hLc rfl
  have h5Ls := pw_ShsE I h5E hLs rfl
  have h5Rm := pw_RmE I h5E hRm rfl
  have h5Ro := pw_RoE I h5E hRo rfl
  refine pwl_ist E (pc' := 1975) (ls' := [some (.ref 0), some (.ref 16), some (.ref 141), some (.ref 185), some (pw_i i), some (pw_i x6), a6, a7]) rfl rfl rfl rfl ?_
  refine pwl_ld E (pc' := 1976) (st' := [.ref 141]) rfl (fun _ => rfl) ?_
  refine pwl_ld E (pc' := 1977) (st' := [.ref 0, .ref 141]) rfl (fun _ => rfl) ?_
  refine pwl_ld E (pc' := 1979) (st' := [pw_i i, .ref 0, .ref 141]) rfl (fun _ => rfl) ?_
  refine pwl_ld E (pc' := 1980) (st' := [pw_i 1, pw_i i, .ref 0, .ref 141]) rfl (fun _ => rfl) ?_
  refine pwl_add E (pc' := 1981) rfl rfl ?_
  refine pwl_sald E (pc' := 1982) rfl hX0 hl (by omega) (by omega) rfl ?_
  have hs7 := pw_s_r xs (i + 1)
  refine pwl_ld E (pc' := 1983) (st' := [.ref 0, pw_i (pw_s xs (i + 1)), .ref 141]) rfl (fun _ => rfl) ?_
  refine pwl_ld E (pc' := 1985) (st' := [pw_i i, .ref 0, pw_i (pw_s xs (i + 1)), .ref 141]) rfl (fun _ => rfl) ?_
  refine pwl_ld E (pc' := 1986) (st' := [pw_i 2, pw_i i, .ref 0, pw_i (pw_s xs (i + 1)), .ref 141]) rfl (fun _ => rfl) ?_
  refine pwl_add E (pc' := 1987) rfl rfl ?_
  refine pwl_sald E (pc' := 1988) rfl hX0 hl (by omega) (by omega) rfl ?_
  have hs8 := pw_s_r xs (i + 2)
  refine pwl_ld E (pc' := 1989) (st' := [.ref 0, pw_i (pw_s xs (i + 2)), pw_i (pw_s xs (i + 1)), .ref 141]) rfl (fun _ => rfl) ?_
  refine pwl_ld E (pc' := 1991) (st' := [pw_i i, .ref 0, pw_i (pw_s xs (i + 2)), pw_i (pw_s xs (i + 1)), .ref 141]) rfl (fun _ => rfl) ?_
  refine pwl_ld E (pc' := 1992) (st' := [pw_i 3, pw_i i, .ref 0, pw_i (pw_s xs (i + 2)), pw_i (pw_s xs (i + 1)), .ref 141]) rfl (fun _ => rfl) ?_
  refine pwl_add E (pc' := 1993) rfl rfl ?_
  refine pwl_sald E (pc' := 1994) rfl hX0 hl (by omega) (by omega) rfl ?_
  have hs9 := pw_s_r xs (i + 3)
  obtain ⟨f10l, f10h, -⟩ := pw_obj (c := 125) h5I rfl
  refine pwl_call (m' := 288) (As := [.ref 141, pw_i (pw_s xs (i + 1)), pw_i (pw_s xs (i + 2)), pw_i (pw_s xs (i + 3))]) (rest := []) (ls'' := [some (.ref 141), some (pw_i (pw_s xs (i + 1))), some (pw_i (pw_s xs (i + 2))), some (pw_i (pw_s xs (i + 3))), none]) E rfl (fun _ => pwl_iV rfl rfl rfl (pw_cellI f10h rfl)) (rfl : pm_ent 288 = some (4, 5, 12, 2, pmc_288)) (by decide) rfl rfl (cm_288 (by decide) h5I (pw_s xs (i + 1)) (by omega) (by omega) (pw_s xs (i + 2)) (by omega) (by omega) (pw_s xs (i + 3)) (by omega) (by omega)) ?_
  rintro h12 v11 ⟨h12I, h12E, w13, rfl⟩
  refine ⟨_, rfl, ?_⟩
  have h12K := pw_KE h5I h12E h5K rfl
  have h12L := h12E.1
  show pwl X _ h12 1997 [some (.ref 0), some (.ref 16), some (.ref 141), some (.ref 185), some (pw_i i), some (pw_i x6), a6, a7] [.long w13] _
  have h12Tk : pw_PR 2 131 24 h12 := pw_PRE (c := 2) (c' := 131) rfl rfl h5I h12E h5Tk rfl
  have h12Ck : pw_PR 3 135 24 h12 := pw_PRE (c := 3) (c' := 135) rfl rfl h5I h12E h5Ck rfl
  have h12Bk : pw_PR 4 132 24 h12 := pw_PRE (c := 4) (c' := 132) rfl rfl h5I h12E h5Bk rfl
  have h12Wk : pw_PR 5 133 24 h12 := pw_PRE (c := 5) (c' := 133) rfl rfl h5I h12E h5Wk rfl
  have h12Mk : pw_PR 6 134 24 h12 := pw_PRE (c := 6) (c' := 134) rfl rfl h5I h12E h5Mk rfl
  have h12Fk : pw_PR 8 136 24 h12 := pw_PRE (c := 8) (c' := 136) rfl rfl h5I h12E h5Fk rfl
  have h12Rk : pw_PR 9 137 24 h12 := pw_PRE (c := 9) (c' := 137) rfl rfl h5I h12E h5Rk rfl
  have h12Hk : pw_PR 14 162 288 h12 := pw_PRE (c := 14) (c' := 162) rfl rfl h5I h12E h5Hk rfl
  have h12Gk : pw_PR 15 163 288 h12 := pw_PRE (c := 15) (c' := 163) rfl rfl h5I h12E h5Gk rfl
  have h12Tn := pw_TnE h5I h12E h5Tn rfl
  have h12Lc := pw_LcE h5I h12E h5Lc rfl
  have h12Ls := pw_ShsE h5I h12E h5Ls rfl
  have h12Rm := pw_RmE h5I h12E h5Rm rfl
  have h12Ro := pw_RoE h5I h12E h5Ro rfl
  refine pwl_lst E (pc' := 1999) (ls' := [some (.ref 0), some (.ref 16), some (.ref 141), some (.ref 185), some (pw_i i), some (pw_i x6), some (.long w13), none]) rfl rfl rfl rfl ?_
  refine pwl_goto E (pc' := 2368) rfl (by decide) ?_
  exact pwl_mono (by omega) (hB h12 (some (pw_i x6)) (some (.long w13)) (none) h12I h12K h12Tk h12Ck h12Bk h12Wk h12Mk h12Fk h12Rk h12Hk h12Gk h12Tn h12Lc h12Ls h12Rm h12Ro (by omega) (by omega) (fun _ => rfl) (fun _ => rfl) (fun _ => rfl))
set_option maxHeartbeats 4000000 in
theorem lc_33 {X : List (Nat × List Value)} {xs : List Int32} {K : Nat} {h : pm_H} {Q : pm_H → (Option Value ⊕ Unit) → Prop} (hX0 : X[0]? = some (0, xs.map Value.int)) (hl : xs.length ≤ 3584) (hX : pw_Xk X) (hR : pw_Xr X) (I : pw_I h) (hK : pw_K h) (hTk : pw_PR 2 131 24 h) (hCk : pw_PR 3 135 24 h) (hBk : pw_PR 4 132 24 h) (hWk : pw_PR 5 133 24 h) (hMk : pw_PR 6 134 24 h) (hFk : pw_PR 8 136 24 h) (hRk : pw_PR 9 137 24 h) (hHk : pw_PR 14 162 288 h) (hGk : pw_PR 15 163 288 h) (hTn : pw_Tn h) (hLc : pw_Lc h) (hLs : pw_Shs h) (hRm : pw_Rm h) (hRo : pw_Ro h) (i : Int) (hi0 : 0 ≤ i) (hi1 : i + 7 ≤ xs.length) (a5 a6 a7 : Option Value) (s5 : ∀ n, pm_scl n a5 = true) (s6 : ∀ n, pm_scl n a6 = true) (s7 : ∀ n, pm_scl n a7 = true) (hB : ∀ (h' : pm_H) (b5 b6 b7 : Option Value), pw_I h' → pw_K h' → pw_PR 2 131 24 h' → pw_PR 3 135 24 h' → pw_PR 4 132 24 h' → pw_PR 5 133 24 h' → pw_PR 6 134 24 h' → pw_PR 8 136 24 h' → pw_PR 9 137 24 h' → pw_PR 14 162 288 h' → pw_PR 15 163 288 h' → pw_Tn h' → pw_Lc h' → pw_Shs h' → pw_Rm h' → pw_Ro h' → h'.length ≤ h.length + 1 → pm_slt h' ≤ pm_slt h + 1000 → (∀ n, pm_scl n b5 = true) → (∀ n, pm_scl n b6 = true) → (∀ n, pm_scl n b7 = true) → pwl X K h' 2368 [some (.ref 0), some (.ref 16), some (.ref 141), some (.ref 185), some (pw_i i), b5, b6, b7] [] Q) : pwl X (K + 150) h 2002 [some (.ref 0), some (.ref 16), some (.ref 141), some (.ref 185), some (pw_i i), a5, a6, a7] [] Q := by
  have E : pm_ent 309 = some (1, 8, 13, 1, pmc_309) := rfl
  refine pwl_ld E (pc' := 2003) (st' := [.ref 16]) rfl (fun _ => rfl) ?_
  refine pwl_ld E (pc' := 2004) (st' := [.ref 0, .ref 16]) rfl (fun _ => rfl) ?_
  refine pwl_ld E (pc' := 2006) (st' := [pw_i i, .ref 0, .ref 16]) rfl (fun _ => rfl) ?_
  refine pwl_ld E (pc' := 2007) (st' := [pw_i 1, pw_i i, .ref 0, .ref 16]) rfl (fun _ => rfl) ?_
  refine pwl_add E (pc' := 2008) rfl rfl ?_
  refine pwl_sald E (pc' := 2009) rfl hX0 hl (by omega) (by omega) rfl ?_
  have hs1 := pw_s_r xs (i + 1)
  refine pwl_ld E (pc' := 2010) (st' := [.ref 0, pw_i (pw_s xs (i + 1)), .ref 16]) rfl (fun _ => rfl) ?_
  refine pwl_ld E (pc' := 2012) (st' := [pw_i i, .ref 0, pw_i (pw_s xs (i + 1)), .ref 16]) rfl (fun _ => rfl) ?_
  refine pwl_ld E (pc' := 2013) (st' := [pw_i 2, pw_i i, .ref 0, pw_i (pw_s xs (i + 1)), .ref 16]) rfl (fun _ => rfl) ?_
  refine pwl_add E (pc' := 2014) rfl rfl ?_
  refine pwl_sald E (pc' := 2015) rfl hX0 hl (by omega) (by omega) rfl ?_
  have hs2 := pw_s_r xs (i + 2)
  refine pwl_ld E (pc' := 2016) (st' := [.ref 0, pw_i (pw_s xs (i + 2)), pw_i (pw_s xs (i + 1)), .ref 16]) rfl (fun _ => rfl) ?_
  refine pwl_ld E (pc' := 2018) (st' := [pw_i i, .ref 0, pw_i (pw_s xs (i + 2)), pw_i (pw_s xs (i + 1)), .ref 16]) rfl (fun _ => rfl) ?_
  refine pwl_ld E (pc' := 2019) (st' := [pw_i 3, pw_i i, .ref 0, pw_i (pw_s xs (i + 2)), pw_i (pw_s xs (i + 1)), .ref 16]) rfl (fun _ => rfl) ?_
  refine pwl_add E (pc' := 2020) rfl rfl ?_
  refine pwl_sald E (pc' := 2021) rfl hX0 hl (by omega) (by omega) rfl ?_
  have hs3 := pw_s_r xs (i + 3)
  refine pwl_ld E (pc' := 2022) (st' := [.ref 0, pw_i (pw_s xs (i + 3)), pw_i (pw_s xs (i + 2)), pw_i (pw_s xs (i + 1)), .ref 16]) rfl (fun _ => rfl) ?_
  refine pwl_ld E (pc' := 2024) (st' := [pw_i i, .ref 0, pw_i (pw_s xs (i + 3)), pw_i (pw_s xs (i + 2)), pw_i (pw_s xs (i + 1)), .ref 16]) rfl (fun _ => rfl) ?_
  refine pwl_ld E (pc' := 2025) (st' := [pw_i 4, pw_i i, .ref 0, pw_i (pw_s xs (i + 3)), pw_i (pw_s xs (i + 2)), pw_i (pw_s xs (i + 1)), .ref 16]) rfl (fun _ => rfl) ?_
  refine pwl_add E (pc' := 2026) rfl rfl ?_
  refine pwl_sald E (pc' := 2027) rfl hX0 hl (by omega) (by omega) rfl ?_
  have hs4 := pw_s_r xs (i + 4)
  refine pwl_ld E (pc' := 2028) (st' := [.ref 185, pw_i (pw_s xs (i + 4)), pw_i (pw_s xs (i + 3)), pw_i (pw_s xs (i + 2)), pw_i (pw_s xs (i + 1)), .ref 16]) rfl (fun _ => rfl) ?_
  refine pwl_call (m' := 322) (As := [.ref 16, pw_i (pw_s xs (i + 1)), pw_i (pw_s xs (i + 2)), pw_i (pw_s xs (i + 3)), pw_i (pw_s xs (i + 4)), .ref 185]) (rest := []) (ls'' := [some (.ref 16), some (pw_i (pw_s xs (i + 1))), some (pw_i (pw_s xs (i + 2))), some (pw_i (pw_s xs (i + 3))), some (pw_i (pw_s xs (i + 4))), some (.ref 185), none]) E rfl (fun _ => pwl_iS rfl rfl rfl (pw_sc8 I s5 s6 s7) rfl) (rfl : pm_ent 322 = some (6, 7, 13, 0, pmc_322)) (by decide) rfl rfl (cm_322 (by decide) I (pw_s xs (i + 1)) (by omega) (by omega) (pw_s xs (i + 2)) (by omega) (by omega) (pw_s xs (i + 3)) (by omega) (by omega) (pw_s xs (i + 4)) (by omega) (by omega)) ?_
  rintro h6 v5 ⟨h6I, h6E, x7, rfl, hx7a, hx7b⟩
  refine ⟨_, rfl, ?_⟩
  have h6K := pw_KE I h6E hK rfl
  have h6L := h6E.1
  show pwl X _ h6 2031 [some (.ref 0), some (.ref 16), some (.ref 141), some (.ref 185), some (pw_i i), a5, a6, a7] [pw_i x7] _
  have h6Tk : pw_PR 2 131 24 h6 := pw_PRE (c := 2) (c' := 131) rfl rfl I h6E hTk rfl
  have h6Ck : pw_PR 3 135 24 h6 := pw_PRE (c := 3) (c' := 135) rfl rfl I h6E hCk rfl
  have h6Bk : pw_PR 4 132 24 h6 := pw_PRE (c := 4) (c' := 132) rfl rfl I h6E hBk rfl
  have h6Wk : pw_PR 5 133 24 h6 := pw_PRE (c := 5) (c' := 133) rfl rfl I h6E hWk rfl
  have h6Mk : pw_PR 6 134 24 h6 := pw_PRE (c := 6) (c' := 134) rfl rfl I h6E hMk rfl
  have h6Fk : pw_PR 8 136 24 h6 := pw_PRE (c := 8) (c' := 136) rfl rfl I h6E hFk rfl
  have h6Rk : pw_PR 9 137 24 h6 := pw_PRE (c := 9) (c' := 137) rfl rfl I h6E hRk rfl
  have h6Hk : pw_PR 14 162 288 h6 := pw_PRE (c := 14) (c' := 162) rfl rfl I h6E hHk rfl
  have h6Gk : pw_PR 15 163 288 h6 := pw_PRE (c := 15) (c' := 163) rfl rfl I h6E hGk rfl
  have h6Tn := pw_TnE I h6E hTn rfl
  have h6Lc := pw_LcE I h6E hLc rfl
  have h6Ls := pw_ShsE I h6E hLs rfl
  have h6Rm := pw_RmE I h6E hRm rfl
  have h6Ro := pw_RoE I h6E hRo rfl
  refine pwl_ist E (pc' := 2033) (ls' := [some (.ref 0), some (.ref 16), some (.ref 141), some (.ref 185), some (pw_i i), some (pw_i x7), a6, a7]) rfl rfl rfl rfl ?_
  refine pwl_ld E (pc' := 2034) (st' := [.ref 141]) rfl (fun _ => rfl) ?_
  refine pwl_ld E (pc' := 2035) (st' := [.ref 0, .ref 141]) rfl (fun _ => rfl) ?_
  refine pwl_ld E (pc' := 2037) (st' := [pw_i i, .ref 0, .ref 141]) rfl (fun _ => rfl) ?_
  refine pwl_ld E (pc' := 2038) (st' := [pw_i 1, pw_i i, .ref 0, .ref 141]) rfl (fun _ => rfl) ?_
  refine pwl_add E (pc' := 2039) rfl rfl ?_
  refine pwl_sald E (pc' := 2040) rfl hX0 hl (by omega) (by omega) rfl ?_
  have hs8 := pw_s_r xs (i + 1)
  refine pwl_ld E (pc' := 2041) (st' := [.ref 0, pw_i (pw_s xs (i + 1)), .ref 141]) rfl (fun _ => rfl) ?_
  refine pwl_ld E (pc' := 2043) (st' := [pw_i i, .ref 0, pw_i (pw_s xs (i + 1)), .ref 141]) rfl (fun _ => rfl) ?_
  refine pwl_ld E (pc' := 2044) (st' := [pw_i 2, pw_i i, .ref 0, pw_i (pw_s xs (i + 1)), .ref 141]) rfl (fun _ => rfl) ?_
  refine pwl_add E (pc' := 2045) rfl rfl ?_
  refine pwl_sald E (pc' := 2046) rfl hX0 hl (by omega) (by omega) rfl ?_
  have hs9 := pw_s_r xs (i + 2)
  refine pwl_ld E (pc' := 2047) (st' := [.ref 0, pw_i (pw_s xs (i + 2)), pw_i (pw_s xs (i + 1)), .ref 141]) rfl (fun _ => rfl) ?_
  refine pwl_ld E (pc' := 2049) (st' := [pw_i i, .ref 0, pw_i (pw_s xs (i + 2)), pw_i (pw_s xs (i + 1)), .ref 141]) rfl (fun _ => rfl) ?_
  refine pwl_ld E (pc' := 2050) (st' := [pw_i 3, pw_i i, .ref 0, pw_i (pw_s xs (i + 2)), pw_i (pw_s xs (i + 1)), .ref 141]) rfl (fun _ => rfl) ?_
  refine pwl_add E (pc' := 2051) rfl rfl ?_
  refine pwl_sald E (pc' := 2052) rfl hX0 hl (by omega) (by omega) rfl ?_
  have hs10 := pw_s_r xs (i + 3)
  refine pwl_ld E (pc' := 2053) (st' := [.ref 0, pw_i (pw_s xs (i + 3)), pw_i (pw_s xs (i + 2)), pw_i (pw_s xs (i + 1)), .ref 141]) rfl (fun _ => rfl) ?_
  refine pwl_ld E (pc' := 2055) (st' := [pw_i i, .ref 0, pw_i (pw_s xs (i + 3)), pw_i (pw_s xs (i + 2)), pw_i (pw_s xs (i + 1)), .ref 141]) rfl (fun _ => rfl) ?_
  refine pwl_ld E (pc' := 2056) (st' := [pw_i 4, pw_i i, .ref 0, pw_i (pw_s xs (i + 3)), pw_i (pw_s xs (i + 2)), pw_i (pw_s xs (i + 1)), .ref 141]) rfl (fun _ => rfl) ?_
  refine pwl_add E (pc' := 2057) rfl rfl ?_
  refine pwl_sald E (pc' := 2058) rfl hX0 hl (by omega) (by omega) rfl ?_
  have hs11 := pw_s_r xs (i + 4)
  obtain ⟨f12l, f12h, -⟩ := pw_obj (c := 125) h6I rfl
  refine pwl_call (m' := 292) (As := [.ref 141, pw_i (pw_s xs (i + 1)), pw_i (pw_s xs (i + 2)), pw_i (pw_s xs (i + 3)), pw_i (pw_s xs (i + 4))]) (rest := []) (ls'' := [some (.ref 141), some (pw_i (pw_s xs (i + 1))), some (pw_i (pw_s xs (i + 2))), some (pw_i (pw_s xs (i + 3))), some (pw_i (pw_s xs (i + 4))), none, none, none]) E rfl (fun _ => pwl_iV rfl rfl rfl (pw_cellI f12h rfl)) (rfl : pm_ent 292 = some (5, 8, 12, 2, pmc_292)) (by decide) rfl rfl (cm_292 (by decide) h6I (pw_s xs (i + 1)) (by omega) (by omega) (pw_s xs (i + 2)) (by omega) (by omega) (pw_s xs (i + 3)) (by omega) (by omega) (pw_s xs (i + 4)) (by omega) (by omega)) ?_
  rintro h14 v13 ⟨h14I, h14E, w15, rfl⟩
  refine ⟨_, rfl, ?_⟩
  have h14K := pw_KE h6I h14E h6K rfl
  have h14L := h14E.1
  show pwl X _ h14 2061 [some (.ref 0), some (.ref 16), some (.ref 141), some (.ref 185), some (pw_i i), some (pw_i x7), a6, a7] [.long w15] _
  have h14Tk : pw_PR 2 131 24 h14 := pw_PRE (c := 2) (c' := 131) rfl rfl h6I h14E h6Tk rfl
  have h14Ck : pw_PR 3 135 24 h14 := pw_PRE (c := 3) (c' := 135) rfl rfl h6I h14E h6Ck rfl
  have h14Bk : pw_PR 4 132 24 h14 := pw_PRE (c := 4) (c' := 132) rfl rfl h6I h14E h6Bk rfl
  have h14Wk : pw_PR 5 133 24 h14 := pw_PRE (c := 5) (c' := 133) rfl rfl h6I h14E h6Wk rfl
  have h14Mk : pw_PR 6 134 24 h14 := pw_PRE (c := 6) (c' := 134) rfl rfl h6I h14E h6Mk rfl
  have h14Fk : pw_PR 8 136 24 h14 := pw_PRE (c := 8) (c' := 136) rfl rfl h6I h14E h6Fk rfl
  have h14Rk : pw_PR 9 137 24 h14 := pw_PRE (c := 9) (c' := 137) rfl rfl h6I h14E h6Rk rfl
  have h14Hk : pw_PR 14 162 288 h14 := pw_PRE (c := 14) (c' := 162) rfl rfl h6I h14E h6Hk rfl
  have h14Gk : pw_PR 15 163 288 h14 := pw_PRE (c := 15) (c' := 163) rfl rfl h6I h14E h6Gk rfl
  have h14Tn := pw_TnE h6I h14E h6Tn rfl
  have h14Lc := pw_LcE h6I h14E h6Lc rfl
  have h14Ls := pw_ShsE h6I h14E h6Ls rfl
  have h14Rm := pw_RmE h6I h14E h6Rm rfl
  have h14Ro := pw_RoE h6I h14E h6Ro rfl
  refine pwl_lst E (pc' := 2063) (ls' := [some (.ref 0), some (.ref 16), some (.ref 141), some (.ref 185), some (pw_i i), some (pw_i x7), some (.long w15), none]) rfl rfl rfl rfl ?_
  refine pwl_goto E (pc' := 2368) rfl (by decide) ?_
  exact pwl_mono (by omega) (hB h14 (some (pw_i x7)) (some (.long w15)) (none) h14I h14K h14Tk h14Ck h14Bk h14Wk h14Mk h14Fk h14Rk h14Hk h14Gk h14Tn h14Lc h14Ls h14Rm h14Ro (by omega) (by omega) (fun _ => rfl) (fun _ => rfl) (fun _ => rfl))
set_option maxHeartbeats 4000000 in
theorem lc_34 {X : List (Nat × List Value)} {xs : List Int32} {K : Nat} {h : pm_H} {Q : pm_H → (Option Value ⊕ Unit) → Prop} (hX0 : X[0]? = some (0, xs.map Value.int)) (hl : xs.length ≤ 3584) (hX : pw_Xk X) (hR : pw_Xr X) (I : pw_I h) (hK : pw_K h) (hTk : pw_PR 2 131 24 h) (hCk : pw_PR 3 135 24 h) (hBk : pw_PR 4 132 24 h) (hWk : pw_PR 5 133 24 h) (hMk : pw_PR 6 134 24 h) (hFk : pw_PR 8 136 24 h) (hRk : pw_PR 9 137 24 h) (hHk : pw_PR 14 162 288 h) (hGk : pw_PR 15 163 288 h) (hTn : pw_Tn h) (hLc : pw_Lc h) (hLs : pw_Shs h) (hRm : pw_Rm h) (hRo : pw_Ro h) (i : Int) (hi0 : 0 ≤ i) (hi1 : i + 7 ≤ xs.length) (a5 a6 a7 : Option Value) (s5 : ∀ n, pm_scl n a5 = true) (s6 : ∀ n, pm_scl n a6 = true) (s7 : ∀ n, pm_scl n a7 = true) (hB : ∀ (h' : pm_H) (b5 b6 b7 : Option Value), pw_I h' → pw_K h' → pw_PR 2 131 24 h' → pw_PR 3 135 24 h' → pw_PR 4 132 24 h' → pw_PR 5 133 24 h' → pw_PR 6 134 24 h' → pw_PR 8 136 24 h' → pw_PR 9 137 24 h' → pw_PR 14 162 288 h' → pw_PR 15 163 288 h' → pw_Tn h' → pw_Lc h' → pw_Shs h' → pw_Rm h' → pw_Ro h' → h'.length ≤ h.length + 1 → pm_slt h' ≤ pm_slt h + 1000 → (∀ n, pm_scl n b5 = true) → (∀ n, pm_scl n b6 = true) → (∀ n, pm_scl n b7 = true) → pwl X K h' 2368 [some (.ref 0), some (.ref 16), some (.ref 141), some (.ref 185), some (pw_i i), b5, b6, b7] [] Q) : pwl X (K + 150) h 2066 [some (.ref 0), some (.ref 16), some (.ref 141), some (.ref 185), some (pw_i i), a5, a6, a7] [] Q := by
  have E : pm_ent 309 = some (1, 8, 13, 1, pmc_309) := rfl
  refine pwl_ld E (pc' := 2067) (st' := [.ref 16]) rfl (fun _ => rfl) ?_
  refine pwl_ld E (pc' := 2068) (st' := [.ref 0, .ref 16]) rfl (fun _ => rfl) ?_
  refine pwl_ld E (pc' := 2070) (st' := [pw_i i, .ref 0, .ref 16]) rfl (fun _ => rfl) ?_
  refine pwl_ld E (pc' := 2071) (st' := [pw_i 1, pw_i i, .ref 0, .ref 16]) rfl (fun _ => rfl) ?_
  refine pwl_add E (pc' := 2072) rfl rfl ?_
  refine pwl_sald E (pc' := 2073) rfl hX0 hl (by omega) (by omega) rfl ?_
  have hs1 := pw_s_r xs (i + 1)
  refine pwl_ld E (pc' := 2074) (st' := [.ref 0, pw_i (pw_s xs (i + 1)), .ref 16]) rfl (fun _ => rfl) ?_
  refine pwl_ld E (pc' := 2076) (st' := [pw_i i, .ref 0, pw_i (pw_s xs (i + 1)), .ref 16]) rfl (fun _ => rfl) ?_
  refine pwl_ld E (pc' := 2077) (st' := [pw_i 2, pw_i i, .ref 0, pw_i (pw_s xs (i + 1)), .ref 16]) rfl (fun _ => rfl) ?_
  refine pwl_add E (pc' := 2078) rfl rfl ?_
  refine pwl_sald E (pc' := 2079) rfl hX0 hl (by omega) (by omega) rfl ?_
  have hs2 := pw_s_r xs (i + 2)
  refine pwl_ld E (pc' := 2080) (st' := [.ref 0, pw_i (pw_s xs (i + 2)), pw_i (pw_s xs (i + 1)), .ref 16]) rfl (fun _ => rfl) ?_
  refine pwl_ld E (pc' := 2082) (st' := [pw_i i, .ref 0, pw_i (pw_s xs (i + 2)), pw_i (pw_s xs (i + 1)), .ref 16]) rfl (fun _ => rfl) ?_
  refine pwl_ld E (pc' := 2083) (st' := [pw_i 3, pw_i i, .ref 0, pw_i (pw_s xs (i + 2)), pw_i (pw_s xs (i + 1)), .ref 16]) rfl (fun _ => rfl) ?_
  refine pwl_add E (pc' := 2084) rfl rfl ?_
  refine pwl_sald E (pc' := 2085) rfl hX0 hl (by omega) (by omega) rfl ?_
  have hs3 := pw_s_r xs (i + 3)
  refine pwl_ld E (pc' := 2086) (st' := [.ref 0, pw_i (pw_s xs (i + 3)), pw_i (pw_s xs (i + 2)), pw_i (pw_s xs (i + 1)), .ref 16]) rfl (fun _ => rfl) ?_
  refine pwl_ld E (pc' := 2088) (st' := [pw_i i, .ref 0, pw_i (pw_s xs (i + 3)), pw_i (pw_s xs (i + 2)), pw_i (pw_s xs (i + 1)), .ref 16]) rfl (fun _ => rfl) ?_
  refine pwl_ld E (pc' := 2089) (st' := [pw_i 4, pw_i i, .ref 0, pw_i (pw_s xs (i + 3)), pw_i (pw_s xs (i + 2)), pw_i (pw_s xs (i + 1)), .ref 16]) rfl (fun _ => rfl) ?_
  refine pwl_add E (pc' := 2090) rfl rfl ?_
  refine pwl_sald E (pc' := 2091) rfl hX0 hl (by omega) (by omega) rfl ?_
  have hs4 := pw_s_r xs (i + 4)
  obtain ⟨f5l, f5h, -⟩ := pw_obj (c := 0) I rfl
  refine pwl_call (m' := 161) (As := [.ref 16, pw_i (pw_s xs (i + 1)), pw_i (pw_s xs (i + 2)), pw_i (pw_s xs (i + 3)), pw_i (pw_s xs (i + 4))]) (rest := []) (ls'' := [some (.ref 16), some (pw_i (pw_s xs (i + 1))), some (pw_i (pw_s xs (i + 2))), some (pw_i (pw_s xs (i + 3))), some (pw_i (pw_s xs (i + 4)))]) E rfl (fun _ => pwl_iV rfl rfl rfl (pw_cellI f5h rfl)) (rfl : pm_ent 161 = some (5, 5, 11, 2, pmc_161)) (by decide) rfl rfl (cm_161 (by decide) I (pw_s xs (i + 1)) (by omega) (by omega) (pw_s xs (i + 2)) (by omega) (by omega) (pw_s xs (i + 3)) (by omega) (by omega) (pw_s xs (i + 4)) (by omega) (by omega)) ?_
  rintro h7 v6 ⟨h7I, h7E, w8, rfl⟩
  refine ⟨_, rfl, ?_⟩
  have h7K := pw_KE I h7E hK rfl
  have h7L := h7E.1
  show pwl X _ h7 2094 [some (.ref 0), some (.ref 16), some (.ref 141), some (.ref 185), some (pw_i i), a5, a6, a7] [.long w8] _
  have h7Tk : pw_PR 2 131 24 h7 := pw_PRE (c := 2) (c' := 131) rfl rfl I h7E hTk rfl
  have h7Ck : pw_PR 3 135 24 h7 := pw_PRE (c := 3) (c' := 135) rfl rfl I h7E hCk rfl
  have h7Bk : pw_PR 4 132 24 h7 := pw_PRE (c := 4) (c' := 132) rfl rfl I h7E hBk rfl
  have h7Wk : pw_PR 5 133 24 h7 := pw_PRE (c := 5) (c' := 133) rfl rfl I h7E hWk rfl
  have h7Mk : pw_PR 6 134 24 h7 := pw_PRE (c := 6) (c' := 134) rfl rfl I h7E hMk rfl
  have h7Fk : pw_PR 8 136 24 h7 := pw_PRE (c := 8) (c' := 136) rfl rfl I h7E hFk rfl
  have h7Rk : pw_PR 9 137 24 h7 := pw_PRE (c := 9) (c' := 137) rfl rfl I h7E hRk rfl
  have h7Hk : pw_PR 14 162 288 h7 := pw_PRE (c := 14) (c' := 162) rfl rfl I h7E hHk rfl
  have h7Gk : pw_PR 15 163 288 h7 := pw_PRE (c := 15) (c' := 163) rfl rfl I h7E hGk rfl
  have h7Tn := pw_TnE I h7E hTn rfl
  have h7Lc := pw_LcE I h7E hLc rfl
  have h7Ls := pw_ShsE I h7E hLs rfl
  have h7Rm := pw_RmE I h7E hRm rfl
  have h7Ro := pw_RoE I h7E hRo rfl
  refine pwl_ld E (pc' := 2095) (st' := []) rfl (fun _ => rfl) ?_
  refine pwl_ld E (pc' := 2096) (st' := [.ref 141]) rfl (fun _ => rfl) ?_
  refine pwl_ld E (pc' := 2097) (st' := [.ref 0, .ref 141]) rfl (fun _ => rfl) ?_
  refine pwl_ld E (pc' := 2099) (st' := [pw_i i, .ref 0, .ref 141]) rfl (fun _ => rfl) ?_
  refine pwl_ld E (pc' := 2100) (st' := [pw_i 1, pw_i i, .ref 0, .ref 141]) rfl (fun _ => rfl) ?_
  refine pwl_add E (pc' := 2101) rfl rfl ?_
  refine pwl_sald E (pc' := 2102) rfl hX0 hl (by omega) (by omega) rfl ?_
  have hs9 := pw_s_r xs (i + 1)
  refine pwl_ld E (pc' := 2103) (st' := [.ref 0, pw_i (pw_s xs (i + 1)), .ref 141]) rfl (fun _ => rfl) ?_
  refine pwl_ld E (pc' := 2105) (st' := [pw_i i, .ref 0, pw_i (pw_s xs (i + 1)), .ref 141]) rfl (fun _ => rfl) ?_
  refine pwl_ld E (pc' := 2106) (st' := [pw_i 2, pw_i i, .ref 0, pw_i (pw_s xs (i + 1)), .ref 141]) rfl (fun _ => rfl) ?_
  refine pwl_add E (pc' := 2107) rfl rfl ?_
  refine pwl_sald E (pc' := 2108) rfl hX0 hl (by omega) (by omega) rfl ?_
  have hs10 := pw_s_r xs (i + 2)
  refine pwl_ld E (pc' := 2109) (st' := [.ref 0, pw_i (pw_s xs (i + 2)), pw_i (pw_s xs (i + 1)), .ref 141]) rfl (fun _ => rfl) ?_
  refine pwl_ld E (pc' := 2111) (st' := [pw_i i, .ref 0, pw_i (pw_s xs (i + 2)), pw_i (pw_s xs (i + 1)), .ref 141]) rfl (fun _ => rfl) ?_
  refine pwl_ld E (pc' := 2112) (st' := [pw_i 3, pw_i i, .ref 0, pw_i (pw_s xs (i + 2)), pw_i (pw_s xs (i + 1)), .ref 141]) rfl (fun _ => rfl) ?_
  refine pwl_add E (pc' := 2113) rfl rfl ?_
  refine pwl_sald E (pc' := 2114) rfl hX0 hl (by omega) (by omega) rfl ?_
  have hs11 := pw_s_r xs (i + 3)
  refine pwl_ld E (pc' := 2115) (st' := [.ref 0, pw_i (pw_s xs (i + 3)), pw_i (pw_s xs (i + 2)), pw_i (pw_s xs (i + 1)), .ref 141]) rfl (fun _ => rfl) ?_
  refine pwl_ld E (pc' := 2117) (st' := [pw_i i, .ref 0, pw_i (pw_s xs (i + 3)), pw_i (pw_s xs (i + 2)), pw_i (pw_s xs (i + 1)), .ref 141]) rfl (fun _ => rfl) ?_
  refine pwl_ld E (pc' := 2118) (st' := [pw_i 4, pw_i i, .ref 0, pw_i (pw_s xs (i + 3)), pw_i (pw_s xs (i + 2)), pw_i (pw_s xs (i + 1)), .ref 141]) rfl (fun _ => rfl) ?_
  refine pwl_add E (pc' := 2119) rfl rfl ?_
  refine pwl_sald E (pc' := 2120) rfl hX0 hl (by omega) (by omega) rfl ?_
  have hs12 := pw_s_r xs (i + 4)
  obtain ⟨f13l, f13h, -⟩ := pw_obj (c := 125) h7I rfl
  refine pwl_call (m' := 294) (As := [.ref 141, pw_i (pw_s xs (i + 1)), pw_i (pw_s xs (i + 2)), pw_i (pw_s xs (i + 3)), pw_i (pw_s xs (i + 4))]) (rest := []) (ls'' := [some (.ref 141), some (pw_i (pw_s xs (i + 1))), some (pw_i (pw_s xs (i + 2))), some (pw_i (pw_s xs (i + 3))), some (pw_i (pw_s xs (i + 4)))]) E rfl (fun _ => pwl_iV rfl rfl rfl (pw_cellI f13h rfl)) (rfl : pm_ent 294 = some (5, 5, 12, 2, pmc_294)) (by decide) rfl rfl (cm_294 (by decide) h7I (pw_s xs (i + 1)) (by omega) (by omega) (pw_s xs (i + 2)) (by omega) (by omega) (pw_s xs (i + 3)) (by omega) (by omega) (pw_s xs (i + 4)) (by omega) (by omega)) ?_
  rintro h15 v14 ⟨h15I, h15E, w16, rfl⟩
  refine ⟨_, rfl, ?_⟩
  have h15K := pw_KE h7I h15E h7K rfl
  have h15L := h15E.1
  show pwl X _ h15 2123 [some (.ref 0), some (.ref 16), some (.ref 141), some (.ref 185), some (pw_i i), a5, a6, a7] [.long w16] _
  have h15Tk : pw_PR 2 131 24 h15 := pw_PRE (c := 2) (c' := 131) rfl rfl h7I h15E h7Tk rfl
  have h15Ck : pw_PR 3 135 24 h15 := pw_PRE (c := 3) (c' := 135) rfl rfl h7I h15E h7Ck rfl
  have h15Bk : pw_PR 4 132 24 h15 := pw_PRE (c := 4) (c' := 132) rfl rfl h7I h15E h7Bk rfl
  have h15Wk : pw_PR 5 133 24 h15 := pw_PRE (c := 5) (c' := 133) rfl rfl h7I h15E h7Wk rfl
  have h15Mk : pw_PR 6 134 24 h15 := pw_PRE (c := 6) (c' := 134) rfl rfl h7I h15E h7Mk rfl
  have h15Fk : pw_PR 8 136 24 h15 := pw_PRE (c := 8) (c' := 136) rfl rfl h7I h15E h7Fk rfl
  have h15Rk : pw_PR 9 137 24 h15 := pw_PRE (c := 9) (c' := 137) rfl rfl h7I h15E h7Rk rfl
  have h15Hk : pw_PR 14 162 288 h15 := pw_PRE (c := 14) (c' := 162) rfl rfl h7I h15E h7Hk rfl
  have h15Gk : pw_PR 15 163 288 h15 := pw_PRE (c := 15) (c' := 163) rfl rfl h7I h15E h7Gk rfl
  have h15Tn := pw_TnE h7I h15E h7Tn rfl
  have h15Lc := pw_LcE h7I h15E h7Lc rfl
  have h15Ls := pw_ShsE h7I h15E h7Ls rfl
  have h15Rm := pw_RmE h7I h15E h7Rm rfl
  have h15Ro := pw_RoE h7I h15E h7Ro rfl
  refine pwl_ld E (pc' := 2124) (st' := []) rfl (fun _ => rfl) ?_
  refine pwl_goto E (pc' := 2368) rfl (by decide) ?_
  exact pwl_mono (by omega) (hB h15 (a5) (a6) (a7) h15I h15K h15Tk h15Ck h15Bk h15Wk h15Mk h15Fk h15Rk h15Hk h15Gk h15Tn h15Lc h15Ls h15Rm h15Ro (by omega) (by omega) s5 s6 s7)
set_option maxHeartbeats 4000000 in
theorem lc_35 {X : List (Nat × List Value)} {xs : List Int32} {K : Nat} {h : pm_H} {Q : pm_H → (Option Value ⊕ Unit) → Prop} (hX0 : X[0]? = some (0, xs.map Value.int)) (hl : xs.length ≤ 3584) (hX : pw_Xk X) (hR : pw_Xr X) (I : pw_I h) (hK : pw_K h) (hTk : pw_PR 2 131 24 h) (hCk : pw_PR 3 135 24 h) (hBk : pw_PR 4 132 24 h) (hWk : pw_PR 5 133 24 h) (hMk : pw_PR 6 134 24 h) (hFk : pw_PR 8 136 24 h) (hRk : pw_PR 9 137 24 h) (hHk : pw_PR 14 162 288 h) (hGk : pw_PR 15 163 288 h) (hTn : pw_Tn h) (hLc : pw_Lc h) (hLs : pw_Shs h) (hRm : pw_Rm h) (hRo : pw_Ro h) (i : Int) (hi0 : 0 ≤ i) (hi1 : i + 7 ≤ xs.length) (a5 a6 a7 : Option Value) (s5 : ∀ n, pm_scl n a5 = true) (s6 : ∀ n, pm_scl n a6 = true) (s7 : ∀ n, pm_scl n a7 = true) (hB : ∀ (h' : pm_H) (b5 b6 b7 : Option Value), pw_I h' → pw_K h' → pw_PR 2 131 24 h' → pw_PR 3 135 24 h' → pw_PR 4 132 24 h' → pw_PR 5 133 24 h' → pw_PR 6 134 24 h' → pw_PR 8 136 24 h' → pw_PR 9 137 24 h' → pw_PR 14 162 288 h' → pw_PR 15 163 288 h' → pw_Tn h' → pw_Lc h' → pw_Shs h' → pw_Rm h' → pw_Ro h' → h'.length ≤ h.length + 1 → pm_slt h' ≤ pm_slt h + 1000 → (∀ n, pm_scl n b5 = true) → (∀ n, pm_scl n b6 = true) → (∀ n, pm_scl n b7 = true) → pwl X K h' 2368 [some (.ref 0), some (.ref 16), some (.ref 141), some (.ref 185), some (pw_i i), b5, b6, b7] [] Q) : pwl X (K + 150) h 2127 [some (.ref 0), some (.ref 16), some (.ref 141), some (.ref 185), some (pw_i i), a5, a6, a7] [] Q := by
  have E : pm_ent 309 = some (1, 8, 13, 1, pmc_309) := rfl
  refine pwl_ld E (pc' := 2128) (st' := [.ref 16]) rfl (fun _ => rfl) ?_
  refine pwl_ld E (pc' := 2129) (st' := [.ref 0, .ref 16]) rfl (fun _ => rfl) ?_
  refine pwl_ld E (pc' := 2131) (st' := [pw_i i, .ref 0, .ref 16]) rfl (fun _ => rfl) ?_
  refine pwl_ld E (pc' := 2132) (st' := [pw_i 1, pw_i i, .ref 0, .ref 16]) rfl (fun _ => rfl) ?_
  refine pwl_add E (pc' := 2133) rfl rfl ?_
  refine pwl_sald E (pc' := 2134) rfl hX0 hl (by omega) (by omega) rfl ?_
  have hs1 := pw_s_r xs (i + 1)
  refine pwl_ld E (pc' := 2135) (st' := [.ref 0, pw_i (pw_s xs (i + 1)), .ref 16]) rfl (fun _ => rfl) ?_
  refine pwl_ld E (pc' := 2137) (st' := [pw_i i, .ref 0, pw_i (pw_s xs (i + 1)), .ref 16]) rfl (fun _ => rfl) ?_
  refine pwl_ld E (pc' := 2138) (st' := [pw_i 2, pw_i i, .ref 0, pw_i (pw_s xs (i + 1)), .ref 16]) rfl (fun _ => rfl) ?_
  refine pwl_add E (pc' := 2139) rfl rfl ?_
  refine pwl_sald E (pc' := 2140) rfl hX0 hl (by omega) (by omega) rfl ?_
  have hs2 := pw_s_r xs (i + 2)
  refine pwl_ld E (pc' := 2141) (st' := [.ref 0, pw_i (pw_s xs (i + 2)), pw_i (pw_s xs (i + 1)), .ref 16]) rfl (fun _ => rfl) ?_
  refine pwl_ld E (pc' := 2143) (st' := [pw_i i, .ref 0, pw_i (pw_s xs (i + 2)), pw_i (pw_s xs (i + 1)), .ref 16]) rfl (fun _ => rfl) ?_
  refine pwl_ld E (pc' := 2144) (st' := [pw_i 3, pw_i i, .ref 0, pw_i (pw_s xs (i + 2)), pw_i (pw_s xs (i + 1)), .ref 16]) rfl (fun _ => rfl) ?_
  refine pwl_add E (pc' := 2145) rfl rfl ?_
  refine pwl_sald E (pc' := 2146) rfl hX0 hl (by omega) (by omega) rfl ?_
  have hs3 := pw_s_r xs (i + 3)
  obtain ⟨f4l, f4h, -⟩ := pw_obj (c := 0) I rfl
  refine pwl_call (m' := 163) (As := [.ref 16, pw_i (pw_s xs (i + 1)), pw_i (pw_s xs (i + 2)), pw_i (pw_s xs (i + 3))]) (rest := []) (ls'' := [some (.ref 16), some (pw_i (pw_s xs (i + 1))), some (pw_i (pw_s xs (i + 2))), some (pw_i (pw_s xs (i + 3))), none, none]) E rfl (fun _ => pwl_iV rfl rfl rfl (pw_cellI f4h rfl)) (rfl : pm_ent 163 = some (4, 6, 11, 0, pmc_163)) (by decide) rfl rfl (cm_163 (by decide) I (pw_s xs (i + 1)) (by omega) (by omega) (pw_s xs (i + 2)) (by omega) (by omega) (pw_s xs (i + 3)) (by omega) (by omega)) ?_
  rintro h6 v5 ⟨h6I, h6E, x7, rfl, hx7a, hx7b⟩
  refine ⟨_, rfl, ?_⟩
  have h6K := pw_KE I h6E hK rfl
  have h6L := h6E.1
  show pwl X _ h6 2149 [some (.ref 0), some (.ref 16), some (.ref 141), some (.ref 185), some (pw_i i), a5, a6, a7] [pw_i x7] _
  have h6Tk : pw_PR 2 131 24 h6 := pw_PRE (c := 2) (c' := 131) rfl rfl I h6E hTk rfl
  have h6Ck : pw_PR 3 135 24 h6 := pw_PRE (c := 3) (c' := 135) rfl rfl I h6E hCk rfl
  have h6Bk : pw_PR 4 132 24 h6 := pw_PRE (c := 4) (c' := 132) rfl rfl I h6E hBk rfl
  have h6Wk : pw_PR 5 133 24 h6 := pw_PRE (c := 5) (c' := 133) rfl rfl I h6E hWk rfl
  have h6Mk : pw_PR 6 134 24 h6 := pw_PRE (c := 6) (c' := 134) rfl rfl I h6E hMk rfl
  have h6Fk : pw_PR 8 136 24 h6 := pw_PRE (c := 8) (c' := 136) rfl rfl I h6E hFk rfl
  have h6Rk : pw_PR 9 137 24 h6 := pw_PRE (c := 9) (c' := 137) rfl rfl I h6E hRk rfl
  have h6Hk : pw_PR 14 162 288 h6 := pw_PRE (c := 14) (c' := 162) rfl rfl I h6E hHk rfl
  have h6Gk : pw_PR 15 163 288 h6 := pw_PRE (c := 15) (c' := 163) rfl rfl I h6E hGk rfl
  have h6Tn := pw_TnE I h6E hTn rfl
  have h6Lc := pw_LcE I h6E hLc rfl
  have h6Ls := pw_ShsE I h6E hLs rfl
  have h6Rm := pw_RmE I h6E hRm rfl
  have h6Ro := pw_RoE I h6E hRo rfl
  refine pwl_ld E (pc' := 2150) (st' := []) rfl (fun _ => rfl) ?_
  refine pwl_ld E (pc' := 2151) (st' := [.ref 141]) rfl (fun _ => rfl) ?_
  refine pwl_ld E (pc' := 2152) (st' := [.ref 0, .ref 141]) rfl (fun _ => rfl) ?_
  refine pwl_ld E (pc' := 2154) (st' := [pw_i i, .ref 0, .ref 141]) rfl (fun _ => rfl) ?_
  refine pwl_ld E (pc' := 2155) (st' := [pw_i 1, pw_i i, .ref 0, .ref 141]) rfl (fun _ => rfl) ?_
  refine pwl_add E (pc' := 2156) rfl rfl ?_
  refine pwl_sald E (pc' := 2157) rfl hX0 hl (by omega) (by omega) rfl ?_
  have hs8 := pw_s_r xs (i + 1)
  refine pwl_ld E (pc' := 2158) (st' := [.ref 0, pw_i (pw_s xs (i + 1)), .ref 141]) rfl (fun _ => rfl) ?_
  refine pwl_ld E (pc' := 2160) (st' := [pw_i i, .ref 0, pw_i (pw_s xs (i + 1)), .ref 141]) rfl (fun _ => rfl) ?_
  refine pwl_ld E (pc' := 2161) (st' := [pw_i 2, pw_i i, .ref 0, pw_i (pw_s xs (i + 1)), .ref 141]) rfl (fun _ => rfl) ?_
  refine pwl_add E (pc' := 2162) rfl rfl ?_
  refine pwl_sald E (pc' := 2163) rfl hX0 hl (by omega) (by omega) rfl ?_
  have hs9 := pw_s_r xs (i + 2)
  refine pwl_ld E (pc' := 2164) (st' := [.ref 0, pw_i (pw_s xs (i + 2)), pw_i (pw_s xs (i + 1)), .ref 141]) rfl (fun _ => rfl) ?_
  refine pwl_ld E (pc' := 2166) (st' := [pw_i i, .ref 0, pw_i (pw_s xs (i + 2)), pw_i (pw_s xs (i + 1)), .ref 141]) rfl (fun _ => rfl) ?_
  refine pwl_ld E (pc' := 2167) (st' := [pw_i 3, pw_i i, .ref 0, pw_i (pw_s xs (i + 2)), pw_i (pw_s xs (i + 1)), .ref 141]) rfl (fun _ => rfl) ?_
  refine pwl_add E (pc' := 2168) rfl rfl ?_
  refine pwl_sald E (pc' := 2169) rfl hX0 hl (by omega) (by omega) rfl ?_
  have hs10 := pw_s_r xs (i + 3)
  obtain ⟨f11l, f11h, -⟩ := pw_obj (c := 125) h6I rfl
  refine pwl_call (m' := 300) (As := [.ref 141, pw_i (pw_s xs (i + 1)), pw_i (pw_s xs (i + 2)), pw_i (pw_s xs (i + 3))]) (rest := []) (ls'' := [some (.ref 141), some (pw_i (pw_s xs (i + 1))), some (pw_i (pw_s xs (i + 2))), some (pw_i (pw_s xs (i + 3))), none]) E rfl (fun _ => pwl_iV rfl rfl rfl (pw_cellI f11h rfl)) (rfl : pm_ent 300 = some (4, 5, 12, 0, pmc_300)) (by decide) rfl rfl (cm_300 (by decide) h6I (pw_s xs (i + 1)) (by omega) (by omega) (pw_s xs (i + 2)) (by omega) (by omega) (pw_s xs (i + 3)) (by omega) (by omega)) ?_
  rintro h13 v12 ⟨h13I, h13E, x14, rfl, hx14a, hx14b⟩
  refine ⟨_, rfl, ?_⟩
  have h13K := pw_KE h6I h13E h6K rfl
  have h13L := h13E.1
  show pwl X _ h13 2172 [some (.ref 0), some (.ref 16), some (.ref 141), some (.ref 185), some (pw_i i), a5, a6, a7] [pw_i x14] _
  have h13Tk : pw_PR 2 131 24 h13 := pw_PRE (c := 2) (c' := 131) rfl rfl h6I h13E h6Tk rfl
  have h13Ck : pw_PR 3 135 24 h13 := pw_PRE (c := 3) (c' := 135) rfl rfl h6I h13E h6Ck rfl
  have h13Bk : pw_PR 4 132 24 h13 := pw_PRE (c := 4) (c' := 132) rfl rfl h6I h13E h6Bk rfl
  have h13Wk : pw_PR 5 133 24 h13 := pw_PRE (c := 5) (c' := 133) rfl rfl h6I h13E h6Wk rfl
  have h13Mk : pw_PR 6 134 24 h13 := pw_PRE (c := 6) (c' := 134) rfl rfl h6I h13E h6Mk rfl
  have h13Fk : pw_PR 8 136 24 h13 := pw_PRE (c := 8) (c' := 136) rfl rfl h6I h13E h6Fk rfl
  have h13Rk : pw_PR 9 137 24 h13 := pw_PRE (c := 9) (c' := 137) rfl rfl h6I h13E h6Rk rfl
  have h13Hk : pw_PR 14 162 288 h13 := pw_PRE (c := 14) (c' := 162) rfl rfl h6I h13E h6Hk rfl
  have h13Gk : pw_PR 15 163 288 h13 := pw_PRE (c := 15) (c' := 163) rfl rfl h6I h13E h6Gk rfl
  have h13Tn := pw_TnE h6I h13E h6Tn rfl
  have h13Lc := pw_LcE h6I h13E h6Lc rfl
  have h13Ls := pw_ShsE h6I h13E h6Ls rfl
  have h13Rm := pw_RmE h6I h13E h6Rm rfl
  have h13Ro := pw_RoE h6I h13E h6Ro rfl
  refine pwl_ld E (pc' := 2173) (st' := []) rfl (fun _ => rfl) ?_
  refine pwl_goto E (pc' := 2368) rfl (by decide) ?_
  exact pwl_mono (by omega) (hB h13 (a5) (a6) (a7) h13I h13K h13Tk h13Ck h13Bk h13Wk h13Mk h13Fk h13Rk h13Hk h13Gk h13Tn h13Lc h13Ls h13Rm h13Ro (by omega) (by omega) s5 s6 s7)
set_option maxHeartbeats 4000000 in
theorem lc_36 {X : List (Nat × List Value)} {xs : List Int32} {K : Nat} {h : pm_H} {Q : pm_H → (Option Value ⊕ Unit) → Prop} (hX0 : X[0]? = some (0, xs.map Value.int)) (hl : xs.length ≤ 3584) (hX : pw_Xk X) (hR : pw_Xr X) (I : pw_I h) (hK : pw_K h) (hTk : pw_PR 2 131 24 h) (hCk : pw_PR 3 135 24 h) (hBk : pw_PR 4 132 24 h) (hWk : pw_PR 5 133 24 h) (hMk : pw_PR 6 134 24 h) (hFk : pw_PR 8 136 24 h) (hRk : pw_PR 9 137 24 h) (hHk : pw_PR 14 162 288 h) (hGk : pw_PR 15 163 288 h) (hTn : pw_Tn h) (hLc : pw_Lc h) (hLs : pw_Shs h) (hRm : pw_Rm h) (hRo : pw_Ro h) (i : Int) (hi0 : 0 ≤ i) (hi1 : i + 7 ≤ xs.length) (a5 a6 a7 : Option Value) (s5 : ∀ n, pm_scl n a5 = true) (s6 : ∀ n, pm_scl n a6 = true) (s7 : ∀ n, pm_scl n a7 = true) (hB : ∀ (h' : pm_H) (b5 b6 b7 : Option Value), pw_I h' → pw_K h' → pw_PR 2 131 24 h' → pw_PR 3 135 24 h' → pw_PR 4 132 24 h' → pw_PR 5 133 24 h' → pw_PR 6 134 24 h' → pw_PR 8 136 24 h' → pw_PR 9 137 24 h' → pw_PR 14 162 288 h' → pw_PR 15 163 288 h' → pw_Tn h' → pw_Lc h' → pw_Shs h' → pw_Rm h' → pw_Ro h' → h'.length ≤ h.length + 1 → pm_slt h' ≤ pm_slt h + 1000 → (∀ n, pm_scl n b5 = true) → (∀ n, pm_scl n b6 = true) → (∀ n, pm_scl n b7 = true) → pwl X K h' 2368 [some (.ref 0), some (.ref 16), some (.ref 141), some (.ref 185), some (pw_i i), b5, b6, b7] [] Q) : pwl X (K + 150) h 2176 [some (.ref 0), some (.ref 16), some (.ref 141), some (.ref 185), some (pw_i i), a5, a6, a7] [] Q := by
  have E : pm_ent 309 = some (1, 8, 13, 1, pmc_309) := rfl
  refine pwl_ld E (pc' := 2177) (st' := [.ref 16]) rfl (fun _ => rfl) ?_
  refine pwl_ld E (pc' := 2178) (st' := [.ref 0, .ref 16]) rfl (fun _ => rfl) ?_
  refine pwl_ld E (pc' := 2180) (st' := [pw_i i, .ref 0, .ref 16]) rfl (fun _ => rfl) ?_
  refine pwl_ld E (pc' := 2181) (st' := [pw_i 1, pw_i i, .ref 0, .ref 16]) rfl (fun _ => rfl) ?_
  refine pwl_add E (pc' := 2182) rfl rfl ?_
  refine pwl_sald E (pc' := 2183) rfl hX0 hl (by omega) (by omega) rfl ?_
  have hs1 := pw_s_r xs (i + 1)
  refine pwl_ld E (pc' := 2184) (st' := [.ref 0, pw_i (pw_s xs (i + 1)), .ref 16]) rfl (fun _ => rfl) ?_
  refine pwl_ld E (pc' := 2186) (st' := [pw_i i, .ref 0, pw_i (pw_s xs (i + 1)), .ref 16]) rfl (fun _ => rfl) ?_
  refine pwl_ld E (pc' := 2187) (st' := [pw_i 2, pw_i i, .ref 0, pw_i (pw_s xs (i + 1)), .ref 16]) rfl (fun _ => rfl) ?_
  refine pwl_add E (pc' := 2188) rfl rfl ?_
  refine pwl_sald E (pc' := 2189) rfl hX0 hl (by omega) (by omega) rfl ?_
  have hs2 := pw_s_r xs (i + 2)
  obtain ⟨f3l, f3h, -⟩ := pw_obj (c := 0) I rfl
  refine pwl_call (m' := 164) (As := [.ref 16, pw_i (pw_s xs (i + 1)), pw_i (pw_s xs (i + 2))]) (rest := []) (ls'' := [some (.ref 16), some (pw_i (pw_s xs (i + 1))), some (pw_i (pw_s xs (i + 2))), none, none, none, none, none]) E rfl (fun _ => pwl_iV rfl rfl rfl (pw_cellI f3h rfl)) (rfl : pm_ent 164 = some (3, 8, 11, 0, pmc_164)) (by decide) rfl rfl (cm_164 (by decide) I (pw_s xs (i + 1)) (by omega) (by omega) (pw_s xs (i + 2)) (by omega) (by omega)) ?_
  rintro h5 v4 ⟨rfl, x6, rfl, hx6a, hx6b⟩
  refine ⟨_, rfl, ?_⟩
  show pwl X _ h 2192 [some (.ref 0), some (.ref 16), some (.ref 141), some (.ref 185), some (pw_i i), a5, a6, a7] [pw_i x6] _
  refine pwl_ld E (pc' := 2193) (st' := []) rfl (fun _ => rfl) ?_
  refine pwl_ld E (pc' := 2194) (st' := [.ref 141]) rfl (fun _ => rfl) ?_
  refine pwl_ld E (pc' := 2195) (st' := [.ref 0, .ref 141]) rfl (fun _ => rfl) ?_
  refine pwl_ld E (pc' := 2197) (st' := [pw_i i, .ref 0, .ref 141]) rfl (fun _ => rfl) ?_
  refine pwl_ld E (pc' := 2198) (st' := [pw_i 1, pw_i i, .ref 0, .ref 141]) rfl (fun _ => rfl) ?_
  refine pwl_add E (pc' := 2199) rfl rfl ?_
  refine pwl_sald E (pc' := 2200) rfl hX0 hl (by omega) (by omega) rfl ?_
  have hs7 := pw_s_r xs (i + 1)
  refine pwl_ld E (pc' := 2201) (st' := [.ref 0, pw_i (pw_s xs (i + 1)), .ref 141]) rfl (fun _ => rfl) ?_
  refine pwl_ld E (pc' := 2203) (st' := [pw_i i, .ref 0, pw_i (pw_s xs (i + 1)), .ref 141]) rfl (fun _ => rfl) ?_
  refine pwl_ld E (pc' := 2204) (st' := [pw_i 2, pw_i i, .ref 0, pw_i (pw_s xs (i + 1)), .ref 141]) rfl (fun _ => rfl) ?_
  refine pwl_add E (pc' := 2205) rfl rfl ?_
  refine pwl_sald E (pc' := 2206) rfl hX0 hl (by omega) (by omega) rfl ?_
  have hs8 := pw_s_r xs (i + 2)
  obtain ⟨f9l, f9h, -⟩ := pw_obj (c := 125) I rfl
  refine pwl_call (m' := 301) (As := [.ref 141, pw_i (pw_s xs (i + 1)), pw_i (pw_s xs (i + 2))]) (rest := []) (ls'' := [some (.ref 141), some (pw_i (pw_s xs (i + 1))), some (pw_i (pw_s xs (i + 2))), none, none, none, none, none, none]) E rfl (fun _ => pwl_iV rfl rfl rfl (pw_cellI f9h rfl)) (rfl : pm_ent 301 = some (3, 9, 12, 0, pmc_301)) (by decide) rfl rfl (cm_301 (by decide) I (pw_s xs (i + 1)) (by omega) (by omega) (pw_s xs (i + 2)) (by omega) (by omega)) ?_
  rintro h11 v10 ⟨h11I, h11E, x12, rfl, hx12a, hx12b⟩
  refine ⟨_, rfl, ?_⟩
  have h11K := pw_KE I h11E hK rfl
  have h11L := h11E.1
  show pwl X _ h11 2209 [some (.ref 0), some (.ref 16), some (.ref 141), some (.ref 185), some (pw_i i), a5, a6, a7] [pw_i x12] _
  have h11Tk : pw_PR 2 131 24 h11 := pw_PRE (c := 2) (c' := 131) rfl rfl I h11E hTk rfl
  have h11Ck : pw_PR 3 135 24 h11 := pw_PRE (c := 3) (c' := 135) rfl rfl I h11E hCk rfl
  have h11Bk : pw_PR 4 132 24 h11 := pw_PRE (c := 4) (c' := 132) rfl rfl I h11E hBk rfl
  have h11Wk : pw_PR 5 133 24 h11 := pw_PRE (c := 5) (c' := 133) rfl rfl I h11E hWk rfl
  have h11Mk : pw_PR 6 134 24 h11 := pw_PRE (c := 6) (c' := 134) rfl rfl I h11E hMk rfl
  have h11Fk : pw_PR 8 136 24 h11 := pw_PRE (c := 8) (c' := 136) rfl rfl I h11E hFk rfl
  have h11Rk : pw_PR 9 137 24 h11 := pw_PRE (c := 9) (c' := 137) rfl rfl I h11E hRk rfl
  have h11Hk : pw_PR 14 162 288 h11 := pw_PRE (c := 14) (c' := 162) rfl rfl I h11E hHk rfl
  have h11Gk : pw_PR 15 163 288 h11 := pw_PRE (c := 15) (c' := 163) rfl rfl I h11E hGk rfl
  have h11Tn := pw_TnE I h11E hTn rfl
  have h11Lc := pw_LcE I h11E hLc rfl
  have h11Ls := pw_ShsE I h11E hLs rfl
  have h11Rm := pw_RmE I h11E hRm rfl
  have h11Ro := pw_RoE I h11E hRo rfl
  refine pwl_ld E (pc' := 2210) (st' := []) rfl (fun _ => rfl) ?_
  refine pwl_goto E (pc' := 2368) rfl (by decide) ?_
  exact pwl_mono (by omega) (hB h11 (a5) (a6) (a7) h11I h11K h11Tk h11Ck h11Bk h11Wk h11Mk h11Fk h11Rk h11Hk h11Gk h11Tn h11Lc h11Ls h11Rm h11Ro (by omega) (by omega) s5 s6 s7)
set_option maxHeartbeats 4000000 in
theorem lc_37 {X : List (Nat × List Value)} {xs : List Int32} {K : Nat} {h : pm_H} {Q : pm_H → (Option Value ⊕ Unit) → Prop} (hX0 : X[0]? = some (0, xs.map Value.int)) (hl : xs.length ≤ 3584) (hX : pw_Xk X) (hR : pw_Xr X) (I : pw_I h) (hK : pw_K h) (hTk : pw_PR 2 131 24 h) (hCk : pw_PR 3 135 24 h) (hBk : pw_PR 4 132 24 h) (hWk : pw_PR 5 133 24 h) (hMk : pw_PR 6 134 24 h) (hFk : pw_PR 8 136 24 h) (hRk : pw_PR 9 137 24 h) (hHk : pw_PR 14 162 288 h) (hGk : pw_PR 15 163 288 h) (hTn : pw_Tn h) (hLc : pw_Lc h) (hLs : pw_Shs h) (hRm : pw_Rm h) (hRo : pw_Ro h) (i : Int) (hi0 : 0 ≤ i) (hi1 : i + 7 ≤ xs.length) (a5 a6 a7 : Option Value) (s5 : ∀ n, pm_scl n a5 = true) (s6 : ∀ n, pm_scl n a6 = true) (s7 : ∀ n, pm_scl n a7 = true) (hB : ∀ (h' : pm_H) (b5 b6 b7 : Option Value), pw_I h' → pw_K h' → pw_PR 2 131 24 h' → pw_PR 3 135 24 h' → pw_PR 4 132 24 h' → pw_PR 5 133 24 h' → pw_PR 6 134 24 h' → pw_PR 8 136 24 h' → pw_PR 9 137 24 h' → pw_PR 14 162 288 h' → pw_PR 15 163 288 h' → pw_Tn h' → pw_Lc h' → pw_Shs h' → pw_Rm h' → pw_Ro h' → h'.length ≤ h.length + 1 → pm_slt h' ≤ pm_slt h + 1000 → (∀ n, pm_scl n b5 = true) → (∀ n, pm_scl n b6 = true) → (∀ n, pm_scl n b7 = true) → pwl X K h' 2368 [some (.ref 0), some (.ref 16), some (.ref 141), some (.ref 185), some (pw_i i), b5, b6, b7] [] Q) : pwl X (K + 150) h 2213 [some (.ref 0), some (.ref 16), some (.ref 141), some (.ref 185), some (pw_i i), a5, a6, a7] [] Q := by
  have E : pm_ent 309 = some (1, 8, 13, 1, pmc_309) := rfl
  refine pwl_ld E (pc' := 2214) (st' := [.ref 16]) rfl (fun _ => rfl) ?_
  refine pwl_ld E (pc' := 2215) (st' := [.ref 0, .ref 16]) rfl (fun _ => rfl) ?_
  refine pwl_ld E (pc' := 2217) (st' := [pw_i i, .ref 0, .ref 16]) rfl (fun _ => rfl) ?_
  refine pwl_ld E (pc' := 2218) (st' := [pw_i 1, pw_i i, .ref 0, .ref 16]) rfl (fun _ => rfl) ?_
  refine pwl_add E (pc' := 2219) rfl rfl ?_
  refine pwl_sald E (pc' := 2220) rfl hX0 hl (by omega) (by omega) rfl ?_
  have hs1 := pw_s_r xs (i + 1)
  refine pwl_ld E (pc' := 2221) (st' := [.ref 0, pw_i (pw_s xs (i + 1)), .ref 16]) rfl (fun _ => rfl) ?_
  refine pwl_ld E (pc' := 2223) (st' := [pw_i i, .ref 0, pw_i (pw_s xs (i + 1)), .ref 16]) rfl (fun _ => rfl) ?_
  refine pwl_ld E (pc' := 2224) (st' := [pw_i 2, pw_i i, .ref 0, pw_i (pw_s xs (i + 1)), .ref 16]) rfl (fun _ => rfl) ?_
  refine pwl_add E (pc' := 2225) rfl rfl ?_
  refine pwl_sald E (pc' := 2226) rfl hX0 hl (by omega) (by omega) rfl ?_
  have hs2 := pw_s_r xs (i + 2)
  refine pwl_ld E (pc' := 2227) (st' := [.ref 0, pw_i (pw_s xs (i + 2)), pw_i (pw_s xs (i + 1)), .ref 16]) rfl (fun _ => rfl) ?_
  refine pwl_ld E (pc' := 2229) (st' := [pw_i i, .ref 0, pw_i (pw_s xs (i + 2)), pw_i (pw_s xs (i + 1)), .ref 16]) rfl (fun _ => rfl) ?_
  refine pwl_ld E (pc' := 2230) (st' := [pw_i 3, pw_i i, .ref 0, pw_i (pw_s xs (i + 2)), pw_i (pw_s xs (i + 1)), .ref 16]) rfl (fun _ => rfl) ?_
  refine pwl_add E (pc' := 2231) rfl rfl ?_
  refine pwl_sald E (pc' := 2232) rfl hX0 hl (by omega) (by omega) rfl ?_
  have hs3 := pw_s_r xs (i + 3)
  refine pwl_ld E (pc' := 2233) (st' := [.ref 185, pw_i (pw_s xs (i + 3)), pw_i (pw_s xs (i + 2)), pw_i (pw_s xs (i + 1)), .ref 16]) rfl (fun _ => rfl) ?_
  refine pwl_call (m' := 323) (As := [.ref 16, pw_i (pw_s xs (i + 1)), pw_i (pw_s xs (i + 2)), pw_i (pw_s xs (i + 3)), .ref 185]) (rest := []) (ls'' := [some (.ref 16), some (pw_i (pw_s xs (i + 1))), some (pw_i (pw_s xs (i + 2))), some (pw_i (pw_s xs (i + 3))), some (.ref 185), none]) E rfl (fun _ => pwl_iS rfl rfl rfl (pw_sc8 I s5 s6 s7) rfl) (rfl : pm_ent 323 = some (5, 6, 13, 0, pmc_323)) (by decide) rfl rfl (cm_323 (by decide) I (pw_s xs (i + 1)) (by omega) (by omega) (pw_s xs (i + 2)) (by omega) (by omega) (pw_s xs (i + 3)) (by omega) (by omega)) ?_
  rintro h5 v4 ⟨h5I, h5E, x6, rfl, hx6a, hx6b⟩
  refine ⟨_, rfl, ?_⟩
  have h5K := pw_KE I h5E hK rfl
  have h5L := h5E.1
  show pwl X _ h5 2236 [some (.ref 0), some (.ref 16), some (.ref 141), some (.ref 185), some (pw_i i), a5, a6, a7] [pw_i x6] _
  have h5Tk : pw_PR 2 131 24 h5 := pw_PRE (c := 2) (c' := 131) rfl rfl I h5E hTk rfl
  have h5Ck : pw_PR 3 135 24 h5 := pw_PRE (c := 3) (c' := 135) rfl rfl I h5E hCk rfl
  have h5Bk : pw_PR 4 132 24 h5 := pw_PRE (c := 4) (c' := 132) rfl rfl I h5E hBk rfl
  have h5Wk : pw_PR 5 133 24 h5 := pw_PRE (c := 5) (c' := 133) rfl rfl I h5E hWk rfl
  have h5Mk : pw_PR 6 134 24 h5 := pw_PRE (c := 6) (c' := 134) rfl rfl I h5E hMk rfl
  have h5Fk : pw_PR 8 136 24 h5 := pw_PRE (c := 8) (c' := 136) rfl rfl I h5E hFk rfl
  have h5Rk : pw_PR 9 137 24 h5 := pw_PRE (c := 9) (c' := 137) rfl rfl I h5E hRk rfl
  have h5Hk : pw_PR 14 162 288 h5 := pw_PRE (c := 14) (c' := 162) rfl rfl I h5E hHk rfl
  have h5Gk : pw_PR 15 163 288 h5 := pw_PRE (c := 15) (c' := 163) rfl rfl I h5E hGk rfl
  have h5Tn := pw_TnE I h5E hTn rfl
  have h5Lc := pw_LcE I h5E hLc rfl
  have h5Ls := pw_ShsE I h5E hLs rfl
  have h5Rm := pw_RmE I h5E hRm rfl
  have h5Ro := pw_RoE I h5E hRo rfl
  refine pwl_ist E (pc' := 2238) (ls' := [some (.ref 0), some (.ref 16), some (.ref 141), some (.ref 185), some (pw_i i), some (pw_i x6), a6, a7]) rfl rfl rfl rfl ?_
  refine pwl_ld E (pc' := 2239) (st' := [.ref 141]) rfl (fun _ => rfl) ?_
  refine pwl_ld E (pc' := 2240) (st' := [.ref 0, .ref 141]) rfl (fun _ => rfl) ?_
  refine pwl_ld E (pc' := 2242) (st' := [pw_i i, .ref 0, .ref 141]) rfl (fun _ => rfl) ?_
  refine pwl_ld E (pc' := 2243) (st' := [pw_i 1, pw_i i, .ref 0, .ref 141]) rfl (fun _ => rfl) ?_
  refine pwl_add E (pc' := 2244) rfl rfl ?_
  refine pwl_sald E (pc' := 2245) rfl hX0 hl (by omega) (by omega) rfl ?_
  have hs7 := pw_s_r xs (i + 1)
  refine pwl_ld E (pc' := 2246) (st' := [.ref 0, pw_i (pw_s xs (i + 1)), .ref 141]) rfl (fun _ => rfl) ?_
  refine pwl_ld E (pc' := 2248) (st' := [pw_i i, .ref 0, pw_i (pw_s xs (i + 1)), .ref 141]) rfl (fun _ => rfl) ?_
  refine pwl_ld E (pc' := 2249) (st' := [pw_i 2, pw_i i, .ref 0, pw_i (pw_s xs (i + 1)), .ref 141]) rfl (fun _ => rfl) ?_
  refine pwl_add E (pc' := 2250) rfl rfl ?_
  refine pwl_sald E (pc' := 2251) rfl hX0 hl (by omega) (by omega) rfl ?_
  have hs8 := pw_s_r xs (i + 2)
  refine pwl_ld E (pc' := 2252) (st' := [.ref 0, pw_i (pw_s xs (i + 2)), pw_i (pw_s xs (i + 1)), .ref 141]) rfl (fun _ => rfl) ?_
  refine pwl_ld E (pc' := 2254) (st' := [pw_i i, .ref 0, pw_i (pw_s xs (i + 2)), pw_i (pw_s xs (i + 1)), .ref 141]) rfl (fun _ => rfl) ?_
  refine pwl_ld E (pc' := 2255) (st' := [pw_i 3, pw_i i, .ref 0, pw_i (pw_s xs (i + 2)), pw_i (pw_s xs (i + 1)), .ref 141]) rfl (fun _ => rfl) ?_
  refine pwl_add E (pc' := 2256) rfl rfl ?_
  refine pwl_sald E (pc' := 2257) rfl hX0 hl (by omega) (by omega) rfl ?_
  have hs9 := pw_s_r xs (i + 3)
  obtain ⟨f10l, f10h, -⟩ := pw_obj (c := 125) h5I rfl
  refine pwl_call (m' := 303) (As := [.ref 141, pw_i (pw_s xs (i + 1)), pw_i (pw_s xs (i + 2)), pw_i (pw_s xs (i + 3))]) (rest := []) (ls'' := [some (.ref 141), some (pw_i (pw_s xs (i + 1))), some (pw_i (pw_s xs (i + 2))), some (pw_i (pw_s xs (i + 3))), none, none, none, none, none, none]) E rfl (fun _ => pwl_iV rfl rfl rfl (pw_cellI f10h rfl)) (rfl : pm_ent 303 = some (4, 10, 12, 2, pmc_303)) (by decide) rfl rfl (cm_303 (by decide) h5I (pw_s xs (i + 1)) (by omega) (by omega) (pw_s xs (i + 2)) (by omega) (by omega) (pw_s xs (i + 3)) (by omega) (by omega)) ?_
  rintro h12 v11 ⟨h12I, h12E, w13, rfl⟩
  refine ⟨_, rfl, ?_⟩
  have h12K := pw_KE h5I h12E h5K rfl
  have h12L := h12E.1
  show pwl X _ h12 2260 [some (.ref 0), some (.ref 16), some (.ref 141), some (.ref 185), some (pw_i i), some (pw_i x6), a6, a7] [.long w13] _
  have h12Tk : pw_PR 2 131 24 h12 := pw_PRE (c := 2) (c' := 131) rfl rfl h5I h12E h5Tk rfl
  have h12Ck : pw_PR 3 135 24 h12 := pw_PRE (c := 3) (c' := 135) rfl rfl h5I h12E h5Ck rfl
  have h12Bk : pw_PR 4 132 24 h12 := pw_PRE (c := 4) (c' := 132) rfl rfl h5I h12E h5Bk rfl
  have h12Wk : pw_PR 5 133 24 h12 := pw_PRE (c := 5) (c' := 133) rfl rfl h5I h12E h5Wk rfl
  have h12Mk : pw_PR 6 134 24 h12 := pw_PRE (c := 6) (c' := 134) rfl rfl h5I h12E h5Mk rfl
  have h12Fk : pw_PR 8 136 24 h12 := pw_PRE (c := 8) (c' := 136) rfl rfl h5I h12E h5Fk rfl
  have h12Rk : pw_PR 9 137 24 h12 := pw_PRE (c := 9) (c' := 137) rfl rfl h5I h12E h5Rk rfl
  have h12Hk : pw_PR 14 162 288 h12 := pw_PRE (c := 14) (c' := 162) rfl rfl h5I h12E h5Hk rfl
  have h12Gk : pw_PR 15 163 288 h12 := pw_PRE (c := 15) (c' := 163) rfl rfl h5I h12E h5Gk rfl
  have h12Tn := pw_TnE h5I h12E h5Tn rfl
  have h12Lc := pw_LcE h5I h12E h5Lc rfl
  have h12Ls := pw_ShsE h5I h12E h5Ls rfl
  have h12Rm := pw_RmE h5I h12E h5Rm rfl
  have h12Ro := pw_RoE h5I h12E h5Ro rfl
  refine pwl_lst E (pc' := 2262) (ls' := [some (.ref 0), some (.ref 16), some (.ref 141), some (.ref 185), some (pw_i i), some (pw_i x6), some (.long w13), none]) rfl rfl rfl rfl ?_
  refine pwl_goto E (pc' := 2368) rfl (by decide) ?_
  exact pwl_mono (by omega) (hB h12 (some (pw_i x6)) (some (.long w13)) (none) h12I h12K h12Tk h12Ck h12Bk h12Wk h12Mk h12Fk h12Rk h12Hk h12Gk h12Tn h12Lc h12Ls h12Rm h12Ro (by omega) (by omega) (fun _ => rfl) (fun _ => rfl) (fun _ => rfl))
set_option maxHeartbeats 4000000 in
theorem lc_38 {X : List (Nat × List Value)} {xs : List Int32} {K : Nat} {h : pm_H} {Q : pm_H → (Option Value ⊕ Unit) → Prop} (hX0 : X[0]? = some (0, xs.map Value.int)) (hl : xs.length ≤ 3584) (hX : pw_Xk X) (hR : pw_Xr X) (I : pw_I h) (hK : pw_K h) (hTk : pw_PR 2 131 24 h) (hCk : pw_PR 3 135 24 h) (hBk : pw_PR 4 132 24 h) (hWk : pw_PR 5 133 24 h) (hMk : pw_PR 6 134 24 h) (hFk : pw_PR 8 136 24 h) (hRk : pw_PR 9 137 24 h) (hHk : pw_PR 14 162 288 h) (hGk : pw_PR 15 163 288 h) (hTn : pw_Tn h) (hLc : pw_Lc h) (hLs : pw_Shs h) (hRm : pw_Rm h) (hRo : pw_Ro h) (i : Int) (hi0 : 0 ≤ i) (hi1 : i + 7 ≤ xs.length) (a5 a6 a7 : Option Value) (s5 : ∀ n, pm_scl n a5 = true) (s6 : ∀ n, pm_scl n a6 = true) (s7 : ∀ n, pm_scl n a7 = true) (hB : ∀ (h' : pm_H) (b5 b6 b7 : Option Value), pw_I h' → pw_K h' → pw_PR 2 131 24 h' → pw_PR 3 135 24 h' → pw_PR 4 132 24 h' → pw_PR 5 133 24 h' → pw_PR 6 134 24 h' → pw_PR 8 136 24 h' → pw_PR 9 137 24 h' → pw_PR 14 162 288 h' → pw_PR 15 163 288 h' → pw_Tn h' → pw_Lc h' → pw_Shs h' → pw_Rm h' → pw_Ro h' → h'.length ≤ h.length + 1 → pm_slt h' ≤ pm_slt h + 1000 → (∀ n, pm_scl n b5 = true) → (∀ n, pm_scl n b6 = true) → (∀ n, pm_scl n b7 = true) → pwl X K h' 2368 [some (.ref 0), some (.ref 16), some (.ref 141), some (.ref 185), some (pw_i i), b5, b6, b7] [] Q) : pwl X (K + 150) h 2265 [some (.ref 0), some (.ref 16), some (.ref 141), some (.ref 185), some (pw_i i), a5, a6, a7] [] Q := by
  have E : pm_ent 309 = some (1, 8, 13, 1, pmc_309) := rfl
  refine pwl_ld E (pc' := 2266) (st' := [.ref 16]) rfl (fun _ => rfl) ?_
  refine pwl_ld E (pc' := 2267) (st' := [.ref 0, .ref 16]) rfl (fun _ => rfl) ?_
  refine pwl_ld E (pc' := 2269) (st' := [pw_i i, .ref 0, .ref 16]) rfl (fun _ => rfl) ?_
  refine pwl_ld E (pc' := 2270) (st' := [pw_i 1, pw_i i, .ref 0, .ref 16]) rfl (fun _ => rfl) ?_
  refine pwl_add E (pc' := 2271) rfl rfl ?_
  refine pwl_sald E (pc' := 2272) rfl hX0 hl (by omega) (by omega) rfl ?_
  have hs1 := pw_s_r xs (i + 1)
  obtain ⟨f2l, f2h, -⟩ := pw_obj (c := 0) I rfl
  refine pwl_call (m' := 165) (As := [.ref 16, pw_i (pw_s xs (i + 1))]) (rest := []) (ls'' := [some (.ref 16), some (pw_i (pw_s xs (i + 1))), none, none, none, none]) E rfl (fun _ => pwl_iV rfl rfl rfl (pw_cellI f2h rfl)) (rfl : pm_ent 165 = some (2, 6, 11, 0, pmc_165)) (by decide) rfl rfl (cm_165 (by decide) I (pw_s xs (i + 1)) (by omega) (by omega)) ?_
  rintro h4 v3 ⟨rfl, x5, rfl, hx5a, hx5b⟩
  refine ⟨_, rfl, ?_⟩
  show pwl X _ h 2275 [some (.ref 0), some (.ref 16), some (.ref 141), some (.ref 185), some (pw_i i), a5, a6, a7] [pw_i x5] _
  refine pwl_ld E (pc' := 2276) (st' := []) rfl (fun _ => rfl) ?_
  refine pwl_ld E (pc' := 2277) (st' := [.ref 141]) rfl (fun _ => rfl) ?_
  refine pwl_ld E (pc' := 2278) (st' := [.ref 0, .ref 141]) rfl (fun _ => rfl) ?_
  refine pwl_ld E (pc' := 2280) (st' := [pw_i i, .ref 0, .ref 141]) rfl (fun _ => rfl) ?_
  refine pwl_ld E (pc' := 2281) (st' := [pw_i 1, pw_i i, .ref 0, .ref 141]) rfl (fun _ => rfl) ?_
  refine pwl_add E (pc' := 2282) rfl rfl ?_
  refine pwl_sald E (pc' := 2283) rfl hX0 hl (by omega) (by omega) rfl ?_
  have hs6 := pw_s_r xs (i + 1)
  obtain ⟨f7l, f7h, -⟩ := pw_obj (c := 125) I rfl
  refine pwl_call (m' := 304) (As := [.ref 141, pw_i (pw_s xs (i + 1))]) (rest := []) (ls'' := [some (.ref 141), some (pw_i (pw_s xs (i + 1))), none, none, none]) E rfl (fun _ => pwl_iV rfl rfl rfl (pw_cellI f7h rfl)) (rfl : pm_ent 304 = some (2, 5, 12, 0, pmc_304)) (by decide) rfl rfl (cm_304 (by decide) I (pw_s xs (i + 1)) (by omega) (by omega)) ?_
  rintro h9 v8 ⟨h9I, h9E, x10, rfl, hx10a, hx10b⟩
  refine ⟨_, rfl, ?_⟩
  have h9K := pw_KE I h9E hK rfl
  have h9L := h9E.1
  show pwl X _ h9 2286 [some (.ref 0), some (.ref 16), some (.ref 141), some (.ref 185), some (pw_i i), a5, a6, a7] [pw_i x10] _
  have h9Tk : pw_PR 2 131 24 h9 := pw_PRE (c := 2) (c' := 131) rfl rfl I h9E hTk rfl
  have h9Ck : pw_PR 3 135 24 h9 := pw_PRE (c := 3) (c' := 135) rfl rfl I h9E hCk rfl
  have h9Bk : pw_PR 4 132 24 h9 := pw_PRE (c := 4) (c' := 132) rfl rfl I h9E hBk rfl
  have h9Wk : pw_PR 5 133 24 h9 := pw_PRE (c := 5) (c' := 133) rfl rfl I h9E hWk rfl
  have h9Mk : pw_PR 6 134 24 h9 := pw_PRE (c := 6) (c' := 134) rfl rfl I h9E hMk rfl
  have h9Fk : pw_PR 8 136 24 h9 := pw_PRE (c := 8) (c' := 136) rfl rfl I h9E hFk rfl
  have h9Rk : pw_PR 9 137 24 h9 := pw_PRE (c := 9) (c' := 137) rfl rfl I h9E hRk rfl
  have h9Hk : pw_PR 14 162 288 h9 := pw_PRE (c := 14) (c' := 162) rfl rfl I h9E hHk rfl
  have h9Gk : pw_PR 15 163 288 h9 := pw_PRE (c := 15) (c' := 163) rfl rfl I h9E hGk rfl
  have h9Tn := pw_TnE I h9E hTn rfl
  have h9Lc := pw_LcE I h9E hLc rfl
  have h9Ls := pw_ShsE I h9E hLs rfl
  have h9Rm := pw_RmE I h9E hRm rfl
  have h9Ro := pw_RoE I h9E hRo rfl
  refine pwl_ld E (pc' := 2287) (st' := []) rfl (fun _ => rfl) ?_
  refine pwl_goto E (pc' := 2368) rfl (by decide) ?_
  exact pwl_mono (by omega) (hB h9 (a5) (a6) (a7) h9I h9K h9Tk h9Ck h9Bk h9Wk h9Mk h9Fk h9Rk h9Hk h9Gk h9Tn h9Lc h9Ls h9Rm h9Ro (by omega) (by omega) s5 s6 s7)
set_option maxHeartbeats 4000000 in
theorem lc_39 {X : List (Nat × List Value)} {xs : List Int32} {K : Nat} {h : pm_H} {Q : pm_H → (Option Value ⊕ Unit) → Prop} (hX0 : X[0]? = some (0, xs.map Value.int)) (hl : xs.length ≤ 3584) (hX : pw_Xk X) (hR : pw_Xr X) (I : pw_I h) (hK : pw_K h) (hTk : pw_PR 2 131 24 h) (hCk : pw_PR 3 135 24 h) (hBk : pw_PR 4 132 24 h) (hWk : pw_PR 5 133 24 h) (hMk : pw_PR 6 134 24 h) (hFk : pw_PR 8 136 24 h) (hRk : pw_PR 9 137 24 h) (hHk : pw_PR 14 162 288 h) (hGk : pw_PR 15 163 288 h) (hTn : pw_Tn h) (hLc : pw_Lc h) (hLs : pw_Shs h) (hRm : pw_Rm h) (hRo : pw_Ro h) (i : Int) (hi0 : 0 ≤ i) (hi1 : i + 7 ≤ xs.length) (a5 a6 a7 : Option Value) (s5 : ∀ n, pm_scl n a5 = true) (s6 : ∀ n, pm_scl n a6 = true) (s7 : ∀ n, pm_scl n a7 = true) (hB : ∀ (h' : pm_H) (b5 b6 b7 : Option Value), pw_I h' → pw_K h' → pw_PR 2 131 24 h' → pw_PR 3 135 24 h' → pw_PR 4 132 24 h' → pw_PR 5 133 24 h' → pw_PR 6 134 24 h' → pw_PR 8 136 24 h' → pw_PR 9 137 24 h' → pw_PR 14 162 288 h' → pw_PR 15 163 288 h' → pw_Tn h' → pw_Lc h' → pw_Shs h' → pw_Rm h' → pw_Ro h' → h'.length ≤ h.length + 1 → pm_slt h' ≤ pm_slt h + 1000 → (∀ n, pm_scl n b5 = true) → (∀ n, pm_scl n b6 = true) → (∀ n, pm_scl n b7 = true) → pwl X K h' 2368 [some (.ref 0), some (.ref 16), some (.ref 141), some (.ref 185), some (pw_i i), b5, b6, b7] [] Q) : pwl X (K + 150) h 2290 [some (.ref 0), some (.ref 16), some (.ref 141), some (.ref 185), some (pw_i i), a5, a6, a7] [] Q := by
  have E : pm_ent 309 = some (1, 8, 13, 1, pmc_309) := rfl
  refine pwl_ld E (pc' := 2291) (st' := [.ref 16]) rfl (fun _ => rfl) ?_
  refine pwl_ld E (pc' := 2292) (st' := [.ref 0, .ref 16]) rfl (fun _ => rfl) ?_
  refine pwl_ld E (pc' := 2294) (st' := [pw_i i, .ref 0, .ref 16]) rfl (fun _ => rfl) ?_
  refine pwl_ld E (pc' := 2295) (st' := [pw_i 1, pw_i i, .ref 0, .ref 16]) rfl (fun _ => rfl) ?_
  refine pwl_add E (pc' := 2296) rfl rfl ?_
  refine pwl_sald E (pc' := 2297) rfl hX0 hl (by omega) (by omega) rfl ?_
  have hs1 := pw_s_r xs (i + 1)
  refine pwl_ld E (pc' := 2298) (st' := [.ref 0, pw_i (pw_s xs (i + 1)), .ref 16]) rfl (fun _ => rfl) ?_
  refine pwl_ld E (pc' := 2300) (st' := [pw_i i, .ref 0, pw_i (pw_s xs (i + 1)), .ref 16]) rfl (fun _ => rfl) ?_
  refine pwl_ld E (pc' := 2301) (st' := [pw_i 2, pw_i i, .ref 0, pw_i (pw_s xs (i + 1)), .ref 16]) rfl (fun _ => rfl) ?_
  refine pwl_add E (pc' := 2302) rfl rfl ?_
  refine pwl_sald E (pc' := 2303) rfl hX0 hl (by omega) (by omega) rfl ?_
  have hs2 := pw_s_r xs (i + 2)
  refine pwl_if E (pc' := 2310) rfl (by decide) (by omega) (by omega) ?_ ?_
  · intro hc3
    have hc3 : pw_s xs (i + 2) = (0 : Int) := hc3
    refine pwl_ld E (pc' := 2311) (st' := [pw_i 0, pw_i (pw_s xs (i + 1)), .ref 16]) rfl (fun _ => rfl) ?_
    obtain ⟨f4l, f4h, -⟩ := pw_obj (c := 0) I rfl
    refine pwl_call (m' := 167) (As := [.ref 16, pw_i (pw_s xs (i + 1)), pw_i 0]) (rest := []) (ls'' := [some (.ref 16), some (pw_i (pw_s xs (i + 1))), some (pw_i 0)]) E rfl (fun _ => pwl_iV rfl rfl rfl (pw_cellI f4h rfl)) (rfl : pm_ent 167 = some (3, 3, 11, 1, pmc_167)) (by decide) rfl rfl (cm_167_h (by decide) I (pw_s xs (i + 1)) (by omega) (by omega) 0 (by decide) (by decide)) ?_
    rintro h6 v5 ⟨h6I, h6E, x7, rfl, hx7a, hx7b, hx7r⟩
    refine ⟨_, rfl, ?_⟩
    have h6K := pw_KE I h6E hK rfl
    have h6L := h6E.1
    show pwl X _ h6 2314 [some (.ref 0), some (.ref 16), some (.ref 141), some (.ref 185), some (pw_i i), a5, a6, a7] [pw_i x7] _
    have hx7r : pw_MT (pw_g h 100 3) (pw_g h6 100 3) (pw_om h) (pw_lm h) (pw_om h6) (pw_lm h6) (pw_s xs (i + 1)) 0 x7 ∧ pw_LT h h6 (pw_s xs (i + 1)) 0 x7 := hx7r
    have h6Tk : pw_PR 2 131 24 h6 := pw_PRE (c := 2) (c' := 131) rfl rfl I h6E hTk rfl
    have h6Ck : pw_PR 3 135 24 h6 := pw_PRE (c := 3) (c' := 135) rfl rfl I h6E hCk rfl
    have h6Bk : pw_PR 4 132 24 h6 := pw_PRE (c := 4) (c' := 132) rfl rfl I h6E hBk rfl
    have h6Wk : pw_PR 5 133 24 h6 := pw_PRE (c := 5) (c' := 133) rfl rfl I h6E hWk rfl
    have h6Mk : pw_PR 6 134 24 h6 := pw_PRE (c := 6) (c' := 134) rfl rfl I h6E hMk rfl
    have h6Fk : pw_PR 8 136 24 h6 := pw_PRE (c := 8) (c' := 136) rfl rfl I h6E hFk rfl
    have h6Rk : pw_PR 9 137 24 h6 := pw_PRE (c := 9) (c' := 137) rfl rfl I h6E hRk rfl
    have h6Hk : pw_PR 14 162 288 h6 := pw_PRE (c := 14) (c' := 162) rfl rfl I h6E hHk rfl
    have h6Gk : pw_PR 15 163 288 h6 := pw_PRE (c := 15) (c' := 163) rfl rfl I h6E hGk rfl
    have h6Tn := pw_TnE I h6E hTn rfl
    refine pwl_ld E (pc' := 2315) (st' := []) rfl (fun _ => rfl) ?_
    refine pwl_ld E (pc' := 2316) (st' := [.ref 141]) rfl (fun _ => rfl) ?_
    refine pwl_ld E (pc' := 2317) (st' := [.ref 0, .ref 141]) rfl (fun _ => rfl) ?_
    refine pwl_ld E (pc' := 2319) (st' := [pw_i i, .ref 0, .ref 141]) rfl (fun _ => rfl) ?_
    refine pwl_ld E (pc' := 2320) (st' := [pw_i 1, pw_i i, .ref 0, .ref 141]) rfl (fun _ => rfl) ?_
    refine pwl_add E (pc' := 2321) rfl rfl ?_
    refine pwl_sald E (pc' := 2322) rfl hX0 hl (by omega) (by omega) rfl ?_
    have hs8 := pw_s_r xs (i + 1)
    refine pwl_ld E (pc' := 2323) (st' := [.ref 0, pw_i (pw_s xs (i + 1)), .ref 141]) rfl (fun _ => rfl) ?_
    refine pwl_ld E (pc' := 2325) (st' := [pw_i i, .ref 0, pw_i (pw_s xs (i + 1)), .ref 141]) rfl (fun _ => rfl) ?_
    refine pwl_ld E (pc' := 2326) (st' := [pw_i 2, pw_i i, .ref 0, pw_i (pw_s xs (i + 1)), .ref 141]) rfl (fun _ => rfl) ?_
    refine pwl_add E (pc' := 2327) rfl rfl ?_
    refine pwl_sald E (pc' := 2328) rfl hX0 hl (by omega) (by omega) rfl ?_
    have hs9 := pw_s_r xs (i + 2)
    refine pwl_if E (pc' := 2335) rfl (by decide) (by omega) (by omega) ?_ ?_
    · intro hc10
      have hc10 : pw_s xs (i + 2) = (0 : Int) := hc10
      refine pwl_ld E (pc' := 2336) (st' := [pw_i 0, pw_i (pw_s xs (i + 1)), .ref 141]) rfl (fun _ => rfl) ?_
      obtain ⟨f11l, f11h, -⟩ := pw_obj (c := 125) h6I rfl
      refine pwl_call (m' := 306) (As := [.ref 141, pw_i (pw_s xs (i + 1)), pw_i 0]) (rest := []) (ls'' := [some (.ref 141), some (pw_i (pw_s xs (i + 1))), some (pw_i 0), none]) E rfl (fun _ => pwl_iV rfl rfl rfl (pw_cellI f11h rfl)) (rfl : pm_ent 306 = some (3, 4, 12, 1, pmc_306)) (by decide) rfl rfl (cm_306_h (by decide) h6I (pw_s xs (i + 1)) (by omega) (by omega) 0 (by decide) (by decide)) ?_
      rintro h13 v12 ⟨h13I, h13E, x14, rfl, hx14a, hx14b, hx14r⟩
      refine ⟨_, rfl, ?_⟩
      have h13K := pw_KE h6I h13E h6K rfl
      have h13L := h13E.1
      show pwl X _ h13 2339 [some (.ref 0), some (.ref 16), some (.ref 141), some (.ref 185), some (pw_i i), a5, a6, a7] [pw_i x14] _
      have hx14r : pw_MT (pw_g h6 125 41) (pw_g h13 125 41) (pw_g h6 167) (pw_g h6 166) (pw_g h13 167) (pw_g h13 166) (pw_s xs (i + 1)) 0 x14 ∧ pw_ST h6 h13 (pw_s xs (i + 1)) 0 x14 := hx14r
      have h13Tk : pw_PR 2 131 24 h13 := pw_PRE (c := 2) (c' := 131) rfl rfl h6I h13E h6Tk rfl
      have h13Ck : pw_PR 3 135 24 h13 := pw_PRE (c := 3) (c' := 135) rfl rfl h6I h13E h6Ck rfl
      have h13Bk : pw_PR 4 132 24 h13 := pw_PRE (c := 4) (c' := 132) rfl rfl h6I h13E h6Bk rfl
      have h13Wk : pw_PR 5 133 24 h13 := pw_PRE (c := 5) (c' := 133) rfl rfl h6I h13E h6Wk rfl
      have h13Mk : pw_PR 6 134 24 h13 := pw_PRE (c := 6) (c' := 134) rfl rfl h6I h13E h6Mk rfl
      have h13Fk : pw_PR 8 136 24 h13 := pw_PRE (c := 8) (c' := 136) rfl rfl h6I h13E h6Fk rfl
      have h13Rk : pw_PR 9 137 24 h13 := pw_PRE (c := 9) (c' := 137) rfl rfl h6I h13E h6Rk rfl
      have h13Hk : pw_PR 14 162 288 h13 := pw_PRE (c := 14) (c' := 162) rfl rfl h6I h13E h6Hk rfl
      have h13Gk : pw_PR 15 163 288 h13 := pw_PRE (c := 15) (c' := 163) rfl rfl h6I h13E h6Gk rfl
      have h13Tn := pw_TnE h6I h13E h6Tn rfl
      have h13M := pw_Rm.mark I h6I h6E h13E hRm hx7r.1 hx14r.1 rfl rfl
      have h13Rm := h13M.2
      have haa : x7 = x14 := h13M.1
      have h13Ro := pw_Ro.mark I h6I h6E h13E hRo hx7r.1 rfl rfl
      have h13Lc := pw_Lc.mark I h6I h6E h13E hLc hx14r.1 hx7r.2 hx14r.2 haa rfl rfl
      have h13Ls := pw_Shs.mark I h6I h6E h13E hLs hx14r.1 hx7r.2 hx14r.2 haa rfl rfl
      refine pwl_ld E (pc' := 2340) (st' := []) rfl (fun _ => rfl) ?_
      refine pwl_goto E (pc' := 2368) rfl (by decide) ?_
      exact pwl_mono (by omega) (hB h13 (a5) (a6) (a7) h13I h13K h13Tk h13Ck h13Bk h13Wk h13Mk h13Fk h13Rk h13Hk h13Gk h13Tn h13Lc h13Ls h13Rm h13Ro (by omega) (by omega) s5 s6 s7)
    · intro hc15
      have hc15 : ¬ (pw_s xs (i + 2) = (0 : Int)) := hc15
      exfalso; omega
  · intro hc16
    have hc16 : ¬ (pw_s xs (i + 2) = (0 : Int)) := hc16
    refine pwl_ld E (pc' := 2307) (st' := [pw_i 1, pw_i (pw_s xs (i + 1)), .ref 16]) rfl (fun _ => rfl) ?_
    refine pwl_goto E (pc' := 2311) rfl (by decide) ?_
    obtain ⟨f17l, f17h, -⟩ := pw_obj (c := 0) I rfl
    refine pwl_call (m' := 167) (As := [.ref 16, pw_i (pw_s xs (i + 1)), pw_i 1]) (rest := []) (ls'' := [some (.ref 16), some (pw_i (pw_s xs (i + 1))), some (pw_i 1)]) E rfl (fun _ => pwl_iV rfl rfl rfl (pw_cellI f17h rfl)) (rfl : pm_ent 167 = some (3, 3, 11, 1, pmc_167)) (by decide) rfl rfl (cm_167_h (by decide) I (pw_s xs (i + 1)) (by omega) (by omega) 1 (by decide) (by decide)) ?_
    rintro h19 v18 ⟨h19I, h19E, x20, rfl, hx20a, hx20b, hx20r⟩
    refine ⟨_, rfl, ?_⟩
    have h19K := pw_KE I h19E hK rfl
    have h19L := h19E.1
    show pwl X _ h19 2314 [some (.ref 0), some (.ref 16), some (.ref 141), some (.ref 185), some (pw_i i), a5, a6, a7] [pw_i x20] _
    have hx20r : pw_MT (pw_g h 100 3) (pw_g h19 100 3) (pw_om h) (pw_lm h) (pw_om h19) (pw_lm h19) (pw_s xs (i + 1)) 1 x20 ∧ pw_LT h h19 (pw_s xs (i + 1)) 1 x20 := hx20r
    have h19Tk : pw_PR 2 131 24 h19 := pw_PRE (c := 2) (c' := 131) rfl rfl I h19E hTk rfl
    have h19Ck : pw_PR 3 135 24 h19 := pw_PRE (c := 3) (c' := 135) rfl rfl I h19E hCk rfl
    have h19Bk : pw_PR 4 132 24 h19 := pw_PRE (c := 4) (c' := 132) rfl rfl I h19E hBk rfl
    have h19Wk : pw_PR 5 133 24 h19 := pw_PRE (c := 5) (c' := 133) rfl rfl I h19E hWk rfl
    have h19Mk : pw_PR 6 134 24 h19 := pw_PRE (c := 6) (c' := 134) rfl rfl I h19E hMk rfl
    have h19Fk : pw_PR 8 136 24 h19 := pw_PRE (c := 8) (c' := 136) rfl rfl I h19E hFk rfl
    have h19Rk : pw_PR 9 137 24 h19 := pw_PRE (c := 9) (c' := 137) rfl rfl I h19E hRk rfl
    have h19Hk : pw_PR 14 162 288 h19 := pw_PRE (c := 14) (c' := 162) rfl rfl I h19E hHk rfl
    have h19Gk : pw_PR 15 163 288 h19 := pw_PRE (c := 15) (c' := 163) rfl rfl I h19E hGk rfl
    have h19Tn := pw_TnE I h19E hTn rfl
    refine pwl_ld E (pc' := 2315) (st' := []) rfl (fun _ => rfl) ?_
    refine pwl_ld E (pc' := 2316) (st' := [.ref 141]) rfl (fun _ => rfl) ?_
    refine pwl_ld E (pc' := 2317) (st' := [.ref 0, .ref 141]) rfl (fun _ => rfl) ?_
    refine pwl_ld E (pc' := 2319) (st' := [pw_i i, .ref 0, .ref 141]) rfl (fun _ => rfl) ?_
    refine pwl_ld E (pc' := 2320) (st' := [pw_i 1, pw_i i, .ref 0, .ref 141]) rfl (fun _ => rfl) ?_
    refine pwl_add E (pc' := 2321) rfl rfl ?_
    refine pwl_sald E (pc' := 2322) rfl hX0 hl (by omega) (by omega) rfl ?_
    have hs21 := pw_s_r xs (i + 1)
    refine pwl_ld E (pc' := 2323) (st' := [.ref 0, pw_i (pw_s xs (i + 1)), .ref 141]) rfl (fun _ => rfl) ?_
    refine pwl_ld E (pc' := 2325) (st' := [pw_i i, .ref 0, pw_i (pw_s xs (i + 1)), .ref 141]) rfl (fun _ => rfl) ?_
    refine pwl_ld E (pc' := 2326) (st' := [pw_i 2, pw_i i, .ref 0, pw_i (pw_s xs (i + 1)), .ref 141]) rfl (fun _ => rfl) ?_
    refine pwl_add E (pc' := 2327) rfl rfl ?_
    refine pwl_sald E (pc' := 2328) rfl hX0 hl (by omega) (by omega) rfl ?_
    have hs22 := pw_s_r xs (i + 2)
    refine pwl_if E (pc' := 2335) rfl (by decide) (by omega) (by omega) ?_ ?_
    · intro hc23
      have hc23 : pw_s xs (i + 2) = (0 : Int) := hc23
      exfalso; omega
    · intro hc24
      have hc24 : ¬ (pw_s xs (i + 2) = (0 : Int)) := hc24
      refine pwl_ld E (pc' := 2332) (st' := [pw_i 1, pw_i (pw_s xs (i + 1)), .ref 141]) rfl (fun _ => rfl) ?_
      refine pwl_goto E (pc' := 2336) rfl (by decide) ?_
      obtain ⟨f25l, f25h, -⟩ := pw_obj (c := 125) h19I rfl
      refine pwl_call (m' := 306) (As := [.ref 141, pw_i (pw_s xs (i + 1)), pw_i 1]) (rest := []) (ls'' := [some (.ref 141), some (pw_i (pw_s xs (i + 1))), some (pw_i 1), none]) E rfl (fun _ => pwl_iV rfl rfl rfl (pw_cellI f25h rfl)) (rfl : pm_ent 306 = some (3, 4, 12, 1, pmc_306)) (by decide) rfl rfl (cm_306_h (by decide) h19I (pw_s xs (i + 1)) (by omega) (by omega) 1 (by decide) (by decide)) ?_
      rintro h27 v26 ⟨h27I, h27E, x28, rfl, hx28a, hx28b, hx28r⟩
      refine ⟨_, rfl, ?_⟩
      have h27K := pw_KE h19I h27E h19K rfl
      have h27L := h27E.1
      show pwl X _ h27 2339 [some (.ref 0), some (.ref 16), some (.ref 141), some (.ref 185), some (pw_i i), a5, a6, a7] [pw_i x28] _
      have hx28r : pw_MT (pw_g h19 125 41) (pw_g h27 125 41) (pw_g h19 167) (pw_g h19 166) (pw_g h27 167) (pw_g h27 166) (pw_s xs (i + 1)) 1 x28 ∧ pw_ST h19 h27 (pw_s xs (i + 1)) 1 x28 := hx28r
      have h27Tk : pw_PR 2 131 24 h27 := pw_PRE (c := 2) (c' := 131) rfl rfl h19I h27E h19Tk rfl
      have h27Ck : pw_PR 3 135 24 h27 := pw_PRE (c := 3) (c' := 135) rfl rfl h19I h27E h19Ck rfl
      have h27Bk : pw_PR 4 132 24 h27 := pw_PRE (c := 4) (c' := 132) rfl rfl h19I h27E h19Bk rfl
      have h27Wk : pw_PR 5 133 24 h27 := pw_PRE (c := 5) (c' := 133) rfl rfl h19I h27E h19Wk rfl
      have h27Mk : pw_PR 6 134 24 h27 := pw_PRE (c := 6) (c' := 134) rfl rfl h19I h27E h19Mk rfl
      have h27Fk : pw_PR 8 136 24 h27 := pw_PRE (c := 8) (c' := 136) rfl rfl h19I h27E h19Fk rfl
      have h27Rk : pw_PR 9 137 24 h27 := pw_PRE (c := 9) (c' := 137) rfl rfl h19I h27E h19Rk rfl
      have h27Hk : pw_PR 14 162 288 h27 := pw_PRE (c := 14) (c' := 162) rfl rfl h19I h27E h19Hk rfl
      have h27Gk : pw_PR 15 163 288 h27 := pw_PRE (c := 15) (c' := 163) rfl rfl h19I h27E h19Gk rfl
      have h27Tn := pw_TnE h19I h27E h19Tn rfl
      have h27M := pw_Rm.mark I h19I h19E h27E hRm hx20r.1 hx28r.1 rfl rfl
      have h27Rm := h27M.2
      have haa : x20 = x28 := h27M.1
      have h27Ro := pw_Ro.mark I h19I h19E h27E hRo hx20r.1 rfl rfl
      have h27Lc := pw_Lc.mark I h19I h19E h27E hLc hx28r.1 hx20r.2 hx28r.2 haa rfl rfl
      have h27Ls := pw_Shs.mark I h19I h19E h27E hLs hx28r.1 hx20r.2 hx28r.2 haa rfl rfl
      refine pwl_ld E (pc' := 2340) (st' := []) rfl (fun _ => rfl) ?_
      refine pwl_goto E (pc' := 2368) rfl (by decide) ?_
      exact pwl_mono (by omega) (hB h27 (a5) (a6) (a7) h27I h27K h27Tk h27Ck h27Bk h27Wk h27Mk h27Fk h27Rk h27Hk h27Gk h27Tn h27Lc h27Ls h27Rm h27Ro (by omega) (by omega) s5 s6 s7)
set_option maxHeartbeats 4000000 in
theorem lc_40 {X : List (Nat × List Value)} {xs : List Int32} {K : Nat} {h : pm_H} {Q : pm_H → (Option Value ⊕ Unit) → Prop} (hX0 : X[0]? = some (0, xs.map Value.int)) (hl : xs.length ≤ 3584) (hX : pw_Xk X) (hR : pw_Xr X) (I : pw_I h) (hK : pw_K h) (hTk : pw_PR 2 131 24 h) (hCk : pw_PR 3 135 24 h) (hBk : pw_PR 4 132 24 h) (hWk : pw_PR 5 133 24 h) (hMk : pw_PR 6 134 24 h) (hFk : pw_PR 8 136 24 h) (hRk : pw_PR 9 137 24 h) (hHk : pw_PR 14 162 288 h) (hGk : pw_PR 15 163 288 h) (hTn : pw_Tn h) (hLc : pw_Lc h) (hLs : pw_Shs h) (hRm : pw_Rm h) (hRo : pw_Ro h) (i : Int) (hi0 : 0 ≤ i) (hi1 : i + 7 ≤ xs.length) (a5 a6 a7 : Option Value) (s5 : ∀ n, pm_scl n a5 = true) (s6 : ∀ n, pm_scl n a6 = true) (s7 : ∀ n, pm_scl n a7 = true) (hB : ∀ (h' : pm_H) (b5 b6 b7 : Option Value), pw_I h' → pw_K h' → pw_PR 2 131 24 h' → pw_PR 3 135 24 h' → pw_PR 4 132 24 h' → pw_PR 5 133 24 h' → pw_PR 6 134 24 h' → pw_PR 8 136 24 h' → pw_PR 9 137 24 h' → pw_PR 14 162 288 h' → pw_PR 15 163 288 h' → pw_Tn h' → pw_Lc h' → pw_Shs h' → pw_Rm h' → pw_Ro h' → h'.length ≤ h.length + 1 → pm_slt h' ≤ pm_slt h + 1000 → (∀ n, pm_scl n b5 = true) → (∀ n, pm_scl n b6 = true) → (∀ n, pm_scl n b7 = true) → pwl X K h' 2368 [some (.ref 0), some (.ref 16), some (.ref 141), some (.ref 185), some (pw_i i), b5, b6, b7] [] Q) : pwl X (K + 150) h 2343 [some (.ref 0), some (.ref 16), some (.ref 141), some (.ref 185), some (pw_i i), a5, a6, a7] [] Q := by
  have E : pm_ent 309 = some (1, 8, 13, 1, pmc_309) := rfl
  refine pwl_ld E (pc' := 2344) (st' := [.ref 16]) rfl (fun _ => rfl) ?_
  refine pwl_ld E (pc' := 2345) (st' := [.ref 0, .ref 16]) rfl (fun _ => rfl) ?_
  refine pwl_ld E (pc' := 2347) (st' := [pw_i i, .ref 0, .ref 16]) rfl (fun _ => rfl) ?_
  refine pwl_ld E (pc' := 2348) (st' := [pw_i 1, pw_i i, .ref 0, .ref 16]) rfl (fun _ => rfl) ?_
  refine pwl_add E (pc' := 2349) rfl rfl ?_
  refine pwl_sald E (pc' := 2350) rfl hX0 hl (by omega) (by omega) rfl ?_
  have hs1 := pw_s_r xs (i + 1)
  obtain ⟨f2l, f2h, -⟩ := pw_obj (c := 0) I rfl
  refine pwl_call (m' := 168) (As := [.ref 16, pw_i (pw_s xs (i + 1))]) (rest := []) (ls'' := [some (.ref 16), some (pw_i (pw_s xs (i + 1)))]) E rfl (fun _ => pwl_iV rfl rfl rfl (pw_cellI f2h rfl)) (rfl : pm_ent 168 = some (2, 2, 11, 0, pmc_168)) (by decide) rfl rfl (cm_168 (by decide) I (pw_s xs (i + 1)) (by omega) (by omega)) ?_
  rintro h4 v3 ⟨rfl, x5, rfl, hx5a, hx5b⟩
  refine ⟨_, rfl, ?_⟩
  show pwl X _ h 2353 [some (.ref 0), some (.ref 16), some (.ref 141), some (.ref 185), some (pw_i i), a5, a6, a7] [pw_i x5] _
  refine pwl_ld E (pc' := 2354) (st' := []) rfl (fun _ => rfl) ?_
  refine pwl_ld E (pc' := 2355) (st' := [.ref 141]) rfl (fun _ => rfl) ?_
  refine pwl_ld E (pc' := 2356) (st' := [.ref 0, .ref 141]) rfl (fun _ => rfl) ?_
  refine pwl_ld E (pc' := 2358) (st' := [pw_i i, .ref 0, .ref 141]) rfl (fun _ => rfl) ?_
  refine pwl_ld E (pc' := 2359) (st' := [pw_i 1, pw_i i, .ref 0, .ref 141]) rfl (fun _ => rfl) ?_
  refine pwl_add E (pc' := 2360) rfl rfl ?_
  refine pwl_sald E (pc' := 2361) rfl hX0 hl (by omega) (by omega) rfl ?_
  have hs6 := pw_s_r xs (i + 1)
  obtain ⟨f7l, f7h, -⟩ := pw_obj (c := 125) I rfl
  refine pwl_call (m' := 308) (As := [.ref 141, pw_i (pw_s xs (i + 1))]) (rest := []) (ls'' := [some (.ref 141), some (pw_i (pw_s xs (i + 1))), none, none]) E rfl (fun _ => pwl_iV rfl rfl rfl (pw_cellI f7h rfl)) (rfl : pm_ent 308 = some (2, 4, 12, 0, pmc_308)) (by decide) rfl rfl (cm_308 (by decide) I (pw_s xs (i + 1)) (by omega) (by omega)) ?_
  rintro h9 v8 ⟨h9I, h9E, x10, rfl, hx10a, hx10b⟩
  refine ⟨_, rfl, ?_⟩
  have h9K := pw_KE I h9E hK rfl
  have h9L := h9E.1
  show pwl X _ h9 2364 [some (.ref 0), some (.ref 16), some (.ref 141), some (.ref 185), some (pw_i i), a5, a6, a7] [pw_i x10] _
  have h9Tk : pw_PR 2 131 24 h9 := pw_PRE (c := 2) (c' := 131) rfl rfl I h9E hTk rfl
  have h9Ck : pw_PR 3 135 24 h9 := pw_PRE (c := 3) (c' := 135) rfl rfl I h9E hCk rfl
  have h9Bk : pw_PR 4 132 24 h9 := pw_PRE (c := 4) (c' := 132) rfl rfl I h9E hBk rfl
  have h9Wk : pw_PR 5 133 24 h9 := pw_PRE (c := 5) (c' := 133) rfl rfl I h9E hWk rfl
  have h9Mk : pw_PR 6 134 24 h9 := pw_PRE (c := 6) (c' := 134) rfl rfl I h9E hMk rfl
  have h9Fk : pw_PR 8 136 24 h9 := pw_PRE (c := 8) (c' := 136) rfl rfl I h9E hFk rfl
  have h9Rk : pw_PR 9 137 24 h9 := pw_PRE (c := 9) (c' := 137) rfl rfl I h9E hRk rfl
  have h9Hk : pw_PR 14 162 288 h9 := pw_PRE (c := 14) (c' := 162) rfl rfl I h9E hHk rfl
  have h9Gk : pw_PR 15 163 288 h9 := pw_PRE (c := 15) (c' := 163) rfl rfl I h9E hGk rfl
  have h9Tn := pw_TnE I h9E hTn rfl
  have h9Lc := pw_LcE I h9E hLc rfl
  have h9Ls := pw_ShsE I h9E hLs rfl
  have h9Rm := pw_RmE I h9E hRm rfl
  have h9Ro := pw_RoE I h9E hRo rfl
  refine pwl_ld E (pc' := 2365) (st' := []) rfl (fun _ => rfl) ?_
  refine pwl_goto E (pc' := 2368) rfl (by decide) ?_
  exact pwl_mono (by omega) (hB h9 (a5) (a6) (a7) h9I h9K h9Tk h9Ck h9Bk h9Wk h9Mk h9Fk h9Rk h9Hk h9Gk h9Tn h9Lc h9Ls h9Rm h9Ro (by omega) (by omega) s5 s6 s7)
