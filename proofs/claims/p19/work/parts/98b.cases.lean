/-! cases -/
set_option maxHeartbeats 4000000 in
theorem lc_14 {X : List (Nat × List Value)} {xs : List Int32} {K : Nat} {h : pm_H} {Q : pm_H → (Option Value ⊕ Unit) → Prop} (hX0 : X[0]? = some (0, xs.map Value.int)) (hl : xs.length ≤ 3584) (hX : pw_Xk X) (hR : pw_Xr X) (I : pw_I h) (hK : pw_K h) (hTk : pw_PR 2 131 24 h) (hCk : pw_PR 3 135 24 h) (hBk : pw_PR 4 132 24 h) (hWk : pw_PR 5 133 24 h) (hMk : pw_PR 6 134 24 h) (hFk : pw_PR 8 136 24 h) (hRk : pw_PR 9 137 24 h) (hHk : pw_PR 14 162 288 h) (hGk : pw_PR 15 163 288 h) (hTn : pw_Tn h) (hLc : pw_Lc h) (hLs : pw_Shs h) (hRm : pw_Rm h) (hRo : pw_Ro h) (i : Int) (hi0 : 0 ≤ i) (hi1 : i + 7 ≤ xs.length) (a5 a6 a7 : Option Value) (s5 : ∀ n, pm_scl n a5 = true) (s6 : ∀ n, pm_scl n a6 = true) (s7 : ∀ n, pm_scl n a7 = true) (hB : ∀ (h' : pm_H) (b5 b6 b7 : Option Value), pw_I h' → pw_K h' → pw_PR 2 131 24 h' → pw_PR 3 135 24 h' → pw_PR 4 132 24 h' → pw_PR 5 133 24 h' → pw_PR 6 134 24 h' → pw_PR 8 136 24 h' → pw_PR 9 137 24 h' → pw_PR 14 162 288 h' → pw_PR 15 163 288 h' → pw_Tn h' → pw_Lc h' → pw_Shs h' → pw_Rm h' → pw_Ro h' → h'.length ≤ h.length + 1 → pm_slt h' ≤ pm_slt h + 1000 → (∀ n, pm_scl n b5 = true) → (∀ n, pm_scl n b6 = true) → (∀ n, pm_scl n b7 = true) → pwl X K h' 2368 [some (.ref 0), some (.ref 16), some (.ref 141), some (.ref 185), some (pw_i i), b5, b6, b7] [] Q) : pwl X (K + 150) h 1016 [some (.ref 0), some (.ref 16), some (.ref 141), some (.ref 185), some (pw_i i), a5, a6, a7] [] Q := by
  have E : pm_ent 309 = some (1, 8, 13, 1, pmc_309) := rfl
  refine pwl_ld E (pc' := 1017) (st' := [.ref 16]) rfl (fun _ => rfl) ?_
  refine pwl_ld E (pc' := 1018) (st' := [.ref 0, .ref 16]) rfl (fun _ => rfl) ?_
  refine pwl_ld E (pc' := 1020) (st' := [pw_i i, .ref 0, .ref 16]) rfl (fun _ => rfl) ?_
  refine pwl_ld E (pc' := 1021) (st' := [pw_i 1, pw_i i, .ref 0, .ref 16]) rfl (fun _ => rfl) ?_
  refine pwl_add E (pc' := 1022) rfl rfl ?_
  refine pwl_sald E (pc' := 1023) rfl hX0 hl (by omega) (by omega) rfl ?_
  have hs1 := pw_s_r xs (i + 1)
  refine pwl_ld E (pc' := 1024) (st' := [.ref 0, pw_i (pw_s xs (i + 1)), .ref 16]) rfl (fun _ => rfl) ?_
  refine pwl_ld E (pc' := 1026) (st' := [pw_i i, .ref 0, pw_i (pw_s xs (i + 1)), .ref 16]) rfl (fun _ => rfl) ?_
  refine pwl_ld E (pc' := 1027) (st' := [pw_i 2, pw_i i, .ref 0, pw_i (pw_s xs (i + 1)), .ref 16]) rfl (fun _ => rfl) ?_
  refine pwl_add E (pc' := 1028) rfl rfl ?_
  refine pwl_sald E (pc' := 1029) rfl hX0 hl (by omega) (by omega) rfl ?_
  have hs2 := pw_s_r xs (i + 2)
  refine pwl_ld E (pc' := 1030) (st' := [.ref 0, pw_i (pw_s xs (i + 2)), pw_i (pw_s xs (i + 1)), .ref 16]) rfl (fun _ => rfl) ?_
  refine pwl_ld E (pc' := 1032) (st' := [pw_i i, .ref 0, pw_i (pw_s xs (i + 2)), pw_i (pw_s xs (i + 1)), .ref 16]) rfl (fun _ => rfl) ?_
  refine pwl_ld E (pc' := 1033) (st' := [pw_i 3, pw_i i, .ref 0, pw_i (pw_s xs (i + 2)), pw_i (pw_s xs (i + 1)), .ref 16]) rfl (fun _ => rfl) ?_
  refine pwl_add E (pc' := 1034) rfl rfl ?_
  refine pwl_sald E (pc' := 1035) rfl hX0 hl (by omega) (by omega) rfl ?_
  have hs3 := pw_s_r xs (i + 3)
  obtain ⟨f4l, f4h, -⟩ := pw_obj (c := 0) I rfl
  refine pwl_call (m' := 136) (As := [.ref 16, pw_i (pw_s xs (i + 1)), pw_i (pw_s xs (i + 2)), pw_i (pw_s xs (i + 3))]) (rest := []) (ls'' := [some (.ref 16), some (pw_i (pw_s xs (i + 1))), some (pw_i (pw_s xs (i + 2))), some (pw_i (pw_s xs (i + 3)))]) E rfl (fun _ => pwl_iV rfl rfl rfl (pw_cellI f4h rfl)) (rfl : pm_ent 136 = some (4, 4, 11, 2, pmc_136)) (by decide) rfl rfl (cm_136 (by decide) I (pw_s xs (i + 1)) (by omega) (by omega) (pw_s xs (i + 2)) (by omega) (by omega) (pw_s xs (i + 3)) (by omega) (by omega)) ?_
  rintro h6 v5 ⟨h6I, h6E, w7, rfl⟩
  refine ⟨_, rfl, ?_⟩
  have h6K := pw_KE I h6E hK rfl
  have h6L := h6E.1
  show pwl X _ h6 1038 [some (.ref 0), some (.ref 16), some (.ref 141), some (.ref 185), some (pw_i i), a5, a6, a7] [.long w7] _
  have h6Tk : pw_PR 2 131 24 h6 := pw_PRE (c := 2) (c' := 131) rfl rfl I h6E hTk rfl
  have h6Ck : pw_PR 3 135 24 h6 := pw_PRE (c := 3) (c' := 135) rfl rfl I h6E hCk rfl
  have h6Bk : pw_PR 4 132 24 h6 := pw_PRE (c := 4) (c' := 132) rfl rfl I h6E hBk rfl
  have h6Wk : pw_PR 5 133 24 h6 := pw_PRE (c := 5) (c' := 133) rfl rfl I h6E hWk rfl
  have h6Mk : pw_PR 6 134 24 h6 := pw_PRE (c := 6) (c' := 134) rfl rfl I h6E hMk rfl
  have h6Fk : pw_PR 8 136 24 h6 := pw_PRE (c := 8) (c' := 136) rfl rfl I h6E hFk rfl
  have h6Rk : pw_PR 9 137 24 h6 := pw_PRE (c := 9) (c' := 137) rfl rfl I h6E hRk rfl
  have h6Hk : pw_PR 14 162 288 h6 := pw_PRE (c := 14) (c' := 162) rfl rfl I h6E hHk rfl
  have h6Gk : pw_PR 15 163 288 h6 := pw_PRE (c := 15) (c' := 163) rfl rfl I h6E hGk rfl
  have h6Tn := pw_TnE I h6E hTn rfl
  have h6Lc := pw_LcE I h6E hLc rfl
  have h6Ls := pw_ShsE I h6E hLs rfl
  have h6Rm := pw_RmE I h6E hRm rfl
  have h6Ro := pw_RoE I h6E hRo rfl
  refine pwl_ld E (pc' := 1039) (st' := []) rfl (fun _ => rfl) ?_
  refine pwl_ld E (pc' := 1040) (st' := [.ref 141]) rfl (fun _ => rfl) ?_
  refine pwl_ld E (pc' := 1041) (st' := [.ref 0, .ref 141]) rfl (fun _ => rfl) ?_
  refine pwl_ld E (pc' := 1043) (st' := [pw_i i, .ref 0, .ref 141]) rfl (fun _ => rfl) ?_
  refine pwl_ld E (pc' := 1044) (st' := [pw_i 1, pw_i i, .ref 0, .ref 141]) rfl (fun _ => rfl) ?_
  refine pwl_add E (pc' := 1045) rfl rfl ?_
  refine pwl_sald E (pc' := 1046) rfl hX0 hl (by omega) (by omega) rfl ?_
  have hs8 := pw_s_r xs (i + 1)
  refine pwl_ld E (pc' := 1047) (st' := [.ref 0, pw_i (pw_s xs (i + 1)), .ref 141]) rfl (fun _ => rfl) ?_
  refine pwl_ld E (pc' := 1049) (st' := [pw_i i, .ref 0, pw_i (pw_s xs (i + 1)), .ref 141]) rfl (fun _ => rfl) ?_
  refine pwl_ld E (pc' := 1050) (st' := [pw_i 2, pw_i i, .ref 0, pw_i (pw_s xs (i + 1)), .ref 141]) rfl (fun _ => rfl) ?_
  refine pwl_add E (pc' := 1051) rfl rfl ?_
  refine pwl_sald E (pc' := 1052) rfl hX0 hl (by omega) (by omega) rfl ?_
  have hs9 := pw_s_r xs (i + 2)
  refine pwl_ld E (pc' := 1053) (st' := [.ref 0, pw_i (pw_s xs (i + 2)), pw_i (pw_s xs (i + 1)), .ref 141]) rfl (fun _ => rfl) ?_
  refine pwl_ld E (pc' := 1055) (st' := [pw_i i, .ref 0, pw_i (pw_s xs (i + 2)), pw_i (pw_s xs (i + 1)), .ref 141]) rfl (fun _ => rfl) ?_
  refine pwl_ld E (pc' := 1056) (st' := [pw_i 3, pw_i i, .ref 0, pw_i (pw_s xs (i + 2)), pw_i (pw_s xs (i + 1)), .ref 141]) rfl (fun _ => rfl) ?_
  refine pwl_add E (pc' := 1057) rfl rfl ?_
  refine pwl_sald E (pc' := 1058) rfl hX0 hl (by omega) (by omega) rfl ?_
  have hs10 := pw_s_r xs (i + 3)
  obtain ⟨f11l, f11h, -⟩ := pw_obj (c := 125) h6I rfl
  refine pwl_call (m' := 233) (As := [.ref 141, pw_i (pw_s xs (i + 1)), pw_i (pw_s xs (i + 2)), pw_i (pw_s xs (i + 3))]) (rest := []) (ls'' := [some (.ref 141), some (pw_i (pw_s xs (i + 1))), some (pw_i (pw_s xs (i + 2))), some (pw_i (pw_s xs (i + 3))), none, none, none, none, none, none, none, none, none, none, none, none, none, none, none, none, none, none, none]) E rfl (fun _ => pwl_iV rfl rfl rfl (pw_cellI f11h rfl)) (rfl : pm_ent 233 = some (4, 23, 12, 2, pmc_233)) (by decide) rfl rfl (cm_233 (by decide) h6I (pw_s xs (i + 1)) (by omega) (by omega) (pw_s xs (i + 2)) (by omega) (by omega) (pw_s xs (i + 3)) (by omega) (by omega)) ?_
  rintro h13 v12 ⟨h13I, h13E, w14, rfl⟩
  refine ⟨_, rfl, ?_⟩
  have h13K := pw_KE h6I h13E h6K rfl
  have h13L := h13E.1
  show pwl X _ h13 1061 [some (.ref 0), some (.ref 16), some (.ref 141), some (.ref 185), some (pw_i i), a5, a6, a7] [.long w14] _
  have h13Tk : pw_PR 2 131 24 h13 := pw_PRE (c := 2) (c' := 131) rfl rfl h6I h13E h6Tk rfl
  have h13Ck : pw_PR 3 135 24 h13 := pw_PRE (c := 3) (c' := 135) rfl rfl h6I h13E h6Ck rfl
  have h13Bk : pw_PR 4 132 24 h13 := pw_PRE (c := 4) (c' := 132) rfl rfl h6I h13E h6Bk rfl
  have h13Wk : pw_PR 5 133 24 h13 := pw_PRE (c := 5) (c' := 133) rfl rfl h6I h13E h6Wk rfl
  have h13Mk : pw_PR 6 134 24 h13 := pw_PRE (c := 6) (c' := 134) rfl rfl h6I h13E h6Mk rfl
  have h13Fk : pw_PR 8 136 24 h13 := pw_PRE (c := 8) (c' := 136) rfl rfl h6I h13E h6Fk rfl
  have h13Rk : pw_PR 9 137 24 h13 := pw_PRE (c := 9) (c' := 137) rfl rfl h6I h13E h6Rk rfl
  have h13Hk : pw_PR 14 162 288 h13 := pw_PRE (c := 14) (c' := 162) rfl rfl h6I h13E h6Hk rfl
  have h13Gk : pw_PR 15 163 288 h13 := pw_PRE (c := 15) (c' := 163) rfl rfl h6I h13E h6Gk rfl
  have h13Tn := pw_TnE h6I h13E h6Tn rfl
  have h13Lc := pw_LcE h6I h13E h6Lc rfl
  have h13Ls := pw_ShsE h6I h13E h6Ls rfl
  have h13Rm := pw_RmE h6I h13E h6Rm rfl
  have h13Ro := pw_RoE h6I h13E h6Ro rfl
  refine pwl_ld E (pc' := 1062) (st' := []) rfl (fun _ => rfl) ?_
  refine pwl_goto E (pc' := 2368) rfl (by decide) ?_
  exact pwl_mono (by omega) (hB h13 (a5) (a6) (a7) h13I h13K h13Tk h13Ck h13Bk h13Wk h13Mk h13Fk h13Rk h13Hk h13Gk h13Tn h13Lc h13Ls h13Rm h13Ro (by omega) (by omega) s5 s6 s7)
set_option maxHeartbeats 4000000 in
theorem lc_15 {X : List (Nat × List Value)} {xs : List Int32} {K : Nat} {h : pm_H} {Q : pm_H → (Option Value ⊕ Unit) → Prop} (hX0 : X[0]? = some (0, xs.map Value.int)) (hl : xs.length ≤ 3584) (hX : pw_Xk X) (hR : pw_Xr X) (I : pw_I h) (hK : pw_K h) (hTk : pw_PR 2 131 24 h) (hCk : pw_PR 3 135 24 h) (hBk : pw_PR 4 132 24 h) (hWk : pw_PR 5 133 24 h) (hMk : pw_PR 6 134 24 h) (hFk : pw_PR 8 136 24 h) (hRk : pw_PR 9 137 24 h) (hHk : pw_PR 14 162 288 h) (hGk : pw_PR 15 163 288 h) (hTn : pw_Tn h) (hLc : pw_Lc h) (hLs : pw_Shs h) (hRm : pw_Rm h) (hRo : pw_Ro h) (i : Int) (hi0 : 0 ≤ i) (hi1 : i + 7 ≤ xs.length) (a5 a6 a7 : Option Value) (s5 : ∀ n, pm_scl n a5 = true) (s6 : ∀ n, pm_scl n a6 = true) (s7 : ∀ n, pm_scl n a7 = true) (hB : ∀ (h' : pm_H) (b5 b6 b7 : Option Value), pw_I h' → pw_K h' → pw_PR 2 131 24 h' → pw_PR 3 135 24 h' → pw_PR 4 132 24 h' → pw_PR 5 133 24 h' → pw_PR 6 134 24 h' → pw_PR 8 136 24 h' → pw_PR 9 137 24 h' → pw_PR 14 162 288 h' → pw_PR 15 163 288 h' → pw_Tn h' → pw_Lc h' → pw_Shs h' → pw_Rm h' → pw_Ro h' → h'.length ≤ h.length + 1 → pm_slt h' ≤ pm_slt h + 1000 → (∀ n, pm_scl n b5 = true) → (∀ n, pm_scl n b6 = true) → (∀ n, pm_scl n b7 = true) → pwl X K h' 2368 [some (.ref 0), some (.ref 16), some (.ref 141), some (.ref 185), some (pw_i i), b5, b6, b7] [] Q) : pwl X (K + 150) h 1065 [some (.ref 0), some (.ref 16), some (.ref 141), some (.ref 185), some (pw_i i), a5, a6, a7] [] Q := by
  have E : pm_ent 309 = some (1, 8, 13, 1, pmc_309) := rfl
  refine pwl_ld E (pc' := 1066) (st' := [.ref 16]) rfl (fun _ => rfl) ?_
  refine pwl_ld E (pc' := 1067) (st' := [.ref 0, .ref 16]) rfl (fun _ => rfl) ?_
  refine pwl_ld E (pc' := 1069) (st' := [pw_i i, .ref 0, .ref 16]) rfl (fun _ => rfl) ?_
  refine pwl_ld E (pc' := 1070) (st' := [pw_i 1, pw_i i, .ref 0, .ref 16]) rfl (fun _ => rfl) ?_
  refine pwl_add E (pc' := 1071) rfl rfl ?_
  refine pwl_sald E (pc' := 1072) rfl hX0 hl (by omega) (by omega) rfl ?_
  have hs1 := pw_s_r xs (i + 1)
  refine pwl_ld E (pc' := 1073) (st' := [.ref 0, pw_i (pw_s xs (i + 1)), .ref 16]) rfl (fun _ => rfl) ?_
  refine pwl_ld E (pc' := 1075) (st' := [pw_i i, .ref 0, pw_i (pw_s xs (i + 1)), .ref 16]) rfl (fun _ => rfl) ?_
  refine pwl_ld E (pc' := 1076) (st' := [pw_i 2, pw_i i, .ref 0, pw_i (pw_s xs (i + 1)), .ref 16]) rfl (fun _ => rfl) ?_
  refine pwl_add E (pc' := 1077) rfl rfl ?_
  refine pwl_sald E (pc' := 1078) rfl hX0 hl (by omega) (by omega) rfl ?_
  have hs2 := pw_s_r xs (i + 2)
  refine pwl_ld E (pc' := 1079) (st' := [.ref 0, pw_i (pw_s xs (i + 2)), pw_i (pw_s xs (i + 1)), .ref 16]) rfl (fun _ => rfl) ?_
  refine pwl_ld E (pc' := 1081) (st' := [pw_i i, .ref 0, pw_i (pw_s xs (i + 2)), pw_i (pw_s xs (i + 1)), .ref 16]) rfl (fun _ => rfl) ?_
  refine pwl_ld E (pc' := 1082) (st' := [pw_i 3, pw_i i, .ref 0, pw_i (pw_s xs (i + 2)), pw_i (pw_s xs (i + 1)), .ref 16]) rfl (fun _ => rfl) ?_
  refine pwl_add E (pc' := 1083) rfl rfl ?_
  refine pwl_sald E (pc' := 1084) rfl hX0 hl (by omega) (by omega) rfl ?_
  have hs3 := pw_s_r xs (i + 3)
  refine pwl_ld E (pc' := 1085) (st' := [.ref 185, pw_i (pw_s xs (i + 3)), pw_i (pw_s xs (i + 2)), pw_i (pw_s xs (i + 1)), .ref 16]) rfl (fun _ => rfl) ?_
  refine pwl_call (m' := 316) (As := [.ref 16, pw_i (pw_s xs (i + 1)), pw_i (pw_s xs (i + 2)), pw_i (pw_s xs (i + 3)), .ref 185]) (rest := []) (ls'' := [some (.ref 16), some (pw_i (pw_s xs (i + 1))), some (pw_i (pw_s xs (i + 2))), some (pw_i (pw_s xs (i + 3))), some (.ref 185), none]) E rfl (fun _ => pwl_iS rfl rfl rfl (pw_sc8 I s5 s6 s7) rfl) (rfl : pm_ent 316 = some (5, 6, 13, 0, pmc_316)) (by decide) rfl rfl (cm_316 (by decide) I (pw_s xs (i + 1)) (by omega) (by omega) (pw_s xs (i + 2)) (by omega) (by omega) (pw_s xs (i + 3)) (by omega) (by omega)) ?_
  rintro h5 v4 ⟨h5I, h5E, x6, rfl, hx6a, hx6b⟩
  refine ⟨_, rfl, ?_⟩
  have h5K := pw_KE I h5E hK rfl
  have h5L := h5E.1
  show pwl X _ h5 1088 [some (.ref 0), some (.ref 16), some (.ref 141), some (.ref 185), some (pw_i i), a5, a6, a7] [pw_i x6] _
  have h5Tk : pw_PR 2 131 24 h5 := pw_PRE (c := 2) (c' := 131) rfl rfl I h5E hTk rfl
  have h5Ck : pw_PR 3 135 24 h5 := pw_PRE (c := 3) (c' := 135) rfl rfl I h5E hCk rfl
  have h5Bk : pw_PR 4 132 24 h5 := pw_PRE (c := 4) (c' := 132) rfl rfl I h5E hBk rfl
  have h5Wk : pw_PR 5 133 24 h5 := pw_PRE (c := 5) (c' := 133) rfl rfl I h5E hWk rfl
  have h5Mk : pw_PR 6 134 24 h5 := pw_PRE (c := 6) (c' := 134) rfl rfl I h5E hMk rfl
  have h5Fk : pw_PR 8 136 24 h5 := pw_PRE (c := 8) (c' := 136) rfl rfl I h5E hFk rfl
  have h5Rk : pw_PR 9 137 24 h5 := pw_PRE (c := 9) (c' := 137) rfl rfl I h5E hRk rfl
  have h5Hk : pw_PR 14 162 288 h5 := pw_PRE (c := 14) (c' := 162) rfl rfl I h5E hHk rfl
  have h5Gk : pw_PR 15 163 288 h5 := pw_PRE (c := 15) (c' := 163) rfl rfl I h5E hGk rfl
  have h5Tn := pw_TnE I h5E hTn rfl
  have h5Lc := pw_LcE I h5E hLc rfl
  have h5Ls := pw_ShsE I h5E hLs rfl
  have h5Rm := pw_RmE I h5E hRm rfl
  have h5Ro := pw_RoE I h5E hRo rfl
  refine pwl_ist E (pc' := 1090) (ls' := [some (.ref 0), some (.ref 16), some (.ref 141), some (.ref 185), some (pw_i i), some (pw_i x6), a6, a7]) rfl rfl rfl rfl ?_
  refine pwl_ld E (pc' := 1091) (st' := [.ref 141]) rfl (fun _ => rfl) ?_
  refine pwl_ld E (pc' := 1092) (st' := [.ref 0, .ref 141]) rfl (fun _ => rfl) ?_
  refine pwl_ld E (pc' := 1094) (st' := [pw_i i, .ref 0, .ref 141]) rfl (fun _ => rfl) ?_
  refine pwl_ld E (pc' := 1095) (st' := [pw_i 1, pw_i i, .ref 0, .ref 141]) rfl (fun _ => rfl) ?_
  refine pwl_add E (pc' := 1096) rfl rfl ?_
  refine pwl_sald E (pc' := 1097) rfl hX0 hl (by omega) (by omega) rfl ?_
  have hs7 := pw_s_r xs (i + 1)
  refine pwl_ld E (pc' := 1098) (st' := [.ref 0, pw_i (pw_s xs (i + 1)), .ref 141]) rfl (fun _ => rfl) ?_
  refine pwl_ld E (pc' := 1100) (st' := [pw_i i, .ref 0, pw_i (pw_s xs (i + 1)), .ref 141]) rfl (fun _ => rfl) ?_
  refine pwl_ld E (pc' := 1101) (st' := [pw_i 2, pw_i i, .ref 0, pw_i (pw_s xs (i + 1)), .ref 141]) rfl (fun _ => rfl) ?_
  refine pwl_add E (pc' := 1102) rfl rfl ?_
  refine pwl_sald E (pc' := 1103) rfl hX0 hl (by omega) (by omega) rfl ?_
  have hs8 := pw_s_r xs (i + 2)
  refine pwl_ld E (pc' := 1104) (st' := [.ref 0, pw_i (pw_s xs (i + 2)), pw_i (pw_s xs (i + 1)), .ref 141]) rfl (fun _ => rfl) ?_
  refine pwl_ld E (pc' := 1106) (st' := [pw_i i, .ref 0, pw_i (pw_s xs (i + 2)), pw_i (pw_s xs (i + 1)), .ref 141]) rfl (fun _ => rfl) ?_
  refine pwl_ld E (pc' := 1107) (st' := [pw_i 3, pw_i i, .ref 0, pw_i (pw_s xs (i + 2)), pw_i (pw_s xs (i + 1)), .ref 141]) rfl (fun _ => rfl) ?_
  refine pwl_add E (pc' := 1108) rfl rfl ?_
  refine pwl_sald E (pc' := 1109) rfl hX0 hl (by omega) (by omega) rfl ?_
  have hs9 := pw_s_r xs (i + 3)
  obtain ⟨f10l, f10h, -⟩ := pw_obj (c := 125) h5I rfl
  refine pwl_call (m' := 234) (As := [.ref 141, pw_i (pw_s xs (i + 1)), pw_i (pw_s xs (i + 2)), pw_i (pw_s xs (i + 3))]) (rest := []) (ls'' := [some (.ref 141), some (pw_i (pw_s xs (i + 1))), some (pw_i (pw_s xs (i + 2))), some (pw_i (pw_s xs (i + 3))), none]) E rfl (fun _ => pwl_iV rfl rfl rfl (pw_cellI f10h rfl)) (rfl : pm_ent 234 = some (4, 5, 12, 2, pmc_234)) (by decide) rfl rfl (cm_234 (by decide) h5I (pw_s xs (i + 1)) (by omega) (by omega) (pw_s xs (i + 2)) (by omega) (by omega) (pw_s xs (i + 3)) (by omega) (by omega)) ?_
  rintro h12 v11 ⟨h12I, h12E, w13, rfl⟩
  refine ⟨_, rfl, ?_⟩
  have h12K := pw_KE h5I h12E h5K rfl
  have h12L := h12E.1
  show pwl X _ h12 1112 [some (.ref 0), some (.ref 16), some (.ref 141), some (.ref 185), some (pw_i i), some (pw_i x6), a6, a7] [.long w13] _
  have h12Tk : pw_PR 2 131 24 h12 := pw_PRE (c := 2) (c' := 131) rfl rfl h5I h12E h5Tk rfl
  have h12Ck : pw_PR 3 135 24 h12 := pw_PRE (c := 3) (c' := 135) rfl rfl h5I h12E h5Ck rfl
  have h12Bk : pw_PR 4 132 24 h12 := pw_PRE (c := 4) (c' := 132) rfl rfl h5I h12E h5Bk rfl
  have h12Wk : pw_PR 5 133 24 h12 := pw_PRE (c := 5) (c' := 133) rfl rfl h5I h12E h5Wk rfl
  have h12Mk : pw_PR 6 134 24 h12 := pw_PRE (c := 6) (c' := 134) rfl rfl h5I h12E h5Mk rfl
  have h12Fk : pw_PR 8 136 24 h12 := pw_PRE (c := 8) (c' := 136) rfl rfl h5I h12E h5Fk rfl
  have h12Rk : pw_PR 9 137 24 h12 := pw_PRE (c := 9) (c' := 137) rfl rfl h5I h12E h5Rk rfl
  have h12Hk : pw_PR 14 162 288 h12 := pw_PRE (c := 14) (c' := 162) rfl rfl h5I h12E h5Hk rfl
  have h12Gk : pw_PR 15 163 288 h12 := pw_PRE (c := 15) (c' := 163) rfl rfl h5I h12E h5Gk rfl
  have h12Tn := pw_TnE h5I h12E h5Tn rfl
  have h12Lc := pw_LcE h5I h12E h5Lc rfl
  have h12Ls := pw_ShsE h5I h12E h5Ls rfl
  have h12Rm := pw_RmE h5I h12E h5Rm rfl
  have h12Ro := pw_RoE h5I h12E h5Ro rfl
  refine pwl_lst E (pc' := 1114) (ls' := [some (.ref 0), some (.ref 16), some (.ref 141), some (.ref 185), some (pw_i i), some (pw_i x6), some (.long w13), none]) rfl rfl rfl rfl ?_
  refine pwl_goto E (pc' := 2368) rfl (by decide) ?_
  exact pwl_mono (by omega) (hB h12 (some (pw_i x6)) (some (.long w13)) (none) h12I h12K h12Tk h12Ck h12Bk h12Wk h12Mk h12Fk h12Rk h12Hk h12Gk h12Tn h12Lc h12Ls h12Rm h12Ro (by omega) (by omega) (fun _ => rfl) (fun _ => rfl) (fun _ => rfl))
set_option maxHeartbeats 4000000 in
theorem lc_16 {X : List (Nat × List Value)} {xs : List Int32} {K : Nat} {h : pm_H} {Q : pm_H → (Option Value ⊕ Unit) → Prop} (hX0 : X[0]? = some (0, xs.map Value.int)) (hl : xs.length ≤ 3584) (hX : pw_Xk X) (hR : pw_Xr X) (I : pw_I h) (hK : pw_K h) (hTk : pw_PR 2 131 24 h) (hCk : pw_PR 3 135 24 h) (hBk : pw_PR 4 132 24 h) (hWk : pw_PR 5 133 24 h) (hMk : pw_PR 6 134 24 h) (hFk : pw_PR 8 136 24 h) (hRk : pw_PR 9 137 24 h) (hHk : pw_PR 14 162 288 h) (hGk : pw_PR 15 163 288 h) (hTn : pw_Tn h) (hLc : pw_Lc h) (hLs : pw_Shs h) (hRm : pw_Rm h) (hRo : pw_Ro h) (i : Int) (hi0 : 0 ≤ i) (hi1 : i + 7 ≤ xs.length) (a5 a6 a7 : Option Value) (s5 : ∀ n, pm_scl n a5 = true) (s6 : ∀ n, pm_scl n a6 = true) (s7 : ∀ n, pm_scl n a7 = true) (hB : ∀ (h' : pm_H) (b5 b6 b7 : Option Value), pw_I h' → pw_K h' → pw_PR 2 131 24 h' → pw_PR 3 135 24 h' → pw_PR 4 132 24 h' → pw_PR 5 133 24 h' → pw_PR 6 134 24 h' → pw_PR 8 136 24 h' → pw_PR 9 137 24 h' → pw_PR 14 162 288 h' → pw_PR 15 163 288 h' → pw_Tn h' → pw_Lc h' → pw_Shs h' → pw_Rm h' → pw_Ro h' → h'.length ≤ h.length + 1 → pm_slt h' ≤ pm_slt h + 1000 → (∀ n, pm_scl n b5 = true) → (∀ n, pm_scl n b6 = true) → (∀ n, pm_scl n b7 = true) → pwl X K h' 2368 [some (.ref 0), some (.ref 16), some (.ref 141), some (.ref 185), some (pw_i i), b5, b6, b7] [] Q) : pwl X (K + 150) h 1117 [some (.ref 0), some (.ref 16), some (.ref 141), some (.ref 185), some (pw_i i), a5, a6, a7] [] Q := by
  have E : pm_ent 309 = some (1, 8, 13, 1, pmc_309) := rfl
  refine pwl_ld E (pc' := 1118) (st' := [.ref 16]) rfl (fun _ => rfl) ?_
  refine pwl_ld E (pc' := 1119) (st' := [.ref 0, .ref 16]) rfl (fun _ => rfl) ?_
  refine pwl_ld E (pc' := 1121) (st' := [pw_i i, .ref 0, .ref 16]) rfl (fun _ => rfl) ?_
  refine pwl_ld E (pc' := 1122) (st' := [pw_i 1, pw_i i, .ref 0, .ref 16]) rfl (fun _ => rfl) ?_
  refine pwl_add E (pc' := 1123) rfl rfl ?_
  refine pwl_sald E (pc' := 1124) rfl hX0 hl (by omega) (by omega) rfl ?_
  have hs1 := pw_s_r xs (i + 1)
  refine pwl_ld E (pc' := 1125) (st' := [.ref 0, pw_i (pw_s xs (i + 1)), .ref 16]) rfl (fun _ => rfl) ?_
  refine pwl_ld E (pc' := 1127) (st' := [pw_i i, .ref 0, pw_i (pw_s xs (i + 1)), .ref 16]) rfl (fun _ => rfl) ?_
  refine pwl_ld E (pc' := 1128) (st' := [pw_i 2, pw_i i, .ref 0, pw_i (pw_s xs (i + 1)), .ref 16]) rfl (fun _ => rfl) ?_
  refine pwl_add E (pc' := 1129) rfl rfl ?_
  refine pwl_sald E (pc' := 1130) rfl hX0 hl (by omega) (by omega) rfl ?_
  have hs2 := pw_s_r xs (i + 2)
  obtain ⟨f3l, f3h, -⟩ := pw_obj (c := 0) I rfl
  refine pwl_call (m' := 139) (As := [.ref 16, pw_i (pw_s xs (i + 1)), pw_i (pw_s xs (i + 2))]) (rest := []) (ls'' := [some (.ref 16), some (pw_i (pw_s xs (i + 1))), some (pw_i (pw_s xs (i + 2))), none, none]) E rfl (fun _ => pwl_iV rfl rfl rfl (pw_cellI f3h rfl)) (rfl : pm_ent 139 = some (3, 5, 11, 2, pmc_139)) (by decide) rfl rfl (cm_139 (by decide) I (pw_s xs (i + 1)) (by omega) (by omega) (pw_s xs (i + 2)) (by omega) (by omega)) ?_
  rintro h5 v4 ⟨h5I, h5E, w6, rfl⟩
  refine ⟨_, rfl, ?_⟩
  have h5K := pw_KE I h5E hK rfl
  have h5L := h5E.1
  show pwl X _ h5 1133 [some (.ref 0), some (.ref 16), some (.ref 141), some (.ref 185), some (pw_i i), a5, a6, a7] [.long w6] _
  have h5Tk : pw_PR 2 131 24 h5 := pw_PRE (c := 2) (c' := 131) rfl rfl I h5E hTk rfl
  have h5Ck : pw_PR 3 135 24 h5 := pw_PRE (c := 3) (c' := 135) rfl rfl I h5E hCk rfl
  have h5Bk : pw_PR 4 132 24 h5 := pw_PRE (c := 4) (c' := 132) rfl rfl I h5E hBk rfl
  have h5Wk : pw_PR 5 133 24 h5 := pw_PRE (c := 5) (c' := 133) rfl rfl I h5E hWk rfl
  have h5Mk : pw_PR 6 134 24 h5 := pw_PRE (c := 6) (c' := 134) rfl rfl I h5E hMk rfl
  have h5Fk : pw_PR 8 136 24 h5 := pw_PRE (c := 8) (c' := 136) rfl rfl I h5E hFk rfl
  have h5Rk : pw_PR 9 137 24 h5 := pw_PRE (c := 9) (c' := 137) rfl rfl I h5E hRk rfl
  have h5Hk : pw_PR 14 162 288 h5 := pw_PRE (c := 14) (c' := 162) rfl rfl I h5E hHk rfl
  have h5Gk : pw_PR 15 163 288 h5 := pw_PRE (c := 15) (c' := 163) rfl rfl I h5E hGk rfl
  have h5Tn := pw_TnE I h5E hTn rfl
  have h5Lc := pw_LcE I h5E hLc rfl
  have h5Ls := pw_ShsE I h5E hLs rfl
  have h5Rm := pw_RmE I h5E hRm rfl
  have h5Ro := pw_RoE I h5E hRo rfl
  refine pwl_ld E (pc' := 1134) (st' := []) rfl (fun _ => rfl) ?_
  refine pwl_ld E (pc' := 1135) (st' := [.ref 141]) rfl (fun _ => rfl) ?_
  refine pwl_ld E (pc' := 1136) (st' := [.ref 0, .ref 141]) rfl (fun _ => rfl) ?_
  refine pwl_ld E (pc' := 1138) (st' := [pw_i i, .ref 0, .ref 141]) rfl (fun _ => rfl) ?_
  refine pwl_ld E (pc' := 1139) (st' := [pw_i 1, pw_i i, .ref 0, .ref 141]) rfl (fun _ => rfl) ?_
  refine pwl_add E (pc' := 1140) rfl rfl ?_
  refine pwl_sald E (pc' := 1141) rfl hX0 hl (by omega) (by omega) rfl ?_
  have hs7 := pw_s_r xs (i + 1)
  refine pwl_ld E (pc' := 1142) (st' := [.ref 0, pw_i (pw_s xs (i + 1)), .ref 141]) rfl (fun _ => rfl) ?_
  refine pwl_ld E (pc' := 1144) (st' := [pw_i i, .ref 0, pw_i (pw_s xs (i + 1)), .ref 141]) rfl (fun _ => rfl) ?_
  refine pwl_ld E (pc' := 1145) (st' := [pw_i 2, pw_i i, .ref 0, pw_i (pw_s xs (i + 1)), .ref 141]) rfl (fun _ => rfl) ?_
  refine pwl_add E (pc' := 1146) rfl rfl ?_
  refine pwl_sald E (pc' := 1147) rfl hX0 hl (by omega) (by omega) rfl ?_
  have hs8 := pw_s_r xs (i + 2)
  obtain ⟨f9l, f9h, -⟩ := pw_obj (c := 125) h5I rfl
  refine pwl_call (m' := 235) (As := [.ref 141, pw_i (pw_s xs (i + 1)), pw_i (pw_s xs (i + 2))]) (rest := []) (ls'' := [some (.ref 141), some (pw_i (pw_s xs (i + 1))), some (pw_i (pw_s xs (i + 2))), none, none, none, none, none, none, none, none]) E rfl (fun _ => pwl_iV rfl rfl rfl (pw_cellI f9h rfl)) (rfl : pm_ent 235 = some (3, 11, 12, 2, pmc_235)) (by decide) rfl rfl (cm_235 (by decide) h5I (pw_s xs (i + 1)) (by omega) (by omega) (pw_s xs (i + 2)) (by omega) (by omega)) ?_
  rintro h11 v10 ⟨h11I, h11E, w12, rfl⟩
  refine ⟨_, rfl, ?_⟩
  have h11K := pw_KE h5I h11E h5K rfl
  have h11L := h11E.1
  show pwl X _ h11 1150 [some (.ref 0), some (.ref 16), some (.ref 141), some (.ref 185), some (pw_i i), a5, a6, a7] [.long w12] _
  have h11Tk : pw_PR 2 131 24 h11 := pw_PRE (c := 2) (c' := 131) rfl rfl h5I h11E h5Tk rfl
  have h11Ck : pw_PR 3 135 24 h11 := pw_PRE (c := 3) (c' := 135) rfl rfl h5I h11E h5Ck rfl
  have h11Bk : pw_PR 4 132 24 h11 := pw_PRE (c := 4) (c' := 132) rfl rfl h5I h11E h5Bk rfl
  have h11Wk : pw_PR 5 133 24 h11 := pw_PRE (c := 5) (c' := 133) rfl rfl h5I h11E h5Wk rfl
  have h11Mk : pw_PR 6 134 24 h11 := pw_PRE (c := 6) (c' := 134) rfl rfl h5I h11E h5Mk rfl
  have h11Fk : pw_PR 8 136 24 h11 := pw_PRE (c := 8) (c' := 136) rfl rfl h5I h11E h5Fk rfl
  have h11Rk : pw_PR 9 137 24 h11 := pw_PRE (c := 9) (c' := 137) rfl rfl h5I h11E h5Rk rfl
  have h11Hk : pw_PR 14 162 288 h11 := pw_PRE (c := 14) (c' := 162) rfl rfl h5I h11E h5Hk rfl
  have h11Gk : pw_PR 15 163 288 h11 := pw_PRE (c := 15) (c' := 163) rfl rfl h5I h11E h5Gk rfl
  have h11Tn := pw_TnE h5I h11E h5Tn rfl
  have h11Lc := pw_LcE h5I h11E h5Lc rfl
  have h11Ls := pw_ShsE h5I h11E h5Ls rfl
  have h11Rm := pw_RmE h5I h11E h5Rm rfl
  have h11Ro := pw_RoE h5I h11E h5Ro rfl
  refine pwl_ld E (pc' := 1151) (st' := []) rfl (fun _ => rfl) ?_
  refine pwl_goto E (pc' := 2368) rfl (by decide) ?_
  exact pwl_mono (by omega) (hB h11 (a5) (a6) (a7) h11I h11K h11Tk h11Ck h11Bk h11Wk h11Mk h11Fk h11Rk h11Hk h11Gk h11Tn h11Lc h11Ls h11Rm h11Ro (by omega) (by omega) s5 s6 s7)
set_option maxHeartbeats 4000000 in
theorem lc_17 {X : List (Nat × List Value)} {xs : List Int32} {K : Nat} {h : pm_H} {Q : pm_H → (Option Value ⊕ Unit) → Prop} (hX0 : X[0]? = some (0, xs.map Value.int)) (hl : xs.length ≤ 3584) (hX : pw_Xk X) (hR : pw_Xr X) (I : pw_I h) (hK : pw_K h) (hTk : pw_PR 2 131 24 h) (hCk : pw_PR 3 135 24 h) (hBk : pw_PR 4 132 24 h) (hWk : pw_PR 5 133 24 h) (hMk : pw_PR 6 134 24 h) (hFk : pw_PR 8 136 24 h) (hRk : pw_PR 9 137 24 h) (hHk : pw_PR 14 162 288 h) (hGk : pw_PR 15 163 288 h) (hTn : pw_Tn h) (hLc : pw_Lc h) (hLs : pw_Shs h) (hRm : pw_Rm h) (hRo : pw_Ro h) (i : Int) (hi0 : 0 ≤ i) (hi1 : i + 7 ≤ xs.length) (a5 a6 a7 : Option Value) (s5 : ∀ n, pm_scl n a5 = true) (s6 : ∀ n, pm_scl n a6 = true) (s7 : ∀ n, pm_scl n a7 = true) (hB : ∀ (h' : pm_H) (b5 b6 b7 : Option Value), pw_I h' → pw_K h' → pw_PR 2 131 24 h' → pw_PR 3 135 24 h' → pw_PR 4 132 24 h' → pw_PR 5 133 24 h' → pw_PR 6 134 24 h' → pw_PR 8 136 24 h' → pw_PR 9 137 24 h' → pw_PR 14 162 288 h' → pw_PR 15 163 288 h' → pw_Tn h' → pw_Lc h' → pw_Shs h' → pw_Rm h' → pw_Ro h' → h'.length ≤ h.length + 1 → pm_slt h' ≤ pm_slt h + 1000 → (∀ n, pm_scl n b5 = true) → (∀ n, pm_scl n b6 = true) → (∀ n, pm_scl n b7 = true) → pwl X K h' 2368 [some (.ref 0), some (.ref 16), some (.ref 141), some (.ref 185), some (pw_i i), b5, b6, b7] [] Q) : pwl X (K + 150) h 1154 [some (.ref 0), some (.ref 16), some (.ref 141), some (.ref 185), some (pw_i i), a5, a6, a7] [] Q := by
  have E : pm_ent 309 = some (1, 8, 13, 1, pmc_309) := rfl
  refine pwl_ld E (pc' := 1155) (st' := [.ref 16]) rfl (fun _ => rfl) ?_
  refine pwl_ld E (pc' := 1156) (st' := [.ref 0, .ref 16]) rfl (fun _ => rfl) ?_
  refine pwl_ld E (pc' := 1158) (st' := [pw_i i, .ref 0, .ref 16]) rfl (fun _ => rfl) ?_
  refine pwl_ld E (pc' := 1159) (st' := [pw_i 1, pw_i i, .ref 0, .ref 16]) rfl (fun _ => rfl) ?_
  refine pwl_add E (pc' := 1160) rfl rfl ?_
  refine pwl_sald E (pc' := 1161) rfl hX0 hl (by omega) (by omega) rfl ?_
  have hs1 := pw_s_r xs (i + 1)
  refine pwl_ld E (pc' := 1162) (st' := [.ref 0, pw_i (pw_s xs (i + 1)), .ref 16]) rfl (fun _ => rfl) ?_
  refine pwl_ld E (pc' := 1164) (st' := [pw_i i, .ref 0, pw_i (pw_s xs (i + 1)), .ref 16]) rfl (fun _ => rfl) ?_
  refine pwl_ld E (pc' := 1165) (st' := [pw_i 2, pw_i i, .ref 0, pw_i (pw_s xs (i + 1)), .ref 16]) rfl (fun _ => rfl) ?_
  refine pwl_add E (pc' := 1166) rfl rfl ?_
  refine pwl_sald E (pc' := 1167) rfl hX0 hl (by omega) (by omega) rfl ?_
  have hs2 := pw_s_r xs (i + 2)
  refine pwl_ld E (pc' := 1168) (st' := [.ref 0, pw_i (pw_s xs (i + 2)), pw_i (pw_s xs (i + 1)), .ref 16]) rfl (fun _ => rfl) ?_
  refine pwl_ld E (pc' := 1170) (st' := [pw_i i, .ref 0, pw_i (pw_s xs (i + 2)), pw_i (pw_s xs (i + 1)), .ref 16]) rfl (fun _ => rfl) ?_
  refine pwl_ld E (pc' := 1171) (st' := [pw_i 3, pw_i i, .ref 0, pw_i (pw_s xs (i + 2)), pw_i (pw_s xs (i + 1)), .ref 16]) rfl (fun _ => rfl) ?_
  refine pwl_add E (pc' := 1172) rfl rfl ?_
  refine pwl_sald E (pc' := 1173) rfl hX0 hl (by omega) (by omega) rfl ?_
  have hs3 := pw_s_r xs (i + 3)
  refine pwl_ld E (pc' := 1174) (st' := [.ref 0, pw_i (pw_s xs (i + 3)), pw_i (pw_s xs (i + 2)), pw_i (pw_s xs (i + 1)), .ref 16]) rfl (fun _ => rfl) ?_
  refine pwl_ld E (pc' := 1176) (st' := [pw_i i, .ref 0, pw_i (pw_s xs (i + 3)), pw_i (pw_s xs (i + 2)), pw_i (pw_s xs (i + 1)), .ref 16]) rfl (fun _ => rfl) ?_
  refine pwl_ld E (pc' := 1177) (st' := [pw_i 4, pw_i i, .ref 0, pw_i (pw_s xs (i + 3)), pw_i (pw_s xs (i + 2)), pw_i (pw_s xs (i + 1)), .ref 16]) rfl (fun _ => rfl) ?_
  refine pwl_add E (pc' := 1178) rfl rfl ?_
  refine pwl_sald E (pc' := 1179) rfl hX0 hl (by omega) (by omega) rfl ?_
  have hs4 := pw_s_r xs (i + 4)
  refine pwl_ld E (pc' := 1180) (st' := [.ref 185, pw_i (pw_s xs (i + 4)), pw_i (pw_s xs (i + 3)), pw_i (pw_s xs (i + 2)), pw_i (pw_s xs (i + 1)), .ref 16]) rfl (fun _ => rfl) ?_
  refine pwl_call (m' := 317) (As := [.ref 16, pw_i (pw_s xs (i + 1)), pw_i (pw_s xs (i + 2)), pw_i (pw_s xs (i + 3)), pw_i (pw_s xs (i + 4)), .ref 185]) (rest := []) (ls'' := [some (.ref 16), some (pw_i (pw_s xs (i + 1))), some (pw_i (pw_s xs (i + 2))), some (pw_i (pw_s xs (i + 3))), some (pw_i (pw_s xs (i + 4))), some (.ref 185), none]) E rfl (fun _ => pwl_iS rfl rfl rfl (pw_sc8 I s5 s6 s7) rfl) (rfl : pm_ent 317 = some (6, 7, 13, 0, pmc_317)) (by decide) rfl rfl (cm_317_x (by decide) I (pw_s xs (i + 1)) (by omega) (by omega) (pw_s xs (i + 2)) (by omega) (by omega) (pw_s xs (i + 3)) (by omega) (by omega) (pw_s xs (i + 4)) (by omega) (by omega)) ?_
  rintro h6 v5 ⟨h6I, h6E, x7, rfl, hx7a, hx7b, hx7r⟩
  refine ⟨_, rfl, ?_⟩
  have h6K := pw_KE I h6E hK rfl
  have h6L := h6E.1
  show pwl X _ h6 1183 [some (.ref 0), some (.ref 16), some (.ref 141), some (.ref 185), some (pw_i i), a5, a6, a7] [pw_i x7] _
  have hx7r : (x7 = 1 ∧ (¬ (0 ≤ (pw_s xs (i + 1)) ∧ (pw_s xs (i + 1)) ≤ 11 ∧ 0 ≤ (pw_s xs (i + 2)) ∧ (pw_s xs (i + 2)) ≤ 11 ∧ (pw_s xs (i + 1)) ≠ (pw_s xs (i + 2)) ∧ (-99) ≤ (pw_s xs (i + 3)) ∧ (pw_s xs (i + 3)) ≤ 99 ∧ 0 ≤ (pw_s xs (i + 4)) ∧ (pw_s xs (i + 4)) ≤ 1) ∨ ¬ pv_OK (pv_sdc h (pw_s xs (i + 1)) (pw_s xs (i + 2))))) ∨ (x7 = 0 ∧ ((0 ≤ (pw_s xs (i + 1)) ∧ (pw_s xs (i + 1)) ≤ 11 ∧ 0 ≤ (pw_s xs (i + 2)) ∧ (pw_s xs (i + 2)) ≤ 11 ∧ (pw_s xs (i + 1)) ≠ (pw_s xs (i + 2)) ∧ (-99) ≤ (pw_s xs (i + 3)) ∧ (pw_s xs (i + 3)) ≤ 99 ∧ 0 ≤ (pw_s xs (i + 4)) ∧ (pw_s xs (i + 4)) ≤ 1) ∧ pv_OK (pv_sdc h (pw_s xs (i + 1)) (pw_s xs (i + 2))) ∧ (pw_gm h6 169 0) = pv_LW (pv_U (pv_sdc h (pw_s xs (i + 1)) (pw_s xs (i + 2))) (pv_chc h (pw_s xs (i + 1)) (pw_s xs (i + 2))) - (pw_s xs (i + 3)) * ((pw_s xs (i + 2)) - (pw_s xs (i + 1))) * pv_D (pv_sdc h (pw_s xs (i + 1)) (pw_s xs (i + 2)))) (pv_D (pv_sdc h (pw_s xs (i + 1)) (pw_s xs (i + 2)))) (pw_s xs (i + 4)))) := hx7r
  have h6Tk : pw_PR 2 131 24 h6 := pw_PRE (c := 2) (c' := 131) rfl rfl I h6E hTk rfl
  have h6Ck : pw_PR 3 135 24 h6 := pw_PRE (c := 3) (c' := 135) rfl rfl I h6E hCk rfl
  have h6Bk : pw_PR 4 132 24 h6 := pw_PRE (c := 4) (c' := 132) rfl rfl I h6E hBk rfl
  have h6Wk : pw_PR 5 133 24 h6 := pw_PRE (c := 5) (c' := 133) rfl rfl I h6E hWk rfl
  have h6Mk : pw_PR 6 134 24 h6 := pw_PRE (c := 6) (c' := 134) rfl rfl I h6E hMk rfl
  have h6Fk : pw_PR 8 136 24 h6 := pw_PRE (c := 8) (c' := 136) rfl rfl I h6E hFk rfl
  have h6Rk : pw_PR 9 137 24 h6 := pw_PRE (c := 9) (c' := 137) rfl rfl I h6E hRk rfl
  have h6Hk : pw_PR 14 162 288 h6 := pw_PRE (c := 14) (c' := 162) rfl rfl I h6E hHk rfl
  have h6Gk : pw_PR 15 163 288 h6 := pw_PRE (c := 15) (c' := 163) rfl rfl I h6E hGk rfl
  have h6Tn := pw_TnE I h6E hTn rfl
  have h6Lc := pw_LcE I h6E hLc rfl
  have h6Ls := pw_ShsE I h6E hLs rfl
  have h6Rm := pw_RmE I h6E hRm rfl
  have h6Ro := pw_RoE I h6E hRo rfl
  refine pwl_ist E (pc' := 1185) (ls' := [some (.ref 0), some (.ref 16), some (.ref 141), some (.ref 185), some (pw_i i), some (pw_i x7), a6, a7]) rfl rfl rfl rfl ?_
  refine pwl_ld E (pc' := 1186) (st' := [.ref 141]) rfl (fun _ => rfl) ?_
  refine pwl_ld E (pc' := 1187) (st' := [.ref 0, .ref 141]) rfl (fun _ => rfl) ?_
  refine pwl_ld E (pc' := 1189) (st' := [pw_i i, .ref 0, .ref 141]) rfl (fun _ => rfl) ?_
  refine pwl_ld E (pc' := 1190) (st' := [pw_i 1, pw_i i, .ref 0, .ref 141]) rfl (fun _ => rfl) ?_
  refine pwl_add E (pc' := 1191) rfl rfl ?_
  refine pwl_sald E (pc' := 1192) rfl hX0 hl (by omega) (by omega) rfl ?_
  have hs8 := pw_s_r xs (i + 1)
  refine pwl_ld E (pc' := 1193) (st' := [.ref 0, pw_i (pw_s xs (i + 1)), .ref 141]) rfl (fun _ => rfl) ?_
  refine pwl_ld E (pc' := 1195) (st' := [pw_i i, .ref 0, pw_i (pw_s xs (i + 1)), .ref 141]) rfl (fun _ => rfl) ?_
  refine pwl_ld E (pc' := 1196) (st' := [pw_i 2, pw_i i, .ref 0, pw_i (pw_s xs (i + 1)), .ref 141]) rfl (fun _ => rfl) ?_
  refine pwl_add E (pc' := 1197) rfl rfl ?_
  refine pwl_sald E (pc' := 1198) rfl hX0 hl (by omega) (by omega) rfl ?_
  have hs9 := pw_s_r xs (i + 2)
  refine pwl_ld E (pc' := 1199) (st' := [.ref 0, pw_i (pw_s xs (i + 2)), pw_i (pw_s xs (i + 1)), .ref 141]) rfl (fun _ => rfl) ?_
  refine pwl_ld E (pc' := 1201) (st' := [pw_i i, .ref 0, pw_i (pw_s xs (i + 2)), pw_i (pw_s xs (i + 1)), .ref 141]) rfl (fun _ => rfl) ?_
  refine pwl_ld E (pc' := 1202) (st' := [pw_i 3, pw_i i, .ref 0, pw_i (pw_s xs (i + 2)), pw_i (pw_s xs (i + 1)), .ref 141]) rfl (fun _ => rfl) ?_
  refine pwl_add E (pc' := 1203) rfl rfl ?_
  refine pwl_sald E (pc' := 1204) rfl hX0 hl (by omega) (by omega) rfl ?_
  have hs10 := pw_s_r xs (i + 3)
  refine pwl_ld E (pc' := 1205) (st' := [.ref 0, pw_i (pw_s xs (i + 3)), pw_i (pw_s xs (i + 2)), pw_i (pw_s xs (i + 1)), .ref 141]) rfl (fun _ => rfl) ?_
  refine pwl_ld E (pc' := 1207) (st' := [pw_i i, .ref 0, pw_i (pw_s xs (i + 3)), pw_i (pw_s xs (i + 2)), pw_i (pw_s xs (i + 1)), .ref 141]) rfl (fun _ => rfl) ?_
  refine pwl_ld E (pc' := 1208) (st' := [pw_i 4, pw_i i, .ref 0, pw_i (pw_s xs (i + 3)), pw_i (pw_s xs (i + 2)), pw_i (pw_s xs (i + 1)), .ref 141]) rfl (fun _ => rfl) ?_
  refine pwl_add E (pc' := 1209) rfl rfl ?_
  refine pwl_sald E (pc' := 1210) rfl hX0 hl (by omega) (by omega) rfl ?_
  have hs11 := pw_s_r xs (i + 4)
  obtain ⟨f12l, f12h, -⟩ := pw_obj (c := 125) h6I rfl
  refine pwl_call (m' := 236) (As := [.ref 141, pw_i (pw_s xs (i + 1)), pw_i (pw_s xs (i + 2)), pw_i (pw_s xs (i + 3)), pw_i (pw_s xs (i + 4))]) (rest := []) (ls'' := [some (.ref 141), some (pw_i (pw_s xs (i + 1))), some (pw_i (pw_s xs (i + 2))), some (pw_i (pw_s xs (i + 3))), some (pw_i (pw_s xs (i + 4)))]) E rfl (fun _ => pwl_iV rfl rfl rfl (pw_cellI f12h rfl)) (rfl : pm_ent 236 = some (5, 5, 12, 2, pmc_236)) (by decide) rfl rfl (cm_236_s (by decide) h6I (pw_s xs (i + 1)) (by omega) (by omega) (pw_s xs (i + 2)) (by omega) (by omega) (pw_s xs (i + 3)) (by omega) (by omega) (pw_s xs (i + 4)) (by omega) (by omega)) ?_
  rintro h14 v13 ⟨h14I, h14E, x15, rfl, hx15a, hx15b, hx15r⟩
  refine ⟨_, rfl, ?_⟩
  have h14K := pw_KE h6I h14E h6K rfl
  have h14L := h14E.1
  show pwl X _ h14 1213 [some (.ref 0), some (.ref 16), some (.ref 141), some (.ref 185), some (pw_i i), some (pw_i x7), a6, a7] [.long (Int64.ofInt x15)] _
  have hx15r : (pw_g h14 125 0 = 1 ∧ (¬ (0 ≤ (pw_s xs (i + 1)) ∧ (pw_s xs (i + 1)) ≤ 11 ∧ 0 ≤ (pw_s xs (i + 2)) ∧ (pw_s xs (i + 2)) ≤ 11 ∧ (pw_s xs (i + 1)) ≠ (pw_s xs (i + 2)) ∧ (-99) ≤ (pw_s xs (i + 3)) ∧ (pw_s xs (i + 3)) ≤ 99 ∧ 0 ≤ (pw_s xs (i + 4)) ∧ (pw_s xs (i + 4)) ≤ 1) ∨ ¬ pv_OK (pv_sdm h6 (pw_s xs (i + 1)) (pw_s xs (i + 2))))) ∨ (pw_g h14 125 0 = 0 ∧ (0 ≤ (pw_s xs (i + 1)) ∧ (pw_s xs (i + 1)) ≤ 11 ∧ 0 ≤ (pw_s xs (i + 2)) ∧ (pw_s xs (i + 2)) ≤ 11 ∧ (pw_s xs (i + 1)) ≠ (pw_s xs (i + 2)) ∧ (-99) ≤ (pw_s xs (i + 3)) ∧ (pw_s xs (i + 3)) ≤ 99 ∧ 0 ≤ (pw_s xs (i + 4)) ∧ (pw_s xs (i + 4)) ≤ 1) ∧ pv_OK (pv_sdm h6 (pw_s xs (i + 1)) (pw_s xs (i + 2))) ∧ x15 = pv_LW (pv_U (pv_sdm h6 (pw_s xs (i + 1)) (pw_s xs (i + 2))) (pv_chm h6 (pw_s xs (i + 1)) (pw_s xs (i + 2))) - (pw_s xs (i + 3)) * ((pw_s xs (i + 2)) - (pw_s xs (i + 1))) * pv_D (pv_sdm h6 (pw_s xs (i + 1)) (pw_s xs (i + 2)))) (pv_D (pv_sdm h6 (pw_s xs (i + 1)) (pw_s xs (i + 2)))) (pw_s xs (i + 4))) := hx15r
  have h14Tk : pw_PR 2 131 24 h14 := pw_PRE (c := 2) (c' := 131) rfl rfl h6I h14E h6Tk rfl
  have h14Ck : pw_PR 3 135 24 h14 := pw_PRE (c := 3) (c' := 135) rfl rfl h6I h14E h6Ck rfl
  have h14Bk : pw_PR 4 132 24 h14 := pw_PRE (c := 4) (c' := 132) rfl rfl h6I h14E h6Bk rfl
  have h14Wk : pw_PR 5 133 24 h14 := pw_PRE (c := 5) (c' := 133) rfl rfl h6I h14E h6Wk rfl
  have h14Mk : pw_PR 6 134 24 h14 := pw_PRE (c := 6) (c' := 134) rfl rfl h6I h14E h6Mk rfl
  have h14Fk : pw_PR 8 136 24 h14 := pw_PRE (c := 8) (c' := 136) rfl rfl h6I h14E h6Fk rfl
  have h14Rk : pw_PR 9 137 24 h14 := pw_PRE (c := 9) (c' := 137) rfl rfl h6I h14E h6Rk rfl
  have h14Hk : pw_PR 14 162 288 h14 := pw_PRE (c := 14) (c' := 162) rfl rfl h6I h14E h6Hk rfl
  have h14Gk : pw_PR 15 163 288 h14 := pw_PRE (c := 15) (c' := 163) rfl rfl h6I h14E h6Gk rfl
  have h14Tn := pw_TnE h6I h14E h6Tn rfl
  have h14Lc := pw_LcE h6I h14E h6Lc rfl
  have h14Ls := pw_ShsE h6I h14E h6Ls rfl
  have h14Rm := pw_RmE h6I h14E h6Rm rfl
  have h14Ro := pw_RoE h6I h14E h6Ro rfl
  have hcc : x7 = pw_g h14 125 0 ∧ (x7 = 0 → pw_gm h6 169 0 = x15) := pv_aparts I h6E h6I h6Tk h6Bk h6Lc h6Tn hx7r hx15r rfl
  have hc1 := hcc.1
  have hc2 : x7 = 0 → pw_gl h14 169 0 = Int64.ofInt x15 := pv_out (pw_Egm (c := 169) h6I h14E rfl rfl 0) hcc.2
  refine pwl_lst E (pc' := 1215) (ls' := [some (.ref 0), some (.ref 16), some (.ref 141), some (.ref 185), some (pw_i i), some (pw_i x7), some (.long (Int64.ofInt x15)), none]) rfl rfl rfl rfl ?_
  refine pwl_ld E (pc' := 1216) (st' := [.ref 141]) rfl (fun _ => rfl) ?_
  obtain ⟨f16l, f16h, -⟩ := pw_obj (c := 125) h14I rfl
  refine pwl_call (m' := 197) (As := [.ref 141]) (rest := []) (ls'' := [some (.ref 141)]) E rfl (fun _ => pwl_iV rfl rfl rfl (pw_cellI f16h rfl)) (rfl : pm_ent 197 = some (1, 1, 12, 0, pmc_197)) (by decide) rfl rfl (cm_197 (by decide) h14I ) ?_
  rintro h18 v17 ⟨rfl, x19, rfl, hx19a, hx19b, hx19r⟩
  refine ⟨_, rfl, ?_⟩
  show pwl X _ h14 1219 [some (.ref 0), some (.ref 16), some (.ref 141), some (.ref 185), some (pw_i i), some (pw_i x7), some (.long (Int64.ofInt x15)), none] [pw_i x19] _
  have hx19r : x19 = pw_g h14 125 0 := hx19r
  refine pwl_ld E (pc' := 1221) (st' := [pw_i x7, pw_i x19]) rfl (fun _ => rfl) ?_
  refine pwl_if2 E (pc' := 1226) rfl (by decide) (by omega) (by omega) (by omega) (by omega) ?_ ?_
  · intro _
    refine pwl_ld E (pc' := 1228) (st' := [pw_i x7]) rfl (fun _ => rfl) ?_
    refine pwl_if E (pc' := 1242) rfl (by decide) (by omega) (by omega) ?_ ?_
    · intro hc20
      have hc20 : x7 ≠ (0 : Int) := hc20
      refine pwl_goto E (pc' := 2368) rfl (by decide) ?_
      exact pwl_mono (by omega) (hB h14 (some (pw_i x7)) (some (.long (Int64.ofInt x15))) (none) h14I h14K h14Tk h14Ck h14Bk h14Wk h14Mk h14Fk h14Rk h14Hk h14Gk h14Tn h14Lc h14Ls h14Rm h14Ro (by omega) (by omega) (fun _ => rfl) (fun _ => rfl) (fun _ => rfl))
    · intro hc21
      have hc21 : ¬ (x7 ≠ (0 : Int)) := hc21
      refine pwl_ld E (pc' := 1232) (st' := [.ref 185]) rfl (fun _ => rfl) ?_
      refine pwl_ld E (pc' := 1233) (st' := [pw_i 0, .ref 185]) rfl (fun _ => rfl) ?_
      refine pwl_lald h14I E (c := 169) (pc' := 1234) rfl rfl rfl (by decide) (by decide) (by decide) rfl ?_
      show pwl X _ h14 1234 [some (.ref 0), some (.ref 16), some (.ref 141), some (.ref 185), some (pw_i i), some (pw_i x7), some (.long (Int64.ofInt x15)), none] [.long (pw_gl h14 169 0)] _
      refine pwl_ld E (pc' := 1236) (st' := [.long (Int64.ofInt x15), .long (pw_gl h14 169 0)]) rfl (fun _ => rfl) ?_
      refine pwl_lcmp E (pc' := 1237) rfl rfl (fun cq22 hcq22 => ?_)
      have hcq220 : cq22 = 0 := pv_c0 hcq22 (hc2 (by omega))
      subst hcq220
      refine pwl_if E (pc' := 1242) rfl (by decide) (by omega) (by omega) ?_ ?_
      · intro hc23
        have hc23 : (0 : Int) = (0 : Int) := hc23
        refine pwl_goto E (pc' := 2368) rfl (by decide) ?_
        exact pwl_mono (by omega) (hB h14 (some (pw_i x7)) (some (.long (Int64.ofInt x15))) (none) h14I h14K h14Tk h14Ck h14Bk h14Wk h14Mk h14Fk h14Rk h14Hk h14Gk h14Tn h14Lc h14Ls h14Rm h14Ro (by omega) (by omega) (fun _ => rfl) (fun _ => rfl) (fun _ => rfl))
      · intro hc24
        have hc24 : ¬ ((0 : Int) = (0 : Int)) := hc24
        exfalso; omega
  · intro hc25
    have hc25 : ¬ (x19 = x7) := hc25
    exfalso; omega
set_option maxHeartbeats 4000000 in
theorem lc_18 {X : List (Nat × List Value)} {xs : List Int32} {K : Nat} {h : pm_H} {Q : pm_H → (Option Value ⊕ Unit) → Prop} (hX0 : X[0]? = some (0, xs.map Value.int)) (hl : xs.length ≤ 3584) (hX : pw_Xk X) (hR : pw_Xr X) (I : pw_I h) (hK : pw_K h) (hTk : pw_PR 2 131 24 h) (hCk : pw_PR 3 135 24 h) (hBk : pw_PR 4 132 24 h) (hWk : pw_PR 5 133 24 h) (hMk : pw_PR 6 134 24 h) (hFk : pw_PR 8 136 24 h) (hRk : pw_PR 9 137 24 h) (hHk : pw_PR 14 162 288 h) (hGk : pw_PR 15 163 288 h) (hTn : pw_Tn h) (hLc : pw_Lc h) (hLs : pw_Shs h) (hRm : pw_Rm h) (hRo : pw_Ro h) (i : Int) (hi0 : 0 ≤ i) (hi1 : i + 7 ≤ xs.length) (a5 a6 a7 : Option Value) (s5 : ∀ n, pm_scl n a5 = true) (s6 : ∀ n, pm_scl n a6 = true) (s7 : ∀ n, pm_scl n a7 = true) (hB : ∀ (h' : pm_H) (b5 b6 b7 : Option Value), pw_I h' → pw_K h' → pw_PR 2 131 24 h' → pw_PR 3 135 24 h' → pw_PR 4 132 24 h' → pw_PR 5 133 24 h' → pw_PR 6 134 24 h' → pw_PR 8 136 24 h' → pw_PR 9 137 24 h' → pw_PR 14 162 288 h' → pw_PR 15 163 288 h' → pw_Tn h' → pw_Lc h' → pw_Shs h' → pw_Rm h' → pw_Ro h' → h'.length ≤ h.length + 1 → pm_slt h' ≤ pm_slt h + 1000 → (∀ n, pm_scl n b5 = true) → (∀ n, pm_scl n b6 = true) → (∀ n, pm_scl n b7 = true) → pwl X K h' 2368 [some (.ref 0), some (.ref 16), some (.ref 141), some (.ref 185), some (pw_i i), b5, b6, b7] [] Q) : pwl X (K + 150) h 1245 [some (.ref 0), some (.ref 16), some (.ref 141), some (.ref 185), some (pw_i i), a5, a6, a7] [] Q := by
  have E : pm_ent 309 = some (1, 8, 13, 1, pmc_309) := rfl
  refine pwl_ld E (pc' := 1246) (st' := [.ref 16]) rfl (fun _ => rfl) ?_
  refine pwl_ld E (pc' := 1247) (st' := [.ref 0, .ref 16]) rfl (fun _ => rfl) ?_
  refine pwl_ld E (pc' := 1249) (st' := [pw_i i, .ref 0, .ref 16]) rfl (fun _ => rfl) ?_
  refine pwl_ld E (pc' := 1250) (st' := [pw_i 1, pw_i i, .ref 0, .ref 16]) rfl (fun _ => rfl) ?_
  refine pwl_add E (pc' := 1251) rfl rfl ?_
  refine pwl_sald E (pc' := 1252) rfl hX0 hl (by omega) (by omega) rfl ?_
  have hs1 := pw_s_r xs (i + 1)
  refine pwl_ld E (pc' := 1253) (st' := [.long ((Int32.ofInt (pw_s xs (i + 1))).toInt64), .ref 16]) rfl (fun _ => rfl) ?_
  refine pwl_bip E (pc' := 1255) rfl rfl (by decide) ?_
  refine pwl_ld E (pc' := 1256) (st' := [.long (((Int32.ofInt (pw_s xs (i + 1))).toInt64) <<< ((Int32.ofInt 32).toInt64 &&& 63)), .ref 16]) rfl (fun _ => rfl) ?_
  refine pwl_ld E (pc' := 1257) (st' := [.ref 0, .long (((Int32.ofInt (pw_s xs (i + 1))).toInt64) <<< ((Int32.ofInt 32).toInt64 &&& 63)), .ref 16]) rfl (fun _ => rfl) ?_
  refine pwl_ld E (pc' := 1259) (st' := [pw_i i, .ref 0, .long (((Int32.ofInt (pw_s xs (i + 1))).toInt64) <<< ((Int32.ofInt 32).toInt64 &&& 63)), .ref 16]) rfl (fun _ => rfl) ?_
  refine pwl_ld E (pc' := 1260) (st' := [pw_i 2, pw_i i, .ref 0, .long (((Int32.ofInt (pw_s xs (i + 1))).toInt64) <<< ((Int32.ofInt 32).toInt64 &&& 63)), .ref 16]) rfl (fun _ => rfl) ?_
  refine pwl_add E (pc' := 1261) rfl rfl ?_
  refine pwl_sald E (pc' := 1262) rfl hX0 hl (by omega) (by omega) rfl ?_
  have hs2 := pw_s_r xs (i + 2)
  refine pwl_ld E (pc' := 1263) (st' := [.long ((Int32.ofInt (pw_s xs (i + 2))).toInt64), .long (((Int32.ofInt (pw_s xs (i + 1))).toInt64) <<< ((Int32.ofInt 32).toInt64 &&& 63)), .ref 16]) rfl (fun _ => rfl) ?_
  refine pwl_ld E (pc' := 1266) (st' := [.long (Int64.ofNat 4294967295), .long ((Int32.ofInt (pw_s xs (i + 2))).toInt64), .long (((Int32.ofInt (pw_s xs (i + 1))).toInt64) <<< ((Int32.ofInt 32).toInt64 &&& 63)), .ref 16]) rfl (fun _ => rfl) ?_
  refine pwl_ld E (pc' := 1267) (st' := [.long (((Int32.ofInt (pw_s xs (i + 2))).toInt64) &&& (Int64.ofNat 4294967295)), .long (((Int32.ofInt (pw_s xs (i + 1))).toInt64) <<< ((Int32.ofInt 32).toInt64 &&& 63)), .ref 16]) rfl (fun _ => rfl) ?_
  refine pwl_ld E (pc' := 1268) (st' := [.long ((((Int32.ofInt (pw_s xs (i + 1))).toInt64) <<< ((Int32.ofInt 32).toInt64 &&& 63)) ||| (((Int32.ofInt (pw_s xs (i + 2))).toInt64) &&& (Int64.ofNat 4294967295))), .ref 16]) rfl (fun _ => rfl) ?_
  refine pwl_ld E (pc' := 1269) (st' := [.ref 0, .long ((((Int32.ofInt (pw_s xs (i + 1))).toInt64) <<< ((Int32.ofInt 32).toInt64 &&& 63)) ||| (((Int32.ofInt (pw_s xs (i + 2))).toInt64) &&& (Int64.ofNat 4294967295))), .ref 16]) rfl (fun _ => rfl) ?_
  refine pwl_ld E (pc' := 1271) (st' := [pw_i i, .ref 0, .long ((((Int32.ofInt (pw_s xs (i + 1))).toInt64) <<< ((Int32.ofInt 32).toInt64 &&& 63)) ||| (((Int32.ofInt (pw_s xs (i + 2))).toInt64) &&& (Int64.ofNat 4294967295))), .ref 16]) rfl (fun _ => rfl) ?_
  refine pwl_ld E (pc' := 1272) (st' := [pw_i 3, pw_i i, .ref 0, .long ((((Int32.ofInt (pw_s xs (i + 1))).toInt64) <<< ((Int32.ofInt 32).toInt64 &&& 63)) ||| (((Int32.ofInt (pw_s xs (i + 2))).toInt64) &&& (Int64.ofNat 4294967295))), .ref 16]) rfl (fun _ => rfl) ?_
  refine pwl_add E (pc' := 1273) rfl rfl ?_
  refine pwl_sald E (pc' := 1274) rfl hX0 hl (by omega) (by omega) rfl ?_
  have hs3 := pw_s_r xs (i + 3)
  refine pwl_ld E (pc' := 1275) (st' := [.long ((Int32.ofInt (pw_s xs (i + 3))).toInt64), .long ((((Int32.ofInt (pw_s xs (i + 1))).toInt64) <<< ((Int32.ofInt 32).toInt64 &&& 63)) ||| (((Int32.ofInt (pw_s xs (i + 2))).toInt64) &&& (Int64.ofNat 4294967295))), .ref 16]) rfl (fun _ => rfl) ?_
  refine pwl_bip E (pc' := 1277) rfl rfl (by decide) ?_
  refine pwl_ld E (pc' := 1278) (st' := [.long (((Int32.ofInt (pw_s xs (i + 3))).toInt64) <<< ((Int32.ofInt 32).toInt64 &&& 63)), .long ((((Int32.ofInt (pw_s xs (i + 1))).toInt64) <<< ((Int32.ofInt 32).toInt64 &&& 63)) ||| (((Int32.ofInt (pw_s xs (i + 2))).toInt64) &&& (Int64.ofNat 4294967295))), .ref 16]) rfl (fun _ => rfl) ?_
  refine pwl_ld E (pc' := 1279) (st' := [.ref 0, .long (((Int32.ofInt (pw_s xs (i + 3))).toInt64) <<< ((Int32.ofInt 32).toInt64 &&& 63)), .long ((((Int32.ofInt (pw_s xs (i + 1))).toInt64) <<< ((Int32.ofInt 32).toInt64 &&& 63)) ||| (((Int32.ofInt (pw_s xs (i + 2))).toInt64) &&& (Int64.ofNat 4294967295))), .ref 16]) rfl (fun _ => rfl) ?_
  refine pwl_ld E (pc' := 1281) (st' := [pw_i i, .ref 0, .long (((Int32.ofInt (pw_s xs (i + 3))).toInt64) <<< ((Int32.ofInt 32).toInt64 &&& 63)), .long ((((Int32.ofInt (pw_s xs (i + 1))).toInt64) <<< ((Int32.ofInt 32).toInt64 &&& 63)) ||| (((Int32.ofInt (pw_s xs (i + 2))).toInt64) &&& (Int64.ofNat 4294967295))), .ref 16]) rfl (fun _ => rfl) ?_
  refine pwl_ld E (pc' := 1282) (st' := [pw_i 4, pw_i i, .ref 0, .long (((Int32.ofInt (pw_s xs (i + 3))).toInt64) <<< ((Int32.ofInt 32).toInt64 &&& 63)), .long ((((Int32.ofInt (pw_s xs (i + 1))).toInt64) <<< ((Int32.ofInt 32).toInt64 &&& 63)) ||| (((Int32.ofInt (pw_s xs (i + 2))).toInt64) &&& (Int64.ofNat 4294967295))), .ref 16]) rfl (fun _ => rfl) ?_
  refine pwl_add E (pc' := 1283) rfl rfl ?_
  refine pwl_sald E (pc' := 1284) rfl hX0 hl (by omega) (by omega) rfl ?_
  have hs4 := pw_s_r xs (i + 4)
  refine pwl_ld E (pc' := 1285) (st' := [.long ((Int32.ofInt (pw_s xs (i + 4))).toInt64), .long (((Int32.ofInt (pw_s xs (i + 3))).toInt64) <<< ((Int32.ofInt 32).toInt64 &&& 63)), .long ((((Int32.ofInt (pw_s xs (i + 1))).toInt64) <<< ((Int32.ofInt 32).toInt64 &&& 63)) ||| (((Int32.ofInt (pw_s xs (i + 2))).toInt64) &&& (Int64.ofNat 4294967295))), .ref 16]) rfl (fun _ => rfl) ?_
  refine pwl_ld E (pc' := 1288) (st' := [.long (Int64.ofNat 4294967295), .long ((Int32.ofInt (pw_s xs (i + 4))).toInt64), .long (((Int32.ofInt (pw_s xs (i + 3))).toInt64) <<< ((Int32.ofInt 32).toInt64 &&& 63)), .long ((((Int32.ofInt (pw_s xs (i + 1))).toInt64) <<< ((Int32.ofInt 32).toInt64 &&& 63)) ||| (((Int32.ofInt (pw_s xs (i + 2))).toInt64) &&& (Int64.ofNat 4294967295))), .ref 16]) rfl (fun _ => rfl) ?_
  refine pwl_ld E (pc' := 1289) (st' := [.long (((Int32.ofInt (pw_s xs (i + 4))).toInt64) &&& (Int64.ofNat 4294967295)), .long (((Int32.ofInt (pw_s xs (i + 3))).toInt64) <<< ((Int32.ofInt 32).toInt64 &&& 63)), .long ((((Int32.ofInt (pw_s xs (i + 1))).toInt64) <<< ((Int32.ofInt 32).toInt64 &&& 63)) ||| (((Int32.ofInt (pw_s xs (i + 2))).toInt64) &&& (Int64.ofNat 4294967295))), .ref 16]) rfl (fun _ => rfl) ?_
  refine pwl_ld E (pc' := 1290) (st' := [.long ((((Int32.ofInt (pw_s xs (i + 3))).toInt64) <<< ((Int32.ofInt 32).toInt64 &&& 63)) ||| (((Int32.ofInt (pw_s xs (i + 4))).toInt64) &&& (Int64.ofNat 4294967295))), .long ((((Int32.ofInt (pw_s xs (i + 1))).toInt64) <<< ((Int32.ofInt 32).toInt64 &&& 63)) ||| (((Int32.ofInt (pw_s xs (i + 2))).toInt64) &&& (Int64.ofNat 4294967295))), .ref 16]) rfl (fun _ => rfl) ?_
  refine pwl_ld E (pc' := 1291) (st' := [.ref 0, .long ((((Int32.ofInt (pw_s xs (i + 3))).toInt64) <<< ((Int32.ofInt 32).toInt64 &&& 63)) ||| (((Int32.ofInt (pw_s xs (i + 4))).toInt64) &&& (Int64.ofNat 4294967295))), .long ((((Int32.ofInt (pw_s xs (i + 1))).toInt64) <<< ((Int32.ofInt 32).toInt64 &&& 63)) ||| (((Int32.ofInt (pw_s xs (i + 2))).toInt64) &&& (Int64.ofNat 4294967295))), .ref 16]) rfl (fun _ => rfl) ?_
  refine pwl_ld E (pc' := 1293) (st' := [pw_i i, .ref 0, .long ((((Int32.ofInt (pw_s xs (i + 3))).toInt64) <<< ((Int32.ofInt 32).toInt64 &&& 63)) ||| (((Int32.ofInt (pw_s xs (i + 4))).toInt64) &&& (Int64.ofNat 4294967295))), .long ((((Int32.ofInt (pw_s xs (i + 1))).toInt64) <<< ((Int32.ofInt 32).toInt64 &&& 63)) ||| (((Int32.ofInt (pw_s xs (i + 2))).toInt64) &&& (Int64.ofNat 4294967295))), .ref 16]) rfl (fun _ => rfl) ?_
  refine pwl_ld E (pc' := 1294) (st' := [pw_i 5, pw_i i, .ref 0, .long ((((Int32.ofInt (pw_s xs (i + 3))).toInt64) <<< ((Int32.ofInt 32).toInt64 &&& 63)) ||| (((Int32.ofInt (pw_s xs (i + 4))).toInt64) &&& (Int64.ofNat 4294967295))), .long ((((Int32.ofInt (pw_s xs (i + 1))).toInt64) <<< ((Int32.ofInt 32).toInt64 &&& 63)) ||| (((Int32.ofInt (pw_s xs (i + 2))).toInt64) &&& (Int64.ofNat 4294967295))), .ref 16]) rfl (fun _ => rfl) ?_
  refine pwl_add E (pc' := 1295) rfl rfl ?_
  refine pwl_sald E (pc' := 1296) rfl hX0 hl (by omega) (by omega) rfl ?_
  have hs5 := pw_s_r xs (i + 5)
  refine pwl_ld E (pc' := 1297) (st' := [.long ((Int32.ofInt (pw_s xs (i + 5))).toInt64), .long ((((Int32.ofInt (pw_s xs (i + 3))).toInt64) <<< ((Int32.ofInt 32).toInt64 &&& 63)) ||| (((Int32.ofInt (pw_s xs (i + 4))).toInt64) &&& (Int64.ofNat 4294967295))), .long ((((Int32.ofInt (pw_s xs (i + 1))).toInt64) <<< ((Int32.ofInt 32).toInt64 &&& 63)) ||| (((Int32.ofInt (pw_s xs (i + 2))).toInt64) &&& (Int64.ofNat 4294967295))), .ref 16]) rfl (fun _ => rfl) ?_
  refine pwl_bip E (pc' := 1299) rfl rfl (by decide) ?_
  refine pwl_ld E (pc' := 1300) (st' := [.long (((Int32.ofInt (pw_s xs (i + 5))).toInt64) <<< ((Int32.ofInt 32).toInt64 &&& 63)), .long ((((Int32.ofInt (pw_s xs (i + 3))).toInt64) <<< ((Int32.ofInt 32).toInt64 &&& 63)) ||| (((Int32.ofInt (pw_s xs (i + 4))).toInt64) &&& (Int64.ofNat 4294967295))), .long ((((Int32.ofInt (pw_s xs (i + 1))).toInt64) <<< ((Int32.ofInt 32).toInt64 &&& 63)) ||| (((Int32.ofInt (pw_s xs (i + 2))).toInt64) &&& (Int64.ofNat 4294967295))), .ref 16]) rfl (fun _ => rfl) ?_
  refine pwl_ld E (pc' := 1301) (st' := [.ref 0, .long (((Int32.ofInt (pw_s xs (i + 5))).toInt64) <<< ((Int32.ofInt 32).toInt64 &&& 63)), .long ((((Int32.ofInt (pw_s xs (i + 3))).toInt64) <<< ((Int32.ofInt 32).toInt64 &&& 63)) ||| (((Int32.ofInt (pw_s xs (i + 4))).toInt64) &&& (Int64.ofNat 4294967295))), .long ((((Int32.ofInt (pw_s xs (i + 1))).toInt64) <<< ((Int32.ofInt 32).toInt64 &&& 63)) ||| (((Int32.ofInt (pw_s xs (i + 2))).toInt64) &&& (Int64.ofNat 4294967295))), .ref 16]) rfl (fun _ => rfl) ?_
  refine pwl_ld E (pc' := 1303) (st' := [pw_i i, .ref 0, .long (((Int32.ofInt (pw_s xs (i + 5))).toInt64) <<< ((Int32.ofInt 32).toInt64 &&& 63)), .long ((((Int32.ofInt (pw_s xs (i + 3))).toInt64) <<< ((Int32.ofInt 32).toInt64 &&& 63)) ||| (((Int32.ofInt (pw_s xs (i + 4))).toInt64) &&& (Int64.ofNat 4294967295))), .long ((((Int32.ofInt (pw_s xs (i + 1))).toInt64) <<< ((Int32.ofInt 32).toInt64 &&& 63)) ||| (((Int32.ofInt (pw_s xs (i + 2))).toInt64) &&& (Int64.ofNat 4294967295))), .ref 16]) rfl (fun _ => rfl) ?_
  refine pwl_bip E (pc' := 1305) rfl rfl (by decide) ?_
  refine pwl_add E (pc' := 1306) rfl rfl ?_
  refine pwl_sald E (pc' := 1307) rfl hX0 hl (by omega) (by omega) rfl ?_
  have hs6 := pw_s_r xs (i + 6)
  refine pwl_ld E (pc' := 1308) (st' := [.long ((Int32.ofInt (pw_s xs (i + 6))).toInt64), .long (((Int32.ofInt (pw_s xs (i + 5))).toInt64) <<< ((Int32.ofInt 32).toInt64 &&& 63)), .long ((((Int32.ofInt (pw_s xs (i + 3))).toInt64) <<< ((Int32.ofInt 32).toInt64 &&& 63)) ||| (((Int32.ofInt (pw_s xs (i + 4))).toInt64) &&& (Int64.ofNat 4294967295))), .long ((((Int32.ofInt (pw_s xs (i + 1))).toInt64) <<< ((Int32.ofInt 32).toInt64 &&& 63)) ||| (((Int32.ofInt (pw_s xs (i + 2))).toInt64) &&& (Int64.ofNat 4294967295))), .ref 16]) rfl (fun _ => rfl) ?_
  refine pwl_ld E (pc' := 1311) (st' := [.long (Int64.ofNat 4294967295), .long ((Int32.ofInt (pw_s xs (i + 6))).toInt64), .long (((Int32.ofInt (pw_s xs (i + 5))).toInt64) <<< ((Int32.ofInt 32).toInt64 &&& 63)), .long ((((Int32.ofInt (pw_s xs (i + 3))).toInt64) <<< ((Int32.ofInt 32).toInt64 &&& 63)) ||| (((Int32.ofInt (pw_s xs (i + 4))).toInt64) &&& (Int64.ofNat 4294967295))), .long ((((Int32.ofInt (pw_s xs (i + 1))).toInt64) <<< ((Int32.ofInt 32).toInt64 &&& 63)) ||| (((Int32.ofInt (pw_s xs (i + 2))).toInt64) &&& (Int64.ofNat 4294967295))), .ref 16]) rfl (fun _ => rfl) ?_
  refine pwl_ld E (pc' := 1312) (st' := [.long (((Int32.ofInt (pw_s xs (i + 6))).toInt64) &&& (Int64.ofNat 4294967295)), .long (((Int32.ofInt (pw_s xs (i + 5))).toInt64) <<< ((Int32.ofInt 32).toInt64 &&& 63)), .long ((((Int32.ofInt (pw_s xs (i + 3))).toInt64) <<< ((Int32.ofInt 32).toInt64 &&& 63)) ||| (((Int32.ofInt (pw_s xs (i + 4))).toInt64) &&& (Int64.ofNat 4294967295))), .long ((((Int32.ofInt (pw_s xs (i + 1))).toInt64) <<< ((Int32.ofInt 32).toInt64 &&& 63)) ||| (((Int32.ofInt (pw_s xs (i + 2))).toInt64) &&& (Int64.ofNat 4294967295))), .ref 16]) rfl (fun _ => rfl) ?_
  refine pwl_ld E (pc' := 1313) (st' := [.long ((((Int32.ofInt (pw_s xs (i + 5))).toInt64) <<< ((Int32.ofInt 32).toInt64 &&& 63)) ||| (((Int32.ofInt (pw_s xs (i + 6))).toInt64) &&& (Int64.ofNat 4294967295))), .long ((((Int32.ofInt (pw_s xs (i + 3))).toInt64) <<< ((Int32.ofInt 32).toInt64 &&& 63)) ||| (((Int32.ofInt (pw_s xs (i + 4))).toInt64) &&& (Int64.ofNat 4294967295))), .long ((((Int32.ofInt (pw_s xs (i + 1))).toInt64) <<< ((Int32.ofInt 32).toInt64 &&& 63)) ||| (((Int32.ofInt (pw_s xs (i + 2))).toInt64) &&& (Int64.ofNat 4294967295))), .ref 16]) rfl (fun _ => rfl) ?_
  obtain ⟨f7l, f7h, -⟩ := pw_obj (c := 0) I rfl
  refine pwl_call (m' := 140) (As := [.ref 16, .long ((((Int32.ofInt (pw_s xs (i + 1))).toInt64) <<< ((Int32.ofInt 32).toInt64 &&& 63)) ||| (((Int32.ofInt (pw_s xs (i + 2))).toInt64) &&& (Int64.ofNat 4294967295))), .long ((((Int32.ofInt (pw_s xs (i + 3))).toInt64) <<< ((Int32.ofInt 32).toInt64 &&& 63)) ||| (((Int32.ofInt (pw_s xs (i + 4))).toInt64) &&& (Int64.ofNat 4294967295))), .long ((((Int32.ofInt (pw_s xs (i + 5))).toInt64) <<< ((Int32.ofInt 32).toInt64 &&& 63)) ||| (((Int32.ofInt (pw_s xs (i + 6))).toInt64) &&& (Int64.ofNat 4294967295)))]) (rest := []) (ls'' := [some (.ref 16), some (.long ((((Int32.ofInt (pw_s xs (i + 1))).toInt64) <<< ((Int32.ofInt 32).toInt64 &&& 63)) ||| (((Int32.ofInt (pw_s xs (i + 2))).toInt64) &&& (Int64.ofNat 4294967295)))), none, some (.long ((((Int32.ofInt (pw_s xs (i + 3))).toInt64) <<< ((Int32.ofInt 32).toInt64 &&& 63)) ||| (((Int32.ofInt (pw_s xs (i + 4))).toInt64) &&& (Int64.ofNat 4294967295)))), none, some (.long ((((Int32.ofInt (pw_s xs (i + 5))).toInt64) <<< ((Int32.ofInt 32).toInt64 &&& 63)) ||| (((Int32.ofInt (pw_s xs (i + 6))).toInt64) &&& (Int64.ofNat 4294967295)))), none]) E rfl (fun _ => pwl_iV rfl rfl rfl (pw_cellI f7h rfl)) (rfl : pm_ent 140 = some (4, 7, 11, 0, pmc_140)) (by decide) rfl rfl (cm_140 (by decide) I ((((Int32.ofInt (pw_s xs (i + 1))).toInt64) <<< ((Int32.ofInt 32).toInt64 &&& 63)) ||| (((Int32.ofInt (pw_s xs (i + 2))).toInt64) &&& (Int64.ofNat 4294967295))) ((((Int32.ofInt (pw_s xs (i + 3))).toInt64) <<< ((Int32.ofInt 32).toInt64 &&& 63)) ||| (((Int32.ofInt (pw_s xs (i + 4))).toInt64) &&& (Int64.ofNat 4294967295))) ((((Int32.ofInt (pw_s xs (i + 5))).toInt64) <<< ((Int32.ofInt 32).toInt64 &&& 63)) ||| (((Int32.ofInt (pw_s xs (i + 6))).toInt64) &&& (Int64.ofNat 4294967295)))) ?_
  rintro h9 v8 ⟨h9I, h9E, x10, rfl, hx10a, hx10b⟩
  refine ⟨_, rfl, ?_⟩
  have h9K := pw_KE I h9E hK rfl
  have h9L := h9E.1
  show pwl X _ h9 1316 [some (.ref 0), some (.ref 16), some (.ref 141), some (.ref 185), some (pw_i i), a5, a6, a7] [pw_i x10] _
  have h9Tk : pw_PR 2 131 24 h9 := pw_PRE (c := 2) (c' := 131) rfl rfl I h9E hTk rfl
  have h9Ck : pw_PR 3 135 24 h9 := pw_PRE (c := 3) (c' := 135) rfl rfl I h9E hCk rfl
  have h9Bk : pw_PR 4 132 24 h9 := pw_PRE (c := 4) (c' := 132) rfl rfl I h9E hBk rfl
  have h9Wk : pw_PR 5 133 24 h9 := pw_PRE (c := 5) (c' := 133) rfl rfl I h9E hWk rfl
  have h9Mk : pw_PR 6 134 24 h9 := pw_PRE (c := 6) (c' := 134) rfl rfl I h9E hMk rfl
  have h9Fk : pw_PR 8 136 24 h9 := pw_PRE (c := 8) (c' := 136) rfl rfl I h9E hFk rfl
  have h9Rk : pw_PR 9 137 24 h9 := pw_PRE (c := 9) (c' := 137) rfl rfl I h9E hRk rfl
  have h9Hk : pw_PR 14 162 288 h9 := pw_PRE (c := 14) (c' := 162) rfl rfl I h9E hHk rfl
  have h9Gk : pw_PR 15 163 288 h9 := pw_PRE (c := 15) (c' := 163) rfl rfl I h9E hGk rfl
  have h9Tn := pw_TnE I h9E hTn rfl
  have h9Lc := pw_LcE I h9E hLc rfl
  have h9Ls := pw_ShsE I h9E hLs rfl
  have h9Rm := pw_RmE I h9E hRm rfl
  have h9Ro := pw_RoE I h9E hRo rfl
  refine pwl_ld E (pc' := 1317) (st' := []) rfl (fun _ => rfl) ?_
  refine pwl_ld E (pc' := 1318) (st' := [.ref 141]) rfl (fun _ => rfl) ?_
  refine pwl_ld E (pc' := 1319) (st' := [.ref 0, .ref 141]) rfl (fun _ => rfl) ?_
  refine pwl_ld E (pc' := 1321) (st' := [pw_i i, .ref 0, .ref 141]) rfl (fun _ => rfl) ?_
  refine pwl_ld E (pc' := 1322) (st' := [pw_i 1, pw_i i, .ref 0, .ref 141]) rfl (fun _ => rfl) ?_
  refine pwl_add E (pc' := 1323) rfl rfl ?_
  refine pwl_sald E (pc' := 1324) rfl hX0 hl (by omega) (by omega) rfl ?_
  have hs11 := pw_s_r xs (i + 1)
  refine pwl_ld E (pc' := 1325) (st' := [.long ((Int32.ofInt (pw_s xs (i + 1))).toInt64), .ref 141]) rfl (fun _ => rfl) ?_
  refine pwl_bip E (pc' := 1327) rfl rfl (by decide) ?_
  refine pwl_ld E (pc' := 1328) (st' := [.long (((Int32.ofInt (pw_s xs (i + 1))).toInt64) <<< ((Int32.ofInt 32).toInt64 &&& 63)), .ref 141]) rfl (fun _ => rfl) ?_
  refine pwl_ld E (pc' := 1329) (st' := [.ref 0, .long (((Int32.ofInt (pw_s xs (i + 1))).toInt64) <<< ((Int32.ofInt 32).toInt64 &&& 63)), .ref 141]) rfl (fun _ => rfl) ?_
  refine pwl_ld E (pc' := 1331) (st' := [pw_i i, .ref 0, .long (((Int32.ofInt (pw_s xs (i + 1))).toInt64) <<< ((Int32.ofInt 32).toInt64 &&& 63)), .ref 141]) rfl (fun _ => rfl) ?_
  refine pwl_ld E (pc' := 1332) (st' := [pw_i 2, pw_i i, .ref 0, .long (((Int32.ofInt (pw_s xs (i + 1))).toInt64) <<< ((Int32.ofInt 32).toInt64 &&& 63)), .ref 141]) rfl (fun _ => rfl) ?_
  refine pwl_add E (pc' := 1333) rfl rfl ?_
  refine pwl_sald E (pc' := 1334) rfl hX0 hl (by omega) (by omega) rfl ?_
  have hs12 := pw_s_r xs (i + 2)
  refine pwl_ld E (pc' := 1335) (st' := [.long ((Int32.ofInt (pw_s xs (i + 2))).toInt64), .long (((Int32.ofInt (pw_s xs (i + 1))).toInt64) <<< ((Int32.ofInt 32).toInt64 &&& 63)), .ref 141]) rfl (fun _ => rfl) ?_
  refine pwl_ld E (pc' := 1338) (st' := [.long (Int64.ofNat 4294967295), .long ((Int32.ofInt (pw_s xs (i + 2))).toInt64), .long (((Int32.ofInt (pw_s xs (i + 1))).toInt64) <<< ((Int32.ofInt 32).toInt64 &&& 63)), .ref 141]) rfl (fun _ => rfl) ?_
  refine pwl_ld E (pc' := 1339) (st' := [.long (((Int32.ofInt (pw_s xs (i + 2))).toInt64) &&& (Int64.ofNat 4294967295)), .long (((Int32.ofInt (pw_s xs (i + 1))).toInt64) <<< ((Int32.ofInt 32).toInt64 &&& 63)), .ref 141]) rfl (fun _ => rfl) ?_
  refine pwl_ld E (pc' := 1340) (st' := [.long ((((Int32.ofInt (pw_s xs (i + 1))).toInt64) <<< ((Int32.ofInt 32).toInt64 &&& 63)) ||| (((Int32.ofInt (pw_s xs (i + 2))).toInt64) &&& (Int64.ofNat 4294967295))), .ref 141]) rfl (fun _ => rfl) ?_
  refine pwl_ld E (pc' := 1341) (st' := [.ref 0, .long ((((Int32.ofInt (pw_s xs (i + 1))).toInt64) <<< ((Int32.ofInt 32).toInt64 &&& 63)) ||| (((Int32.ofInt (pw_s xs (i + 2))).toInt64) &&& (Int64.ofNat 4294967295))), .ref 141]) rfl (fun _ => rfl) ?_
  refine pwl_ld E (pc' := 1343) (st' := [pw_i i, .ref 0, .long ((((Int32.ofInt (pw_s xs (i + 1))).toInt64) <<< ((Int32.ofInt 32).toInt64 &&& 63)) ||| (((Int32.ofInt (pw_s xs (i + 2))).toInt64) &&& (Int64.ofNat 4294967295))), .ref 141]) rfl (fun _ => rfl) ?_
  refine pwl_ld E (pc' := 1344) (st' := [pw_i 3, pw_i i, .ref 0, .long ((((Int32.ofInt (pw_s xs (i + 1))).toInt64) <<< ((Int32.ofInt 32).toInt64 &&& 63)) ||| (((Int32.ofInt (pw_s xs (i + 2))).toInt64) &&& (Int64.ofNat 4294967295))), .ref 141]) rfl (fun _ => rfl) ?_
  refine pwl_add E (pc' := 1345) rfl rfl ?_
  refine pwl_sald E (pc' := 1346) rfl hX0 hl (by omega) (by omega) rfl ?_
  have hs13 := pw_s_r xs (i + 3)
  refine pwl_ld E (pc' := 1347) (st' := [.long ((Int32.ofInt (pw_s xs (i + 3))).toInt64), .long ((((Int32.ofInt (pw_s xs (i + 1))).toInt64) <<< ((Int32.ofInt 32).toInt64 &&& 63)) ||| (((Int32.ofInt (pw_s xs (i + 2))).toInt64) &&& (Int64.ofNat 4294967295))), .ref 141]) rfl (fun _ => rfl) ?_
  refine pwl_bip E (pc' := 1349) rfl rfl (by decide) ?_
  refine pwl_ld E (pc' := 1350) (st' := [.long (((Int32.ofInt (pw_s xs (i + 3))).toInt64) <<< ((Int32.ofInt 32).toInt64 &&& 63)), .long ((((Int32.ofInt (pw_s xs (i + 1))).toInt64) <<< ((Int32.ofInt 32).toInt64 &&& 63)) ||| (((Int32.ofInt (pw_s xs (i + 2))).toInt64) &&& (Int64.ofNat 4294967295))), .ref 141]) rfl (fun _ => rfl) ?_
  refine pwl_ld E (pc' := 1351) (st' := [.ref 0, .long (((Int32.ofInt (pw_s xs (i + 3))).toInt64) <<< ((Int32.ofInt 32).toInt64 &&& 63)), .long ((((Int32.ofInt (pw_s xs (i + 1))).toInt64) <<< ((Int32.ofInt 32).toInt64 &&& 63)) ||| (((Int32.ofInt (pw_s xs (i + 2))).toInt64) &&& (Int64.ofNat 4294967295))), .ref 141]) rfl (fun _ => rfl) ?_
  refine pwl_ld E (pc' := 1353) (st' := [pw_i i, .ref 0, .long (((Int32.ofInt (pw_s xs (i + 3))).toInt64) <<< ((Int32.ofInt 32).toInt64 &&& 63)), .long ((((Int32.ofInt (pw_s xs (i + 1))).toInt64) <<< ((Int32.ofInt 32).toInt64 &&& 63)) ||| (((Int32.ofInt (pw_s xs (i + 2))).toInt64) &&& (Int64.ofNat 4294967295))), .ref 141]) rfl (fun _ => rfl) ?_
  refine pwl_ld E (pc' := 1354) (st' := [pw_i 4, pw_i i, .ref 0, .long (((Int32.ofInt (pw_s xs (i + 3))).toInt64) <<< ((Int32.ofInt 32).toInt64 &&& 63)), .long ((((Int32.ofInt (pw_s xs (i + 1))).toInt64) <<< ((Int32.ofInt 32).toInt64 &&& 63)) ||| (((Int32.ofInt (pw_s xs (i + 2))).toInt64) &&& (Int64.ofNat 4294967295))), .ref 141]) rfl (fun _ => rfl) ?_
  refine pwl_add E (pc' := 1355) rfl rfl ?_
  refine pwl_sald E (pc' := 1356) rfl hX0 hl (by omega) (by omega) rfl ?_
  have hs14 := pw_s_r xs (i + 4)
  refine pwl_ld E (pc' := 1357) (st' := [.long ((Int32.ofInt (pw_s xs (i + 4))).toInt64), .long (((Int32.ofInt (pw_s xs (i + 3))).toInt64) <<< ((Int32.ofInt 32).toInt64 &&& 63)), .long ((((Int32.ofInt (pw_s xs (i + 1))).toInt64) <<< ((Int32.ofInt 32).toInt64 &&& 63)) ||| (((Int32.ofInt (pw_s xs (i + 2))).toInt64) &&& (Int64.ofNat 4294967295))), .ref 141]) rfl (fun _ => rfl) ?_
  refine pwl_ld E (pc' := 1360) (st' := [.long (Int64.ofNat 4294967295), .long ((Int32.ofInt (pw_s xs (i + 4))).toInt64), .long (((Int32.ofInt (pw_s xs (i + 3))).toInt64) <<< ((Int32.ofInt 32).toInt64 &&& 63)), .long ((((Int32.ofInt (pw_s xs (i + 1))).toInt64) <<< ((Int32.ofInt 32).toInt64 &&& 63)) ||| (((Int32.ofInt (pw_s xs (i + 2))).toInt64) &&& (Int64.ofNat 4294967295))), .ref 141]) rfl (fun _ => rfl) ?_
  refine pwl_ld E (pc' := 1361) (st' := [.long (((Int32.ofInt (pw_s xs (i + 4))).toInt64) &&& (Int64.ofNat 4294967295)), .long (((Int32.ofInt (pw_s xs (i + 3))).toInt64) <<< ((Int32.ofInt 32).toInt64 &&& 63)), .long ((((Int32.ofInt (pw_s xs (i + 1))).toInt64) <<< ((Int32.ofInt 32).toInt64 &&& 63)) ||| (((Int32.ofInt (pw_s xs (i + 2))).toInt64) &&& (Int64.ofNat 4294967295))), .ref 141]) rfl (fun _ => rfl) ?_
  refine pwl_ld E (pc' := 1362) (st' := [.long ((((Int32.ofInt (pw_s xs (i + 3))).toInt64) <<< ((Int32.ofInt 32).toInt64 &&& 63)) ||| (((Int32.ofInt (pw_s xs (i + 4))).toInt64) &&& (Int64.ofNat 4294967295))), .long ((((Int32.ofInt (pw_s xs (i + 1))).toInt64) <<< ((Int32.ofInt 32).toInt64 &&& 63)) ||| (((Int32.ofInt (pw_s xs (i + 2))).toInt64) &&& (Int64.ofNat 4294967295))), .ref 141]) rfl (fun _ => rfl) ?_
  refine pwl_ld E (pc' := 1363) (st' := [.ref 0, .long ((((Int32.ofInt (pw_s xs (i + 3))).toInt64) <<< ((Int32.ofInt 32).toInt64 &&& 63)) ||| (((Int32.ofInt (pw_s xs (i + 4))).toInt64) &&& (Int64.ofNat 4294967295))), .long ((((Int32.ofInt (pw_s xs (i + 1))).toInt64) <<< ((Int32.ofInt 32).toInt64 &&& 63)) ||| (((Int32.ofInt (pw_s xs (i + 2))).toInt64) &&& (Int64.ofNat 4294967295))), .ref 141]) rfl (fun _ => rfl) ?_
  refine pwl_ld E (pc' := 1365) (st' := [pw_i i, .ref 0, .long ((((Int32.ofInt (pw_s xs (i + 3))).toInt64) <<< ((Int32.ofInt 32).toInt64 &&& 63)) ||| (((Int32.ofInt (pw_s xs (i + 4))).toInt64) &&& (Int64.ofNat 4294967295))), .long ((((Int32.ofInt (pw_s xs (i + 1))).toInt64) <<< ((Int32.ofInt 32).toInt64 &&& 63)) ||| (((Int32.ofInt (pw_s xs (i + 2))).toInt64) &&& (Int64.ofNat 4294967295))), .ref 141]) rfl (fun _ => rfl) ?_
  refine pwl_ld E (pc' := 1366) (st' := [pw_i 5, pw_i i, .ref 0, .long ((((Int32.ofInt (pw_s xs (i + 3))).toInt64) <<< ((Int32.ofInt 32).toInt64 &&& 63)) ||| (((Int32.ofInt (pw_s xs (i + 4))).toInt64) &&& (Int64.ofNat 4294967295))), .long ((((Int32.ofInt (pw_s xs (i + 1))).toInt64) <<< ((Int32.ofInt 32).toInt64 &&& 63)) ||| (((Int32.ofInt (pw_s xs (i + 2))).toInt64) &&& (Int64.ofNat 4294967295))), .ref 141]) rfl (fun _ => rfl) ?_
  refine pwl_add E (pc' := 1367) rfl rfl ?_
  refine pwl_sald E (pc' := 1368) rfl hX0 hl (by omega) (by omega) rfl ?_
  have hs15 := pw_s_r xs (i + 5)
  refine pwl_ld E (pc' := 1369) (st' := [.long ((Int32.ofInt (pw_s xs (i + 5))).toInt64), .long ((((Int32.ofInt (pw_s xs (i + 3))).toInt64) <<< ((Int32.ofInt 32).toInt64 &&& 63)) ||| (((Int32.ofInt (pw_s xs (i + 4))).toInt64) &&& (Int64.ofNat 4294967295))), .long ((((Int32.ofInt (pw_s xs (i + 1))).toInt64) <<< ((Int32.ofInt 32).toInt64 &&& 63)) ||| (((Int32.ofInt (pw_s xs (i + 2))).toInt64) &&& (Int64.ofNat 4294967295))), .ref 141]) rfl (fun _ => rfl) ?_
  refine pwl_bip E (pc' := 1371) rfl rfl (by decide) ?_
  refine pwl_ld E (pc' := 1372) (st' := [.long (((Int32.ofInt (pw_s xs (i + 5))).toInt64) <<< ((Int32.ofInt 32).toInt64 &&& 63)), .long ((((Int32.ofInt (pw_s xs (i + 3))).toInt64) <<< ((Int32.ofInt 32).toInt64 &&& 63)) ||| (((Int32.ofInt (pw_s xs (i + 4))).toInt64) &&& (Int64.ofNat 4294967295))), .long ((((Int32.ofInt (pw_s xs (i + 1))).toInt64) <<< ((Int32.ofInt 32).toInt64 &&& 63)) ||| (((Int32.ofInt (pw_s xs (i + 2))).toInt64) &&& (Int64.ofNat 4294967295))), .ref 141]) rfl (fun _ => rfl) ?_
  refine pwl_ld E (pc' := 1373) (st' := [.ref 0, .long (((Int32.ofInt (pw_s xs (i + 5))).toInt64) <<< ((Int32.ofInt 32).toInt64 &&& 63)), .long ((((Int32.ofInt (pw_s xs (i + 3))).toInt64) <<< ((Int32.ofInt 32).toInt64 &&& 63)) ||| (((Int32.ofInt (pw_s xs (i + 4))).toInt64) &&& (Int64.ofNat 4294967295))), .long ((((Int32.ofInt (pw_s xs (i + 1))).toInt64) <<< ((Int32.ofInt 32).toInt64 &&& 63)) ||| (((Int32.ofInt (pw_s xs (i + 2))).toInt64) &&& (Int64.ofNat 4294967295))), .ref 141]) rfl (fun _ => rfl) ?_
  refine pwl_ld E (pc' := 1375) (st' := [pw_i i, .ref 0, .long (((Int32.ofInt (pw_s xs (i + 5))).toInt64) <<< ((Int32.ofInt 32).toInt64 &&& 63)), .long ((((Int32.ofInt (pw_s xs (i + 3))).toInt64) <<< ((Int32.ofInt 32).toInt64 &&& 63)) ||| (((Int32.ofInt (pw_s xs (i + 4))).toInt64) &&& (Int64.ofNat 4294967295))), .long ((((Int32.ofInt (pw_s xs (i + 1))).toInt64) <<< ((Int32.ofInt 32).toInt64 &&& 63)) ||| (((Int32.ofInt (pw_s xs (i + 2))).toInt64) &&& (Int64.ofNat 4294967295))), .ref 141]) rfl (fun _ => rfl) ?_
  refine pwl_bip E (pc' := 1377) rfl rfl (by decide) ?_
  refine pwl_add E (pc' := 1378) rfl rfl ?_
  refine pwl_sald E (pc' := 1379) rfl hX0 hl (by omega) (by omega) rfl ?_
  have hs16 := pw_s_r xs (i + 6)
  refine pwl_ld E (pc' := 1380) (st' := [.long ((Int32.ofInt (pw_s xs (i + 6))).toInt64), .long (((Int32.ofInt (pw_s xs (i + 5))).toInt64) <<< ((Int32.ofInt 32).toInt64 &&& 63)), .long ((((Int32.ofInt (pw_s xs (i + 3))).toInt64) <<< ((Int32.ofInt 32).toInt64 &&& 63)) ||| (((Int32.ofInt (pw_s xs (i + 4))).toInt64) &&& (Int64.ofNat 4294967295))), .long ((((Int32.ofInt (pw_s xs (i + 1))).toInt64) <<< ((Int32.ofInt 32).toInt64 &&& 63)) ||| (((Int32.ofInt (pw_s xs (i + 2))).toInt64) &&& (Int64.ofNat 4294967295))), .ref 141]) rfl (fun _ => rfl) ?_
  refine pwl_ld E (pc' := 1383) (st' := [.long (Int64.ofNat 4294967295), .long ((Int32.ofInt (pw_s xs (i + 6))).toInt64), .long (((Int32.ofInt (pw_s xs (i + 5))).toInt64) <<< ((Int32.ofInt 32).toInt64 &&& 63)), .long ((((Int32.ofInt (pw_s xs (i + 3))).toInt64) <<< ((Int32.ofInt 32).toInt64 &&& 63)) ||| (((Int32.ofInt (pw_s xs (i + 4))).toInt64) &&& (Int64.ofNat 4294967295))), .long ((((Int32.ofInt (pw_s xs (i + 1))).toInt64) <<< ((Int32.ofInt 32).toInt64 &&& 63)) ||| (((Int32.ofInt (pw_s xs (i + 2))).toInt64) &&& (Int64.ofNat 4294967295))), .ref 141]) rfl (fun _ => rfl) ?_
  refine pwl_ld E (pc' := 1384) (st' := [.long (((Int32.ofInt (pw_s xs (i + 6))).toInt64) &&& (Int64.ofNat 4294967295)), .long (((Int32.ofInt (pw_s xs (i + 5))).toInt64) <<< ((Int32.ofInt 32).toInt64 &&& 63)), .long ((((Int32.ofInt (pw_s xs (i + 3))).toInt64) <<< ((Int32.ofInt 32).toInt64 &&& 63)) ||| (((Int32.ofInt (pw_s xs (i + 4))).toInt64) &&& (Int64.ofNat 4294967295))), .long ((((Int32.ofInt (pw_s xs (i + 1))).toInt64) <<< ((Int32.ofInt 32).toInt64 &&& 63)) ||| (((Int32.ofInt (pw_s xs (i + 2))).toInt64) &&& (Int64.ofNat 4294967295))), .ref 141]) rfl (fun _ => rfl) ?_
  refine pwl_ld E (pc' := 1385) (st' := [.long ((((Int32.ofInt (pw_s xs (i + 5))).toInt64) <<< ((Int32.ofInt 32).toInt64 &&& 63)) ||| (((Int32.ofInt (pw_s xs (i + 6))).toInt64) &&& (Int64.ofNat 4294967295))), .long ((((Int32.ofInt (pw_s xs (i + 3))).toInt64) <<< ((Int32.ofInt 32).toInt64 &&& 63)) ||| (((Int32.ofInt (pw_s xs (i + 4))).toInt64) &&& (Int64.ofNat 4294967295))), .long ((((Int32.ofInt (pw_s xs (i + 1))).toInt64) <<< ((Int32.ofInt 32).toInt64 &&& 63)) ||| (((Int32.ofInt (pw_s xs (i + 2))).toInt64) &&& (Int64.ofNat 4294967295))), .ref 141]) rfl (fun _ => rfl) ?_
  obtain ⟨f17l, f17h, -⟩ := pw_obj (c := 125) h9I rfl
  refine pwl_call (m' := 198) (As := [.ref 141, .long ((((Int32.ofInt (pw_s xs (i + 1))).toInt64) <<< ((Int32.ofInt 32).toInt64 &&& 63)) ||| (((Int32.ofInt (pw_s xs (i + 2))).toInt64) &&& (Int64.ofNat 4294967295))), .long ((((Int32.ofInt (pw_s xs (i + 3))).toInt64) <<< ((Int32.ofInt 32).toInt64 &&& 63)) ||| (((Int32.ofInt (pw_s xs (i + 4))).toInt64) &&& (Int64.ofNat 4294967295))), .long ((((Int32.ofInt (pw_s xs (i + 5))).toInt64) <<< ((Int32.ofInt 32).toInt64 &&& 63)) ||| (((Int32.ofInt (pw_s xs (i + 6))).toInt64) &&& (Int64.ofNat 4294967295)))]) (rest := []) (ls'' := [some (.ref 141), some (.long ((((Int32.ofInt (pw_s xs (i + 1))).toInt64) <<< ((Int32.ofInt 32).toInt64 &&& 63)) ||| (((Int32.ofInt (pw_s xs (i + 2))).toInt64) &&& (Int64.ofNat 4294967295)))), none, some (.long ((((Int32.ofInt (pw_s xs (i + 3))).toInt64) <<< ((Int32.ofInt 32).toInt64 &&& 63)) ||| (((Int32.ofInt (pw_s xs (i + 4))).toInt64) &&& (Int64.ofNat 4294967295)))), none, some (.long ((((Int32.ofInt (pw_s xs (i + 5))).toInt64) <<< ((Int32.ofInt 32).toInt64 &&& 63)) ||| (((Int32.ofInt (pw_s xs (i + 6))).toInt64) &&& (Int64.ofNat 4294967295)))), none]) E rfl (fun _ => pwl_iV rfl rfl rfl (pw_cellI f17h rfl)) (rfl : pm_ent 198 = some (4, 7, 12, 0, pmc_198)) (by decide) rfl rfl (cm_198 (by decide) h9I ((((Int32.ofInt (pw_s xs (i + 1))).toInt64) <<< ((Int32.ofInt 32).toInt64 &&& 63)) ||| (((Int32.ofInt (pw_s xs (i + 2))).toInt64) &&& (Int64.ofNat 4294967295))) ((((Int32.ofInt (pw_s xs (i + 3))).toInt64) <<< ((Int32.ofInt 32).toInt64 &&& 63)) ||| (((Int32.ofInt (pw_s xs (i + 4))).toInt64) &&& (Int64.ofNat 4294967295))) ((((Int32.ofInt (pw_s xs (i + 5))).toInt64) <<< ((Int32.ofInt 32).toInt64 &&& 63)) ||| (((Int32.ofInt (pw_s xs (i + 6))).toInt64) &&& (Int64.ofNat 4294967295)))) ?_
  rintro h19 v18 ⟨h19I, h19E, x20, rfl, hx20a, hx20b⟩
  refine ⟨_, rfl, ?_⟩
  have h19K := pw_KE h9I h19E h9K rfl
  have h19L := h19E.1
  show pwl X _ h19 1388 [some (.ref 0), some (.ref 16), some (.ref 141), some (.ref 185), some (pw_i i), a5, a6, a7] [pw_i x20] _
  have h19Tk : pw_PR 2 131 24 h19 := pw_PRE (c := 2) (c' := 131) rfl rfl h9I h19E h9Tk rfl
  have h19Ck : pw_PR 3 135 24 h19 := pw_PRE (c := 3) (c' := 135) rfl rfl h9I h19E h9Ck rfl
  have h19Bk : pw_PR 4 132 24 h19 := pw_PRE (c := 4) (c' := 132) rfl rfl h9I h19E h9Bk rfl
  have h19Wk : pw_PR 5 133 24 h19 := pw_PRE (c := 5) (c' := 133) rfl rfl h9I h19E h9Wk rfl
  have h19Mk : pw_PR 6 134 24 h19 := pw_PRE (c := 6) (c' := 134) rfl rfl h9I h19E h9Mk rfl
  have h19Fk : pw_PR 8 136 24 h19 := pw_PRE (c := 8) (c' := 136) rfl rfl h9I h19E h9Fk rfl
  have h19Rk : pw_PR 9 137 24 h19 := pw_PRE (c := 9) (c' := 137) rfl rfl h9I h19E h9Rk rfl
  have h19Hk : pw_PR 14 162 288 h19 := pw_PRE (c := 14) (c' := 162) rfl rfl h9I h19E h9Hk rfl
  have h19Gk : pw_PR 15 163 288 h19 := pw_PRE (c := 15) (c' := 163) rfl rfl h9I h19E h9Gk rfl
  have h19Tn := pw_TnE h9I h19E h9Tn rfl
  have h19Lc := pw_LcE h9I h19E h9Lc rfl
  have h19Ls := pw_ShsE h9I h19E h9Ls rfl
  have h19Rm := pw_RmE h9I h19E h9Rm rfl
  have h19Ro := pw_RoE h9I h19E h9Ro rfl
  refine pwl_ld E (pc' := 1389) (st' := []) rfl (fun _ => rfl) ?_
  refine pwl_goto E (pc' := 2368) rfl (by decide) ?_
  exact pwl_mono (by omega) (hB h19 (a5) (a6) (a7) h19I h19K h19Tk h19Ck h19Bk h19Wk h19Mk h19Fk h19Rk h19Hk h19Gk h19Tn h19Lc h19Ls h19Rm h19Ro (by omega) (by omega) s5 s6 s7)
set_option maxHeartbeats 4000000 in
theorem lc_19 {X : List (Nat × List Value)} {xs : List Int32} {K : Nat} {h : pm_H} {Q : pm_H → (Option Value ⊕ Unit) → Prop} (hX0 : X[0]? = some (0, xs.map Value.int)) (hl : xs.length ≤ 3584) (hX : pw_Xk X) (hR : pw_Xr X) (I : pw_I h) (hK : pw_K h) (hTk : pw_PR 2 131 24 h) (hCk : pw_PR 3 135 24 h) (hBk : pw_PR 4 132 24 h) (hWk : pw_PR 5 133 24 h) (hMk : pw_PR 6 134 24 h) (hFk : pw_PR 8 136 24 h) (hRk : pw_PR 9 137 24 h) (hHk : pw_PR 14 162 288 h) (hGk : pw_PR 15 163 288 h) (hTn : pw_Tn h) (hLc : pw_Lc h) (hLs : pw_Shs h) (hRm : pw_Rm h) (hRo : pw_Ro h) (i : Int) (hi0 : 0 ≤ i) (hi1 : i + 7 ≤ xs.length) (a5 a6 a7 : Option Value) (s5 : ∀ n, pm_scl n a5 = true) (s6 : ∀ n, pm_scl n a6 = true) (s7 : ∀ n, pm_scl n a7 = true) (hB : ∀ (h' : pm_H) (b5 b6 b7 : Option Value), pw_I h' → pw_K h' → pw_PR 2 131 24 h' → pw_PR 3 135 24 h' → pw_PR 4 132 24 h' → pw_PR 5 133 24 h' → pw_PR 6 134 24 h' → pw_PR 8 136 24 h' → pw_PR 9 137 24 h' → pw_PR 14 162 288 h' → pw_PR 15 163 288 h' → pw_Tn h' → pw_Lc h' → pw_Shs h' → pw_Rm h' → pw_Ro h' → h'.length ≤ h.length + 1 → pm_slt h' ≤ pm_slt h + 1000 → (∀ n, pm_scl n b5 = true) → (∀ n, pm_scl n b6 = true) → (∀ n, pm_scl n b7 = true) → pwl X K h' 2368 [some (.ref 0), some (.ref 16), some (.ref 141), some (.ref 185), some (pw_i i), b5, b6, b7] [] Q) : pwl X (K + 150) h 1392 [some (.ref 0), some (.ref 16), some (.ref 141), some (.ref 185), some (pw_i i), a5, a6, a7] [] Q := by
  have E : pm_ent 309 = some (1, 8, 13, 1, pmc_309) := rfl
  refine pwl_ld E (pc' := 1393) (st' := [.ref 16]) rfl (fun _ => rfl) ?_
  refine pwl_ld E (pc' := 1394) (st' := [.ref 0, .ref 16]) rfl (fun _ => rfl) ?_
  refine pwl_ld E (pc' := 1396) (st' := [pw_i i, .ref 0, .ref 16]) rfl (fun _ => rfl) ?_
  refine pwl_ld E (pc' := 1397) (st' := [pw_i 1, pw_i i, .ref 0, .ref 16]) rfl (fun _ => rfl) ?_
  refine pwl_add E (pc' := 1398) rfl rfl ?_
  refine pwl_sald E (pc' := 1399) rfl hX0 hl (by omega) (by omega) rfl ?_
  have hs1 := pw_s_r xs (i + 1)
  obtain ⟨f2l, f2h, -⟩ := pw_obj (c := 0) I rfl
  refine pwl_call (m' := 141) (As := [.ref 16, pw_i (pw_s xs (i + 1))]) (rest := []) (ls'' := [some (.ref 16), some (pw_i (pw_s xs (i + 1)))]) E rfl (fun _ => pwl_iV rfl rfl rfl (pw_cellI f2h rfl)) (rfl : pm_ent 141 = some (2, 2, 11, 0, pmc_141)) (by decide) rfl rfl (cm_141 (by decide) I hX hR (pw_s xs (i + 1)) (by omega) (by omega)) ?_
  rintro h4 v3 ⟨h4I, h4E, x5, rfl, hx5a, hx5b⟩
  refine ⟨_, rfl, ?_⟩
  have h4K := pw_KG I h4E hK rfl
  have h4L := h4E.1
  show pwl X _ h4 1402 [some (.ref 0), some (.ref 16), some (.ref 141), some (.ref 185), some (pw_i i), a5, a6, a7] [pw_i x5] _
  have h4Tk : pw_PR 2 131 24 h4 := pw_PRG (c := 2) (c' := 131) rfl rfl I h4E hTk rfl
  have h4Ck : pw_PR 3 135 24 h4 := pw_PRG (c := 3) (c' := 135) rfl rfl I h4E hCk rfl
  have h4Bk : pw_PR 4 132 24 h4 := pw_PRG (c := 4) (c' := 132) rfl rfl I h4E hBk rfl
  have h4Wk : pw_PR 5 133 24 h4 := pw_PRG (c := 5) (c' := 133) rfl rfl I h4E hWk rfl
  have h4Mk : pw_PR 6 134 24 h4 := pw_PRG (c := 6) (c' := 134) rfl rfl I h4E hMk rfl
  have h4Fk : pw_PR 8 136 24 h4 := pw_PRG (c := 8) (c' := 136) rfl rfl I h4E hFk rfl
  have h4Rk : pw_PR 9 137 24 h4 := pw_PRG (c := 9) (c' := 137) rfl rfl I h4E hRk rfl
  have h4Hk : pw_PR 14 162 288 h4 := pw_PRG (c := 14) (c' := 162) rfl rfl I h4E hHk rfl
  have h4Gk : pw_PR 15 163 288 h4 := pw_PRG (c := 15) (c' := 163) rfl rfl I h4E hGk rfl
  have h4Tn := pw_TnG I h4E hTn rfl
  have h4Lc := pw_LcG I h4E hLc rfl
  have h4Ls := pw_ShsG I h4E hLs rfl
  have h4Rm := pw_RmG I h4E hRm rfl
  have h4Ro := pw_RoG I h4E hRo rfl
  refine pwl_ld E (pc' := 1403) (st' := []) rfl (fun _ => rfl) ?_
  refine pwl_ld E (pc' := 1404) (st' := [.ref 141]) rfl (fun _ => rfl) ?_
  refine pwl_ld E (pc' := 1405) (st' := [.ref 0, .ref 141]) rfl (fun _ => rfl) ?_
  refine pwl_ld E (pc' := 1407) (st' := [pw_i i, .ref 0, .ref 141]) rfl (fun _ => rfl) ?_
  refine pwl_ld E (pc' := 1408) (st' := [pw_i 1, pw_i i, .ref 0, .ref 141]) rfl (fun _ => rfl) ?_
  refine pwl_add E (pc' := 1409) rfl rfl ?_
  refine pwl_sald E (pc' := 1410) rfl hX0 hl (by omega) (by omega) rfl ?_
  have hs6 := pw_s_r xs (i + 1)
  obtain ⟨f7l, f7h, -⟩ := pw_obj (c := 125) h4I rfl
  refine pwl_call (m' := 237) (As := [.ref 141, pw_i (pw_s xs (i + 1))]) (rest := []) (ls'' := [some (.ref 141), some (pw_i (pw_s xs (i + 1))), none]) E rfl (fun _ => pwl_iV rfl rfl rfl (pw_cellI f7h rfl)) (rfl : pm_ent 237 = some (2, 3, 12, 0, pmc_237)) (by decide) rfl rfl (cm_237 (by decide) h4I (pw_s xs (i + 1)) (by omega) (by omega) h4K) ?_
  rintro h9 v8 ⟨h9I, h9E, h9K, x10, rfl, hx10a, hx10b⟩
  refine ⟨_, rfl, ?_⟩
  have h9L := h9E.1
  show pwl X _ h9 1413 [some (.ref 0), some (.ref 16), some (.ref 141), some (.ref 185), some (pw_i i), a5, a6, a7] [pw_i x10] _
  have h9Tk : pw_PR 2 131 24 h9 := pw_PRE (c := 2) (c' := 131) rfl rfl h4I h9E h4Tk rfl
  have h9Ck : pw_PR 3 135 24 h9 := pw_PRE (c := 3) (c' := 135) rfl rfl h4I h9E h4Ck rfl
  have h9Bk : pw_PR 4 132 24 h9 := pw_PRE (c := 4) (c' := 132) rfl rfl h4I h9E h4Bk rfl
  have h9Wk : pw_PR 5 133 24 h9 := pw_PRE (c := 5) (c' := 133) rfl rfl h4I h9E h4Wk rfl
  have h9Mk : pw_PR 6 134 24 h9 := pw_PRE (c := 6) (c' := 134) rfl rfl h4I h9E h4Mk rfl
  have h9Fk : pw_PR 8 136 24 h9 := pw_PRE (c := 8) (c' := 136) rfl rfl h4I h9E h4Fk rfl
  have h9Rk : pw_PR 9 137 24 h9 := pw_PRE (c := 9) (c' := 137) rfl rfl h4I h9E h4Rk rfl
  have h9Hk : pw_PR 14 162 288 h9 := pw_PRE (c := 14) (c' := 162) rfl rfl h4I h9E h4Hk rfl
  have h9Gk : pw_PR 15 163 288 h9 := pw_PRE (c := 15) (c' := 163) rfl rfl h4I h9E h4Gk rfl
  have h9Tn := pw_TnE h4I h9E h4Tn rfl
  have h9Lc := pw_LcE h4I h9E h4Lc rfl
  have h9Ls := pw_ShsE h4I h9E h4Ls rfl
  have h9Rm := pw_RmE h4I h9E h4Rm rfl
  have h9Ro := pw_RoE h4I h9E h4Ro rfl
  refine pwl_ld E (pc' := 1414) (st' := []) rfl (fun _ => rfl) ?_
  refine pwl_goto E (pc' := 2368) rfl (by decide) ?_
  exact pwl_mono (by omega) (hB h9 (a5) (a6) (a7) h9I h9K h9Tk h9Ck h9Bk h9Wk h9Mk h9Fk h9Rk h9Hk h9Gk h9Tn h9Lc h9Ls h9Rm h9Ro (by omega) (by omega) s5 s6 s7)
set_option maxHeartbeats 4000000 in
theorem lc_20 {X : List (Nat × List Value)} {xs : List Int32} {K : Nat} {h : pm_H} {Q : pm_H → (Option Value ⊕ Unit) → Prop} (hX0 : X[0]? = some (0, xs.map Value.int)) (hl : xs.length ≤ 3584) (hX : pw_Xk X) (hR : pw_Xr X) (I : pw_I h) (hK : pw_K h) (hTk : pw_PR 2 131 24 h) (hCk : pw_PR 3 135 24 h) (hBk : pw_PR 4 132 24 h) (hWk : pw_PR 5 133 24 h) (hMk : pw_PR 6 134 24 h) (hFk : pw_PR 8 136 24 h) (hRk : pw_PR 9 137 24 h) (hHk : pw_PR 14 162 288 h) (hGk : pw_PR 15 163 288 h) (hTn : pw_Tn h) (hLc : pw_Lc h) (hLs : pw_Shs h) (hRm : pw_Rm h) (hRo : pw_Ro h) (i : Int) (hi0 : 0 ≤ i) (hi1 : i + 7 ≤ xs.length) (a5 a6 a7 : Option Value) (s5 : ∀ n, pm_scl n a5 = true) (s6 : ∀ n, pm_scl n a6 = true) (s7 : ∀ n, pm_scl n a7 = true) (hB : ∀ (h' : pm_H) (b5 b6 b7 : Option Value), pw_I h' → pw_K h' → pw_PR 2 131 24 h' → pw_PR 3 135 24 h' → pw_PR 4 132 24 h' → pw_PR 5 133 24 h' → pw_PR 6 134 24 h' → pw_PR 8 136 24 h' → pw_PR 9 137 24 h' → pw_PR 14 162 288 h' → pw_PR 15 163 288 h' → pw_Tn h' → pw_Lc h' → pw_Shs h' → pw_Rm h' → pw_Ro h' → h'.length ≤ h.length + 1 → pm_slt h' ≤ pm_slt h + 1000 → (∀ n, pm_scl n b5 = true) → (∀ n, pm_scl n b6 = true) → (∀ n, pm_scl n b7 = true) → pwl X K h' 2368 [some (.ref 0), some (.ref 16), some (.ref 141), some (.ref 185), some (pw_i i), b5, b6, b7] [] Q) : pwl X (K + 150) h 1417 [some (.ref 0), some (.ref 16), some (.ref 141), some (.ref 185), some (pw_i i), a5, a6, a7] [] Q := by
  have E : pm_ent 309 = some (1, 8, 13, 1, pmc_309) := rfl
  refine pwl_ld E (pc' := 1418) (st' := [.ref 16]) rfl (fun _ => rfl) ?_
  refine pwl_ld E (pc' := 1419) (st' := [.ref 0, .ref 16]) rfl (fun _ => rfl) ?_
  refine pwl_ld E (pc' := 1421) (st' := [pw_i i, .ref 0, .ref 16]) rfl (fun _ => rfl) ?_
  refine pwl_ld E (pc' := 1422) (st' := [pw_i 1, pw_i i, .ref 0, .ref 16]) rfl (fun _ => rfl) ?_
  refine pwl_add E (pc' := 1423) rfl rfl ?_
  refine pwl_sald E (pc' := 1424) rfl hX0 hl (by omega) (by omega) rfl ?_
  have hs1 := pw_s_r xs (i + 1)
  refine pwl_ld E (pc' := 1425) (st' := [.ref 0, pw_i (pw_s xs (i + 1)), .ref 16]) rfl (fun _ => rfl) ?_
  refine pwl_ld E (pc' := 1427) (st' := [pw_i i, .ref 0, pw_i (pw_s xs (i + 1)), .ref 16]) rfl (fun _ => rfl) ?_
  refine pwl_ld E (pc' := 1428) (st' := [pw_i 2, pw_i i, .ref 0, pw_i (pw_s xs (i + 1)), .ref 16]) rfl (fun _ => rfl) ?_
  refine pwl_add E (pc' := 1429) rfl rfl ?_
  refine pwl_sald E (pc' := 1430) rfl hX0 hl (by omega) (by omega) rfl ?_
  have hs2 := pw_s_r xs (i + 2)
  refine pwl_ld E (pc' := 1431) (st' := [.ref 0, pw_i (pw_s xs (i + 2)), pw_i (pw_s xs (i + 1)), .ref 16]) rfl (fun _ => rfl) ?_
  refine pwl_ld E (pc' := 1433) (st' := [pw_i i, .ref 0, pw_i (pw_s xs (i + 2)), pw_i (pw_s xs (i + 1)), .ref 16]) rfl (fun _ => rfl) ?_
  refine pwl_ld E (pc' := 1434) (st' := [pw_i 3, pw_i i, .ref 0, pw_i (pw_s xs (i + 2)), pw_i (pw_s xs (i + 1)), .ref 16]) rfl (fun _ => rfl) ?_
  refine pwl_add E (pc' := 1435) rfl rfl ?_
  refine pwl_sald E (pc' := 1436) rfl hX0 hl (by omega) (by omega) rfl ?_
  have hs3 := pw_s_r xs (i + 3)
  refine pwl_ld E (pc' := 1437) (st' := [.ref 0, pw_i (pw_s xs (i + 3)), pw_i (pw_s xs (i + 2)), pw_i (pw_s xs (i + 1)), .ref 16]) rfl (fun _ => rfl) ?_
  refine pwl_ld E (pc' := 1439) (st' := [pw_i i, .ref 0, pw_i (pw_s xs (i + 3)), pw_i (pw_s xs (i + 2)), pw_i (pw_s xs (i + 1)), .ref 16]) rfl (fun _ => rfl) ?_
  refine pwl_ld E (pc' := 1440) (st' := [pw_i 4, pw_i i, .ref 0, pw_i (pw_s xs (i + 3)), pw_i (pw_s xs (i + 2)), pw_i (pw_s xs (i + 1)), .ref 16]) rfl (fun _ => rfl) ?_
  refine pwl_add E (pc' := 1441) rfl rfl ?_
  refine pwl_sald E (pc' := 1442) rfl hX0 hl (by omega) (by omega) rfl ?_
  have hs4 := pw_s_r xs (i + 4)
  obtain ⟨f5l, f5h, -⟩ := pw_obj (c := 0) I rfl
  refine pwl_call (m' := 144) (As := [.ref 16, pw_i (pw_s xs (i + 1)), pw_i (pw_s xs (i + 2)), pw_i (pw_s xs (i + 3)), pw_i (pw_s xs (i + 4))]) (rest := []) (ls'' := [some (.ref 16), some (pw_i (pw_s xs (i + 1))), some (pw_i (pw_s xs (i + 2))), some (pw_i (pw_s xs (i + 3))), some (pw_i (pw_s xs (i + 4)))]) E rfl (fun _ => pwl_iV rfl rfl rfl (pw_cellI f5h rfl)) (rfl : pm_ent 144 = some (5, 5, 11, 0, pmc_144)) (by decide) rfl rfl (cm_144 (by decide) I (pw_s xs (i + 1)) (by omega) (by omega) (pw_s xs (i + 2)) (by omega) (by omega) (pw_s xs (i + 3)) (by omega) (by omega) (pw_s xs (i + 4)) (by omega) (by omega)) ?_
  rintro h7 v6 ⟨h7I, h7E, x8, rfl, hx8a, hx8b⟩
  refine ⟨_, rfl, ?_⟩
  have h7K := pw_KE I h7E hK rfl
  have h7L := h7E.1
  show pwl X _ h7 1445 [some (.ref 0), some (.ref 16), some (.ref 141), some (.ref 185), some (pw_i i), a5, a6, a7] [pw_i x8] _
  have h7Tk : pw_PR 2 131 24 h7 := pw_PRE (c := 2) (c' := 131) rfl rfl I h7E hTk rfl
  have h7Ck : pw_PR 3 135 24 h7 := pw_PRE (c := 3) (c' := 135) rfl rfl I h7E hCk rfl
  have h7Bk : pw_PR 4 132 24 h7 := pw_PRE (c := 4) (c' := 132) rfl rfl I h7E hBk rfl
  have h7Wk : pw_PR 5 133 24 h7 := pw_PRE (c := 5) (c' := 133) rfl rfl I h7E hWk rfl
  have h7Mk : pw_PR 6 134 24 h7 := pw_PRE (c := 6) (c' := 134) rfl rfl I h7E hMk rfl
  have h7Fk : pw_PR 8 136 24 h7 := pw_PRE (c := 8) (c' := 136) rfl rfl I h7E hFk rfl
  have h7Rk : pw_PR 9 137 24 h7 := pw_PRE (c := 9) (c' := 137) rfl rfl I h7E hRk rfl
  have h7Hk : pw_PR 14 162 288 h7 := pw_PRE (c := 14) (c' := 162) rfl rfl I h7E hHk rfl
  have h7Gk : pw_PR 15 163 288 h7 := pw_PRE (c := 15) (c' := 163) rfl rfl I h7E hGk rfl
  have h7Tn := pw_TnE I h7E hTn rfl
  have h7Lc := pw_LcE I h7E hLc rfl
  have h7Ls := pw_ShsE I h7E hLs rfl
  have h7Rm := pw_RmE I h7E hRm rfl
  have h7Ro := pw_RoE I h7E hRo rfl
  refine pwl_ld E (pc' := 1446) (st' := []) rfl (fun _ => rfl) ?_
  refine pwl_ld E (pc' := 1447) (st' := [.ref 141]) rfl (fun _ => rfl) ?_
  refine pwl_ld E (pc' := 1448) (st' := [.ref 0, .ref 141]) rfl (fun _ => rfl) ?_
  refine pwl_ld E (pc' := 1450) (st' := [pw_i i, .ref 0, .ref 141]) rfl (fun _ => rfl) ?_
  refine pwl_ld E (pc' := 1451) (st' := [pw_i 1, pw_i i, .ref 0, .ref 141]) rfl (fun _ => rfl) ?_
  refine pwl_add E (pc' := 1452) rfl rfl ?_
  refine pwl_sald E (pc' := 1453) rfl hX0 hl (by omega) (by omega) rfl ?_
  have hs9 := pw_s_r xs (i + 1)
  refine pwl_ld E (pc' := 1454) (st' := [.ref 0, pw_i (pw_s xs (i + 1)), .ref 141]) rfl (fun _ => rfl) ?_
  refine pwl_ld E (pc' := 1456) (st' := [pw_i i, .ref 0, pw_i (pw_s xs (i + 1)), .ref 141]) rfl (fun _ => rfl) ?_
  refine pwl_ld E (pc' := 1457) (st' := [pw_i 2, pw_i i, .ref 0, pw_i (pw_s xs (i + 1)), .ref 141]) rfl (fun _ => rfl) ?_
  refine pwl_add E (pc' := 1458) rfl rfl ?_
  refine pwl_sald E (pc' := 1459) rfl hX0 hl (by omega) (by omega) rfl ?_
  have hs10 := pw_s_r xs (i + 2)
  refine pwl_ld E (pc' := 1460) (st' := [.ref 0, pw_i (pw_s xs (i + 2)), pw_i (pw_s xs (i + 1)), .ref 141]) rfl (fun _ => rfl) ?_
  refine pwl_ld E (pc' := 1462) (st' := [pw_i i, .ref 0, pw_i (pw_s xs (i + 2)), pw_i (pw_s xs (i + 1)), .ref 141]) rfl (fun _ => rfl) ?_
  refine pwl_ld E (pc' := 1463) (st' := [pw_i 3, pw_i i, .ref 0, pw_i (pw_s xs (i + 2)), pw_i (pw_s xs (i + 1)), .ref 141]) rfl (fun _ => rfl) ?_
  refine pwl_add E (pc' := 1464) rfl rfl ?_
  refine pwl_sald E (pc' := 1465) rfl hX0 hl (by omega) (by omega) rfl ?_
  have hs11 := pw_s_r xs (i + 3)
  refine pwl_ld E (pc' := 1466) (st' := [.ref 0, pw_i (pw_s xs (i + 3)), pw_i (pw_s xs (i + 2)), pw_i (pw_s xs (i + 1)), .ref 141]) rfl (fun _ => rfl) ?_
  refine pwl_ld E (pc' := 1468) (st' := [pw_i i, .ref 0, pw_i (pw_s xs (i + 3)), pw_i (pw_s xs (i + 2)), pw_i (pw_s xs (i + 1)), .ref 141]) rfl (fun _ => rfl) ?_
  refine pwl_ld E (pc' := 1469) (st' := [pw_i 4, pw_i i, .ref 0, pw_i (pw_s xs (i + 3)), pw_i (pw_s xs (i + 2)), pw_i (pw_s xs (i + 1)), .ref 141]) rfl (fun _ => rfl) ?_
  refine pwl_add E (pc' := 1470) rfl rfl ?_
  refine pwl_sald E (pc' := 1471) rfl hX0 hl (by omega) (by omega) rfl ?_
  have hs12 := pw_s_r xs (i + 4)
  obtain ⟨f13l, f13h, -⟩ := pw_obj (c := 125) h7I rfl
  refine pwl_call (m' := 259) (As := [.ref 141, pw_i (pw_s xs (i + 1)), pw_i (pw_s xs (i + 2)), pw_i (pw_s xs (i + 3)), pw_i (pw_s xs (i + 4))]) (rest := []) (ls'' := [some (.ref 141), some (pw_i (pw_s xs (i + 1))), some (pw_i (pw_s xs (i + 2))), some (pw_i (pw_s xs (i + 3))), some (pw_i (pw_s xs (i + 4)))]) E rfl (fun _ => pwl_iV rfl rfl rfl (pw_cellI f13h rfl)) (rfl : pm_ent 259 = some (5, 5, 12, 0, pmc_259)) (by decide) rfl rfl (cm_259 (by decide) h7I (pw_s xs (i + 1)) (by omega) (by omega) (pw_s xs (i + 2)) (by omega) (by omega) (pw_s xs (i + 3)) (by omega) (by omega) (pw_s xs (i + 4)) (by omega) (by omega) h7K) ?_
  rintro h15 v14 ⟨h15I, h15E, x16, rfl, hx16a, hx16b⟩
  refine ⟨_, rfl, ?_⟩
  have h15K := pw_KE h7I h15E h7K rfl
  have h15L := h15E.1
  show pwl X _ h15 1474 [some (.ref 0), some (.ref 16), some (.ref 141), some (.ref 185), some (pw_i i), a5, a6, a7] [pw_i x16] _
  have h15Tk : pw_PR 2 131 24 h15 := pw_PRE (c := 2) (c' := 131) rfl rfl h7I h15E h7Tk rfl
  have h15Ck : pw_PR 3 135 24 h15 := pw_PRE (c := 3) (c' := 135) rfl rfl h7I h15E h7Ck rfl
  have h15Bk : pw_PR 4 132 24 h15 := pw_PRE (c := 4) (c' := 132) rfl rfl h7I h15E h7Bk rfl
  have h15Wk : pw_PR 5 133 24 h15 := pw_PRE (c := 5) (c' := 133) rfl rfl h7I h15E h7Wk rfl
  have h15Mk : pw_PR 6 134 24 h15 := pw_PRE (c := 6) (c' := 134) rfl rfl h7I h15E h7Mk rfl
  have h15Fk : pw_PR 8 136 24 h15 := pw_PRE (c := 8) (c' := 136) rfl rfl h7I h15E h7Fk rfl
  have h15Rk : pw_PR 9 137 24 h15 := pw_PRE (c := 9) (c' := 137) rfl rfl h7I h15E h7Rk rfl
  have h15Hk : pw_PR 14 162 288 h15 := pw_PRE (c := 14) (c' := 162) rfl rfl h7I h15E h7Hk rfl
  have h15Gk : pw_PR 15 163 288 h15 := pw_PRE (c := 15) (c' := 163) rfl rfl h7I h15E h7Gk rfl
  have h15Tn := pw_TnE h7I h15E h7Tn rfl
  have h15Lc := pw_LcE h7I h15E h7Lc rfl
  have h15Ls := pw_ShsE h7I h15E h7Ls rfl
  have h15Rm := pw_RmE h7I h15E h7Rm rfl
  have h15Ro := pw_RoE h7I h15E h7Ro rfl
  refine pwl_ld E (pc' := 1475) (st' := []) rfl (fun _ => rfl) ?_
  refine pwl_goto E (pc' := 2368) rfl (by decide) ?_
  exact pwl_mono (by omega) (hB h15 (a5) (a6) (a7) h15I h15K h15Tk h15Ck h15Bk h15Wk h15Mk h15Fk h15Rk h15Hk h15Gk h15Tn h15Lc h15Ls h15Rm h15Ro (by omega) (by omega) s5 s6 s7)
set_option maxHeartbeats 4000000 in
theorem lc_21 {X : List (Nat × List Value)} {xs : List Int32} {K : Nat} {h : pm_H} {Q : pm_H → (Option Value ⊕ Unit) → Prop} (hX0 : X[0]? = some (0, xs.map Value.int)) (hl : xs.length ≤ 3584) (hX : pw_Xk X) (hR : pw_Xr X) (I : pw_I h) (hK : pw_K h) (hTk : pw_PR 2 131 24 h) (hCk : pw_PR 3 135 24 h) (hBk : pw_PR 4 132 24 h) (hWk : pw_PR 5 133 24 h) (hMk : pw_PR 6 134 24 h) (hFk : pw_PR 8 136 24 h) (hRk : pw_PR 9 137 24 h) (hHk : pw_PR 14 162 288 h) (hGk : pw_PR 15 163 288 h) (hTn : pw_Tn h) (hLc : pw_Lc h) (hLs : pw_Shs h) (hRm : pw_Rm h) (hRo : pw_Ro h) (i : Int) (hi0 : 0 ≤ i) (hi1 : i + 7 ≤ xs.length) (a5 a6 a7 : Option Value) (s5 : ∀ n, pm_scl n a5 = true) (s6 : ∀ n, pm_scl n a6 = true) (s7 : ∀ n, pm_scl n a7 = true) (hB : ∀ (h' : pm_H) (b5 b6 b7 : Option Value), pw_I h' → pw_K h' → pw_PR 2 131 24 h' → pw_PR 3 135 24 h' → pw_PR 4 132 24 h' → pw_PR 5 133 24 h' → pw_PR 6 134 24 h' → pw_PR 8 136 24 h' → pw_PR 9 137 24 h' → pw_PR 14 162 288 h' → pw_PR 15 163 288 h' → pw_Tn h' → pw_Lc h' → pw_Shs h' → pw_Rm h' → pw_Ro h' → h'.length ≤ h.length + 1 → pm_slt h' ≤ pm_slt h + 1000 → (∀ n, pm_scl n b5 = true) → (∀ n, pm_scl n b6 = true) → (∀ n, pm_scl n b7 = true) → pwl X K h' 2368 [some (.ref 0), some (.ref 16), some (.ref 141), some (.ref 185), some (pw_i i), b5, b6, b7] [] Q) : pwl X (K + 150) h 1478 [some (.ref 0), some (.ref 16), some (.ref 141), some (.ref 185), some (pw_i i), a5, a6, a7] [] Q := by
  have E : pm_ent 309 = some (1, 8, 13, 1, pmc_309) := rfl
  refine pwl_ld E (pc' := 1479) (st' := [.ref 16]) rfl (fun _ => rfl) ?_
  refine pwl_ld E (pc' := 1480) (st' := [.ref 0, .ref 16]) rfl (fun _ => rfl) ?_
  refine pwl_ld E (pc' := 1482) (st' := [pw_i i, .ref 0, .ref 16]) rfl (fun _ => rfl) ?_
  refine pwl_ld E (pc' := 1483) (st' := [pw_i 1, pw_i i, .ref 0, .ref 16]) rfl (fun _ => rfl) ?_
  refine pwl_add E (pc' := 1484) rfl rfl ?_
  refine pwl_sald E (pc' := 1485) rfl hX0 hl (by omega) (by omega) rfl ?_
  have hs1 := pw_s_r xs (i + 1)
  refine pwl_ld E (pc' := 1486) (st' := [.ref 0, pw_i (pw_s xs (i + 1)), .ref 16]) rfl (fun _ => rfl) ?_
  refine pwl_ld E (pc' := 1488) (st' := [pw_i i, .ref 0, pw_i (pw_s xs (i + 1)), .ref 16]) rfl (fun _ => rfl) ?_
  refine pwl_ld E (pc' := 1489) (st' := [pw_i 2, pw_i i, .ref 0, pw_i (pw_s xs (i + 1)), .ref 16]) rfl (fun _ => rfl) ?_
  refine pwl_add E (pc' := 1490) rfl rfl ?_
  refine pwl_sald E (pc' := 1491) rfl hX0 hl (by omega) (by omega) rfl ?_
  have hs2 := pw_s_r xs (i + 2)
  obtain ⟨f3l, f3h, -⟩ := pw_obj (c := 0) I rfl
  refine pwl_call (m' := 145) (As := [.ref 16, pw_i (pw_s xs (i + 1)), pw_i (pw_s xs (i + 2))]) (rest := []) (ls'' := [some (.ref 16), some (pw_i (pw_s xs (i + 1))), some (pw_i (pw_s xs (i + 2)))]) E rfl (fun _ => pwl_iV rfl rfl rfl (pw_cellI f3h rfl)) (rfl : pm_ent 145 = some (3, 3, 11, 2, pmc_145)) (by decide) rfl rfl (cm_145 (by decide) I (pw_s xs (i + 1)) (by omega) (by omega) (pw_s xs (i + 2)) (by omega) (by omega)) ?_
  rintro h5 v4 ⟨h5I, h5E, w6, rfl⟩
  refine ⟨_, rfl, ?_⟩
  have h5K := pw_KE I h5E hK rfl
  have h5L := h5E.1
  show pwl X _ h5 1494 [some (.ref 0), some (.ref 16), some (.ref 141), some (.ref 185), some (pw_i i), a5, a6, a7] [.long w6] _
  have h5Tk : pw_PR 2 131 24 h5 := pw_PRE (c := 2) (c' := 131) rfl rfl I h5E hTk rfl
  have h5Ck : pw_PR 3 135 24 h5 := pw_PRE (c := 3) (c' := 135) rfl rfl I h5E hCk rfl
  have h5Bk : pw_PR 4 132 24 h5 := pw_PRE (c := 4) (c' := 132) rfl rfl I h5E hBk rfl
  have h5Wk : pw_PR 5 133 24 h5 := pw_PRE (c := 5) (c' := 133) rfl rfl I h5E hWk rfl
  have h5Mk : pw_PR 6 134 24 h5 := pw_PRE (c := 6) (c' := 134) rfl rfl I h5E hMk rfl
  have h5Fk : pw_PR 8 136 24 h5 := pw_PRE (c := 8) (c' := 136) rfl rfl I h5E hFk rfl
  have h5Rk : pw_PR 9 137 24 h5 := pw_PRE (c := 9) (c' := 137) rfl rfl I h5E hRk rfl
  have h5Hk : pw_PR 14 162 288 h5 := pw_PRE (c := 14) (c' := 162) rfl rfl I h5E hHk rfl
  have h5Gk : pw_PR 15 163 288 h5 := pw_PRE (c := 15) (c' := 163) rfl rfl I h5E hGk rfl
  have h5Tn := pw_TnE I h5E hTn rfl
  have h5Lc := pw_LcE I h5E hLc rfl
  have h5Ls := pw_ShsE I h5E hLs rfl
  have h5Rm := pw_RmE I h5E hRm rfl
  have h5Ro := pw_RoE I h5E hRo rfl
  refine pwl_ld E (pc' := 1495) (st' := []) rfl (fun _ => rfl) ?_
  refine pwl_ld E (pc' := 1496) (st' := [.ref 141]) rfl (fun _ => rfl) ?_
  refine pwl_ld E (pc' := 1497) (st' := [.ref 0, .ref 141]) rfl (fun _ => rfl) ?_
  refine pwl_ld E (pc' := 1499) (st' := [pw_i i, .ref 0, .ref 141]) rfl (fun _ => rfl) ?_
  refine pwl_ld E (pc' := 1500) (st' := [pw_i 1, pw_i i, .ref 0, .ref 141]) rfl (fun _ => rfl) ?_
  refine pwl_add E (pc' := 1501) rfl rfl ?_
  refine pwl_sald E (pc' := 1502) rfl hX0 hl (by omega) (by omega) rfl ?_
  have hs7 := pw_s_r xs (i + 1)
  refine pwl_ld E (pc' := 1503) (st' := [.ref 0, pw_i (pw_s xs (i + 1)), .ref 141]) rfl (fun _ => rfl) ?_
  refine pwl_ld E (pc' := 1505) (st' := [pw_i i, .ref 0, pw_i (pw_s xs (i + 1)), .ref 141]) rfl (fun _ => rfl) ?_
  refine pwl_ld E (pc' := 1506) (st' := [pw_i 2, pw_i i, .ref 0, pw_i (pw_s xs (i + 1)), .ref 141]) rfl (fun _ => rfl) ?_
  refine pwl_add E (pc' := 1507) rfl rfl ?_
  refine pwl_sald E (pc' := 1508) rfl hX0 hl (by omega) (by omega) rfl ?_
  have hs8 := pw_s_r xs (i + 2)
  obtain ⟨f9l, f9h, -⟩ := pw_obj (c := 125) h5I rfl
  refine pwl_call (m' := 268) (As := [.ref 141, pw_i (pw_s xs (i + 1)), pw_i (pw_s xs (i + 2))]) (rest := []) (ls'' := [some (.ref 141), some (pw_i (pw_s xs (i + 1))), some (pw_i (pw_s xs (i + 2)))]) E rfl (fun _ => pwl_iV rfl rfl rfl (pw_cellI f9h rfl)) (rfl : pm_ent 268 = some (3, 3, 12, 2, pmc_268)) (by decide) rfl rfl (cm_268 (by decide) h5I (pw_s xs (i + 1)) (by omega) (by omega) (pw_s xs (i + 2)) (by omega) (by omega) h5K) ?_
  rintro h11 v10 ⟨h11I, h11E, w12, rfl⟩
  refine ⟨_, rfl, ?_⟩
  have h11K := pw_KE h5I h11E h5K rfl
  have h11L := h11E.1
  show pwl X _ h11 1511 [some (.ref 0), some (.ref 16), some (.ref 141), some (.ref 185), some (pw_i i), a5, a6, a7] [.long w12] _
  have h11Tk : pw_PR 2 131 24 h11 := pw_PRE (c := 2) (c' := 131) rfl rfl h5I h11E h5Tk rfl
  have h11Ck : pw_PR 3 135 24 h11 := pw_PRE (c := 3) (c' := 135) rfl rfl h5I h11E h5Ck rfl
  have h11Bk : pw_PR 4 132 24 h11 := pw_PRE (c := 4) (c' := 132) rfl rfl h5I h11E h5Bk rfl
  have h11Wk : pw_PR 5 133 24 h11 := pw_PRE (c := 5) (c' := 133) rfl rfl h5I h11E h5Wk rfl
  have h11Mk : pw_PR 6 134 24 h11 := pw_PRE (c := 6) (c' := 134) rfl rfl h5I h11E h5Mk rfl
  have h11Fk : pw_PR 8 136 24 h11 := pw_PRE (c := 8) (c' := 136) rfl rfl h5I h11E h5Fk rfl
  have h11Rk : pw_PR 9 137 24 h11 := pw_PRE (c := 9) (c' := 137) rfl rfl h5I h11E h5Rk rfl
  have h11Hk : pw_PR 14 162 288 h11 := pw_PRE (c := 14) (c' := 162) rfl rfl h5I h11E h5Hk rfl
  have h11Gk : pw_PR 15 163 288 h11 := pw_PRE (c := 15) (c' := 163) rfl rfl h5I h11E h5Gk rfl
  have h11Tn := pw_TnE h5I h11E h5Tn rfl
  have h11Lc := pw_LcE h5I h11E h5Lc rfl
  have h11Ls := pw_ShsE h5I h11E h5Ls rfl
  have h11Rm := pw_RmE h5I h11E h5Rm rfl
  have h11Ro := pw_RoE h5I h11E h5Ro rfl
  refine pwl_ld E (pc' := 1512) (st' := []) rfl (fun _ => rfl) ?_
  refine pwl_goto E (pc' := 2368) rfl (by decide) ?_
  exact pwl_mono (by omega) (hB h11 (a5) (a6) (a7) h11I h11K h11Tk h11Ck h11Bk h11Wk h11Mk h11Fk h11Rk h11Hk h11Gk h11Tn h11Lc h11Ls h11Rm h11Ro (by omega) (by omega) s5 s6 s7)
set_option maxHeartbeats 4000000 in
theorem lc_22 {X : List (Nat × List Value)} {xs : List Int32} {K : Nat} {h : pm_H} {Q : pm_H → (Option Value ⊕ Unit) → Prop} (hX0 : X[0]? = some (0, xs.map Value.int)) (hl : xs.length ≤ 3584) (hX : pw_Xk X) (hR : pw_Xr X) (I : pw_I h) (hK : pw_K h) (hTk : pw_PR 2 131 24 h) (hCk : pw_PR 3 135 24 h) (hBk : pw_PR 4 132 24 h) (hWk : pw_PR 5 133 24 h) (hMk : pw_PR 6 134 24 h) (hFk : pw_PR 8 136 24 h) (hRk : pw_PR 9 137 24 h) (hHk : pw_PR 14 162 288 h) (hGk : pw_PR 15 163 288 h) (hTn : pw_Tn h) (hLc : pw_Lc h) (hLs : pw_Shs h) (hRm : pw_Rm h) (hRo : pw_Ro h) (i : Int) (hi0 : 0 ≤ i) (hi1 : i + 7 ≤ xs.length) (a5 a6 a7 : Option Value) (s5 : ∀ n, pm_scl n a5 = true) (s6 : ∀ n, pm_scl n a6 = true) (s7 : ∀ n, pm_scl n a7 = true) (hB : ∀ (h' : pm_H) (b5 b6 b7 : Option Value), pw_I h' → pw_K h' → pw_PR 2 131 24 h' → pw_PR 3 135 24 h' → pw_PR 4 132 24 h' → pw_PR 5 133 24 h' → pw_PR 6 134 24 h' → pw_PR 8 136 24 h' → pw_PR 9 137 24 h' → pw_PR 14 162 288 h' → pw_PR 15 163 288 h' → pw_Tn h' → pw_Lc h' → pw_Shs h' → pw_Rm h' → pw_Ro h' → h'.length ≤ h.length + 1 → pm_slt h' ≤ pm_slt h + 1000 → (∀ n, pm_scl n b5 = true) → (∀ n, pm_scl n b6 = true) → (∀ n, pm_scl n b7 = true) → pwl X K h' 2368 [some (.ref 0), some (.ref 16), some (.ref 141), some (.ref 185), some (pw_i i), b5, b6, b7] [] Q) : pwl X (K + 150) h 1515 [some (.ref 0), some (.ref 16), some (.ref 141), some (.ref 185), some (pw_i i), a5, a6, a7] [] Q := by
  have E : pm_ent 309 = some (1, 8, 13, 1, pmc_309) := rfl
  refine pwl_ld E (pc' := 1516) (st' := [.ref 16]) rfl (fun _ => rfl) ?_
  refine pwl_ld E (pc' := 1517) (st' := [.ref 0, .ref 16]) rfl (fun _ => rfl) ?_
  refine pwl_ld E (pc' := 1519) (st' := [pw_i i, .ref 0, .ref 16]) rfl (fun _ => rfl) ?_
  refine pwl_ld E (pc' := 1520) (st' := [pw_i 1, pw_i i, .ref 0, .ref 16]) rfl (fun _ => rfl) ?_
  refine pwl_add E (pc' := 1521) rfl rfl ?_
  refine pwl_sald E (pc' := 1522) rfl hX0 hl (by omega) (by omega) rfl ?_
  have hs1 := pw_s_r xs (i + 1)
  obtain ⟨f2l, f2h, -⟩ := pw_obj (c := 0) I rfl
  refine pwl_call (m' := 148) (As := [.ref 16, pw_i (pw_s xs (i + 1))]) (rest := []) (ls'' := [some (.ref 16), some (pw_i (pw_s xs (i + 1))), none, none, none, none, none, none]) E rfl (fun _ => pwl_iV rfl rfl rfl (pw_cellI f2h rfl)) (rfl : pm_ent 148 = some (2, 8, 11, 0, pmc_148)) (by decide) rfl rfl (cm_148 (by decide) I (pw_s xs (i + 1)) (by omega) (by omega)) ?_
  rintro h4 v3 ⟨h4I, h4E, x5, rfl, hx5a, hx5b⟩
  refine ⟨_, rfl, ?_⟩
  have h4K := pw_KE I h4E hK rfl
  have h4L := h4E.1
  show pwl X _ h4 1525 [some (.ref 0), some (.ref 16), some (.ref 141), some (.ref 185), some (pw_i i), a5, a6, a7] [pw_i x5] _
  have h4Tk : pw_PR 2 131 24 h4 := pw_PRE (c := 2) (c' := 131) rfl rfl I h4E hTk rfl
  have h4Ck : pw_PR 3 135 24 h4 := pw_PRE (c := 3) (c' := 135) rfl rfl I h4E hCk rfl
  have h4Bk : pw_PR 4 132 24 h4 := pw_PRE (c := 4) (c' := 132) rfl rfl I h4E hBk rfl
  have h4Wk : pw_PR 5 133 24 h4 := pw_PRE (c := 5) (c' := 133) rfl rfl I h4E hWk rfl
  have h4Mk : pw_PR 6 134 24 h4 := pw_PRE (c := 6) (c' := 134) rfl rfl I h4E hMk rfl
  have h4Fk : pw_PR 8 136 24 h4 := pw_PRE (c := 8) (c' := 136) rfl rfl I h4E hFk rfl
  have h4Rk : pw_PR 9 137 24 h4 := pw_PRE (c := 9) (c' := 137) rfl rfl I h4E hRk rfl
  have h4Hk : pw_PR 14 162 288 h4 := pw_PRE (c := 14) (c' := 162) rfl rfl I h4E hHk rfl
  have h4Gk : pw_PR 15 163 288 h4 := pw_PRE (c := 15) (c' := 163) rfl rfl I h4E hGk rfl
  have h4Tn := pw_TnE I h4E hTn rfl
  have h4Lc := pw_LcE I h4E hLc rfl
  have h4Ls := pw_ShsE I h4E hLs rfl
  have h4Rm := pw_RmE I h4E hRm rfl
  have h4Ro := pw_RoE I h4E hRo rfl
  refine pwl_ld E (pc' := 1526) (st' := []) rfl (fun _ => rfl) ?_
  refine pwl_ld E (pc' := 1527) (st' := [.ref 141]) rfl (fun _ => rfl) ?_
  refine pwl_ld E (pc' := 1528) (st' := [.ref 0, .ref 141]) rfl (fun _ => rfl) ?_
  refine pwl_ld E (pc' := 1530) (st' := [pw_i i, .ref 0, .ref 141]) rfl (fun _ => rfl) ?_
  refine pwl_ld E (pc' := 1531) (st' := [pw_i 1, pw_i i, .ref 0, .ref 141]) rfl (fun _ => rfl) ?_
  refine pwl_add E (pc' := 1532) rfl rfl ?_
  refine pwl_sald E (pc' := 1533) rfl hX0 hl (by omega) (by omega) rfl ?_
  have hs6 := pw_s_r xs (i + 1)
  obtain ⟨f7l, f7h, -⟩ := pw_obj (c := 125) h4I rfl
  refine pwl_call (m' := 271) (As := [.ref 141, pw_i (pw_s xs (i + 1))]) (rest := []) (ls'' := [some (.ref 141), some (pw_i (pw_s xs (i + 1))), none, none, none, none, none, none]) E rfl (fun _ => pwl_iV rfl rfl rfl (pw_cellI f7h rfl)) (rfl : pm_ent 271 = some (2, 8, 12, 0, pmc_271)) (by decide) rfl rfl (cm_271 (by decide) h4I (pw_s xs (i + 1)) (by omega) (by omega) h4K) ?_
  rintro h9 v8 ⟨h9I, h9E, x10, rfl, hx10a, hx10b⟩
  refine ⟨_, rfl, ?_⟩
  have h9K := pw_KE h4I h9E h4K rfl
  have h9L := h9E.1
  show pwl X _ h9 1536 [some (.ref 0), some (.ref 16), some (.ref 141), some (.ref 185), some (pw_i i), a5, a6, a7] [pw_i x10] _
  have h9Tk : pw_PR 2 131 24 h9 := pw_PRE (c := 2) (c' := 131) rfl rfl h4I h9E h4Tk rfl
  have h9Ck : pw_PR 3 135 24 h9 := pw_PRE (c := 3) (c' := 135) rfl rfl h4I h9E h4Ck rfl
  have h9Bk : pw_PR 4 132 24 h9 := pw_PRE (c := 4) (c' := 132) rfl rfl h4I h9E h4Bk rfl
  have h9Wk : pw_PR 5 133 24 h9 := pw_PRE (c := 5) (c' := 133) rfl rfl h4I h9E h4Wk rfl
  have h9Mk : pw_PR 6 134 24 h9 := pw_PRE (c := 6) (c' := 134) rfl rfl h4I h9E h4Mk rfl
  have h9Fk : pw_PR 8 136 24 h9 := pw_PRE (c := 8) (c' := 136) rfl rfl h4I h9E h4Fk rfl
  have h9Rk : pw_PR 9 137 24 h9 := pw_PRE (c := 9) (c' := 137) rfl rfl h4I h9E h4Rk rfl
  have h9Hk : pw_PR 14 162 288 h9 := pw_PRE (c := 14) (c' := 162) rfl rfl h4I h9E h4Hk rfl
  have h9Gk : pw_PR 15 163 288 h9 := pw_PRE (c := 15) (c' := 163) rfl rfl h4I h9E h4Gk rfl
  have h9Tn := pw_TnE h4I h9E h4Tn rfl
  have h9Lc := pw_LcE h4I h9E h4Lc rfl
  have h9Ls := pw_ShsE h4I h9E h4Ls rfl
  have h9Rm := pw_RmE h4I h9E h4Rm rfl
  have h9Ro := pw_RoE h4I h9E h4Ro rfl
  refine pwl_ld E (pc' := 1537) (st' := []) rfl (fun _ => rfl) ?_
  refine pwl_goto E (pc' := 2368) rfl (by decide) ?_
  exact pwl_mono (by omega) (hB h9 (a5) (a6) (a7) h9I h9K h9Tk h9Ck h9Bk h9Wk h9Mk h9Fk h9Rk h9Hk h9Gk h9Tn h9Lc h9Ls h9Rm h9Ro (by omega) (by omega) s5 s6 s7)
set_option maxHeartbeats 4000000 in
theorem lc_23 {X : List (Nat × List Value)} {xs : List Int32} {K : Nat} {h : pm_H} {Q : pm_H → (Option Value ⊕ Unit) → Prop} (hX0 : X[0]? = some (0, xs.map Value.int)) (hl : xs.length ≤ 3584) (hX : pw_Xk X) (hR : pw_Xr X) (I : pw_I h) (hK : pw_K h) (hTk : pw_PR 2 131 24 h) (hCk : pw_PR 3 135 24 h) (hBk : pw_PR 4 132 24 h) (hWk : pw_PR 5 133 24 h) (hMk : pw_PR 6 134 24 h) (hFk : pw_PR 8 136 24 h) (hRk : pw_PR 9 137 24 h) (hHk : pw_PR 14 162 288 h) (hGk : pw_PR 15 163 288 h) (hTn : pw_Tn h) (hLc : pw_Lc h) (hLs : pw_Shs h) (hRm : pw_Rm h) (hRo : pw_Ro h) (i : Int) (hi0 : 0 ≤ i) (hi1 : i + 7 ≤ xs.length) (a5 a6 a7 : Option Value) (s5 : ∀ n, pm_scl n a5 = true) (s6 : ∀ n, pm_scl n a6 = true) (s7 : ∀ n, pm_scl n a7 = true) (hB : ∀ (h' : pm_H) (b5 b6 b7 : Option Value), pw_I h' → pw_K h' → pw_PR 2 131 24 h' → pw_PR 3 135 24 h' → pw_PR 4 132 24 h' → pw_PR 5 133 24 h' → pw_PR 6 134 24 h' → pw_PR 8 136 24 h' → pw_PR 9 137 24 h' → pw_PR 14 162 288 h' → pw_PR 15 163 288 h' → pw_Tn h' → pw_Lc h' → pw_Shs h' → pw_Rm h' → pw_Ro h' → h'.length ≤ h.length + 1 → pm_slt h' ≤ pm_slt h + 1000 → (∀ n, pm_scl n b5 = true) → (∀ n, pm_scl n b6 = true) → (∀ n, pm_scl n b7 = true) → pwl X K h' 2368 [some (.ref 0), some (.ref 16), some (.ref 141), some (.ref 185), some (pw_i i), b5, b6, b7] [] Q) : pwl X (K + 150) h 1540 [some (.ref 0), some (.ref 16), some (.ref 141), some (.ref 185), some (pw_i i), a5, a6, a7] [] Q := by
  have E : pm_ent 309 = some (1, 8, 13, 1, pmc_309) := rfl
  refine pwl_ld E (pc' := 1541) (st' := [.ref 16]) rfl (fun _ => rfl) ?_
  refine pwl_ld E (pc' := 1542) (st' := [.ref 0, .ref 16]) rfl (fun _ => rfl) ?_
  refine pwl_ld E (pc' := 1544) (st' := [pw_i i, .ref 0, .ref 16]) rfl (fun _ => rfl) ?_
  refine pwl_ld E (pc' := 1545) (st' := [pw_i 1, pw_i i, .ref 0, .ref 16]) rfl (fun _ => rfl) ?_
  refine pwl_add E (pc' := 1546) rfl rfl ?_
  refine pwl_sald E (pc' := 1547) rfl hX0 hl (by omega) (by omega) rfl ?_
  have hs1 := pw_s_r xs (i + 1)
  refine pwl_ld E (pc' := 1548) (st' := [.ref 0, pw_i (pw_s xs (i + 1)), .ref 16]) rfl (fun _ => rfl) ?_
  refine pwl_ld E (pc' := 1550) (st' := [pw_i i, .ref 0, pw_i (pw_s xs (i + 1)), .ref 16]) rfl (fun _ => rfl) ?_
  refine pwl_ld E (pc' := 1551) (st' := [pw_i 2, pw_i i, .ref 0, pw_i (pw_s xs (i + 1)), .ref 16]) rfl (fun _ => rfl) ?_
  refine pwl_add E (pc' := 1552) rfl rfl ?_
  refine pwl_sald E (pc' := 1553) rfl hX0 hl (by omega) (by omega) rfl ?_
  have hs2 := pw_s_r xs (i + 2)
  refine pwl_ld E (pc' := 1554) (st' := [.ref 0, pw_i (pw_s xs (i + 2)), pw_i (pw_s xs (i + 1)), .ref 16]) rfl (fun _ => rfl) ?_
  refine pwl_ld E (pc' := 1556) (st' := [pw_i i, .ref 0, pw_i (pw_s xs (i + 2)), pw_i (pw_s xs (i + 1)), .ref 16]) rfl (fun _ => rfl) ?_
  refine pwl_ld E (pc' := 1557) (st' := [pw_i 3, pw_i i, .ref 0, pw_i (pw_s xs (i + 2)), pw_i (pw_s xs (i + 1)), .ref 16]) rfl (fun _ => rfl) ?_
  refine pwl_add E (pc' := 1558) rfl rfl ?_
  refine pwl_sald E (pc' := 1559) rfl hX0 hl (by omega) (by omega) rfl ?_
  have hs3 := pw_s_r xs (i + 3)
  refine pwl_ld E (pc' := 1560) (st' := [.ref 0, pw_i (pw_s xs (i + 3)), pw_i (pw_s xs (i + 2)), pw_i (pw_s xs (i + 1)), .ref 16]) rfl (fun _ => rfl) ?_
  refine pwl_ld E (pc' := 1562) (st' := [pw_i i, .ref 0, pw_i (pw_s xs (i + 3)), pw_i (pw_s xs (i + 2)), pw_i (pw_s xs (i + 1)), .ref 16]) rfl (fun _ => rfl) ?_
  refine pwl_ld E (pc' := 1563) (st' := [pw_i 4, pw_i i, .ref 0, pw_i (pw_s xs (i + 3)), pw_i (pw_s xs (i + 2)), pw_i (pw_s xs (i + 1)), .ref 16]) rfl (fun _ => rfl) ?_
  refine pwl_add E (pc' := 1564) rfl rfl ?_
  refine pwl_sald E (pc' := 1565) rfl hX0 hl (by omega) (by omega) rfl ?_
  have hs4 := pw_s_r xs (i + 4)
  refine pwl_ld E (pc' := 1566) (st' := [.ref 0, pw_i (pw_s xs (i + 4)), pw_i (pw_s xs (i + 3)), pw_i (pw_s xs (i + 2)), pw_i (pw_s xs (i + 1)), .ref 16]) rfl (fun _ => rfl) ?_
  refine pwl_ld E (pc' := 1568) (st' := [pw_i i, .ref 0, pw_i (pw_s xs (i + 4)), pw_i (pw_s xs (i + 3)), pw_i (pw_s xs (i + 2)), pw_i (pw_s xs (i + 1)), .ref 16]) rfl (fun _ => rfl) ?_
  refine pwl_ld E (pc' := 1569) (st' := [pw_i 5, pw_i i, .ref 0, pw_i (pw_s xs (i + 4)), pw_i (pw_s xs (i + 3)), pw_i (pw_s xs (i + 2)), pw_i (pw_s xs (i + 1)), .ref 16]) rfl (fun _ => rfl) ?_
  refine pwl_add E (pc' := 1570) rfl rfl ?_
  refine pwl_sald E (pc' := 1571) rfl hX0 hl (by omega) (by omega) rfl ?_
  have hs5 := pw_s_r xs (i + 5)
  obtain ⟨f6l, f6h, -⟩ := pw_obj (c := 0) I rfl
  refine pwl_call (m' := 149) (As := [.ref 16, pw_i (pw_s xs (i + 1)), pw_i (pw_s xs (i + 2)), pw_i (pw_s xs (i + 3)), pw_i (pw_s xs (i + 4)), pw_i (pw_s xs (i + 5))]) (rest := []) (ls'' := [some (.ref 16), some (pw_i (pw_s xs (i + 1))), some (pw_i (pw_s xs (i + 2))), some (pw_i (pw_s xs (i + 3))), some (pw_i (pw_s xs (i + 4))), some (pw_i (pw_s xs (i + 5))), none, none]) E rfl (fun _ => pwl_iV rfl rfl rfl (pw_cellI f6h rfl)) (rfl : pm_ent 149 = some (6, 8, 11, 0, pmc_149)) (by decide) rfl rfl (cm_149 (by decide) I (pw_s xs (i + 1)) (by omega) (by omega) (pw_s xs (i + 2)) (by omega) (by omega) (pw_s xs (i + 3)) (by omega) (by omega) (pw_s xs (i + 4)) (by omega) (by omega) (pw_s xs (i + 5)) (by omega) (by omega)) ?_
  rintro h8 v7 ⟨h8I, h8E, x9, rfl, hx9a, hx9b⟩
  refine ⟨_, rfl, ?_⟩
  have h8K := pw_KE I h8E hK rfl
  have h8L := h8E.1
  show pwl X _ h8 1574 [some (.ref 0), some (.ref 16), some (.ref 141), some (.ref 185), some (pw_i i), a5, a6, a7] [pw_i x9] _
  have h8Tk : pw_PR 2 131 24 h8 := pw_PRE (c := 2) (c' := 131) rfl rfl I h8E hTk rfl
  have h8Ck : pw_PR 3 135 24 h8 := pw_PRE (c := 3) (c' := 135) rfl rfl I h8E hCk rfl
  have h8Bk : pw_PR 4 132 24 h8 := pw_PRE (c := 4) (c' := 132) rfl rfl I h8E hBk rfl
  have h8Wk : pw_PR 5 133 24 h8 := pw_PRE (c := 5) (c' := 133) rfl rfl I h8E hWk rfl
  have h8Mk : pw_PR 6 134 24 h8 := pw_PRE (c := 6) (c' := 134) rfl rfl I h8E hMk rfl
  have h8Fk : pw_PR 8 136 24 h8 := pw_PRE (c := 8) (c' := 136) rfl rfl I h8E hFk rfl
  have h8Rk : pw_PR 9 137 24 h8 := pw_PRE (c := 9) (c' := 137) rfl rfl I h8E hRk rfl
  have h8Hk : pw_PR 14 162 288 h8 := pw_PRE (c := 14) (c' := 162) rfl rfl I h8E hHk rfl
  have h8Gk : pw_PR 15 163 288 h8 := pw_PRE (c := 15) (c' := 163) rfl rfl I h8E hGk rfl
  have h8Tn := pw_TnE I h8E hTn rfl
  have h8Lc := pw_LcE I h8E hLc rfl
  have h8Ls := pw_ShsE I h8E hLs rfl
  have h8Rm := pw_RmE I h8E hRm rfl
  have h8Ro := pw_RoE I h8E hRo rfl
  refine pwl_ld E (pc' := 1575) (st' := []) rfl (fun _ => rfl) ?_
  refine pwl_ld E (pc' := 1576) (st' := [.ref 141]) rfl (fun _ => rfl) ?_
  refine pwl_ld E (pc' := 1577) (st' := [.ref 0, .ref 141]) rfl (fun _ => rfl) ?_
  refine pwl_ld E (pc' := 1579) (st' := [pw_i i, .ref 0, .ref 141]) rfl (fun _ => rfl) ?_
  refine pwl_ld E (pc' := 1580) (st' := [pw_i 1, pw_i i, .ref 0, .ref 141]) rfl (fun _ => rfl) ?_
  refine pwl_add E (pc' := 1581) rfl rfl ?_
  refine pwl_sald E (pc' := 1582) rfl hX0 hl (by omega) (by omega) rfl ?_
  have hs10 := pw_s_r xs (i + 1)
  refine pwl_ld E (pc' := 1583) (st' := [.ref 0, pw_i (pw_s xs (i + 1)), .ref 141]) rfl (fun _ => rfl) ?_
  refine pwl_ld E (pc' := 1585) (st' := [pw_i i, .ref 0, pw_i (pw_s xs (i + 1)), .ref 141]) rfl (fun _ => rfl) ?_
  refine pwl_ld E (pc' := 1586) (st' := [pw_i 2, pw_i i, .ref 0, pw_i (pw_s xs (i + 1)), .ref 141]) rfl (fun _ => rfl) ?_
  refine pwl_add E (pc' := 1587) rfl rfl ?_
  refine pwl_sald E (pc' := 1588) rfl hX0 hl (by omega) (by omega) rfl ?_
  have hs11 := pw_s_r xs (i + 2)
  refine pwl_ld E (pc' := 1589) (st' := [.ref 0, pw_i (pw_s xs (i + 2)), pw_i (pw_s xs (i + 1)), .ref 141]) rfl (fun _ => rfl) ?_
  refine pwl_ld E (pc' := 1591) (st' := [pw_i i, .ref 0, pw_i (pw_s xs (i + 2)), pw_i (pw_s xs (i + 1)), .ref 141]) rfl (fun _ => rfl) ?_
  refine pwl_ld E (pc' := 1592) (st' := [pw_i 3, pw_i i, .ref 0, pw_i (pw_s xs (i + 2)), pw_i (pw_s xs (i + 1)), .ref 141]) rfl (fun _ => rfl) ?_
  refine pwl_add E (pc' := 1593) rfl rfl ?_
  refine pwl_sald E (pc' := 1594) rfl hX0 hl (by omega) (by omega) rfl ?_
  have hs12 := pw_s_r xs (i + 3)
  refine pwl_ld E (pc' := 1595) (st' := [.ref 0, pw_i (pw_s xs (i + 3)), pw_i (pw_s xs (i + 2)), pw_i (pw_s xs (i + 1)), .ref 141]) rfl (fun _ => rfl) ?_
  refine pwl_ld E (pc' := 1597) (st' := [pw_i i, .ref 0, pw_i (pw_s xs (i + 3)), pw_i (pw_s xs (i + 2)), pw_i (pw_s xs (i + 1)), .ref 141]) rfl (fun _ => rfl) ?_
  refine pwl_ld E (pc' := 1598) (st' := [pw_i 4, pw_i i, .ref 0, pw_i (pw_s xs (i + 3)), pw_i (pw_s xs (i + 2)), pw_i (pw_s xs (i + 1)), .ref 141]) rfl (fun _ => rfl) ?_
  refine pwl_add E (pc' := 1599) rfl rfl ?_
  refine pwl_sald E (pc' := 1600) rfl hX0 hl (by omega) (by omega) rfl ?_
  have hs13 := pw_s_r xs (i + 4)
  refine pwl_ld E (pc' := 1601) (st' := [.ref 0, pw_i (pw_s xs (i + 4)), pw_i (pw_s xs (i + 3)), pw_i (pw_s xs (i + 2)), pw_i (pw_s xs (i + 1)), .ref 141]) rfl (fun _ => rfl) ?_
  refine pwl_ld E (pc' := 1603) (st' := [pw_i i, .ref 0, pw_i (pw_s xs (i + 4)), pw_i (pw_s xs (i + 3)), pw_i (pw_s xs (i + 2)), pw_i (pw_s xs (i + 1)), .ref 141]) rfl (fun _ => rfl) ?_
  refine pwl_ld E (pc' := 1604) (st' := [pw_i 5, pw_i i, .ref 0, pw_i (pw_s xs (i + 4)), pw_i (pw_s xs (i + 3)), pw_i (pw_s xs (i + 2)), pw_i (pw_s xs (i + 1)), .ref 141]) rfl (fun _ => rfl) ?_
  refine pwl_add E (pc' := 1605) rfl rfl ?_
  refine pwl_sald E (pc' := 1606) rfl hX0 hl (by omega) (by omega) rfl ?_
  have hs14 := pw_s_r xs (i + 5)
  obtain ⟨f15l, f15h, -⟩ := pw_obj (c := 125) h8I rfl
  refine pwl_call (m' := 272) (As := [.ref 141, pw_i (pw_s xs (i + 1)), pw_i (pw_s xs (i + 2)), pw_i (pw_s xs (i + 3)), pw_i (pw_s xs (i + 4)), pw_i (pw_s xs (i + 5))]) (rest := []) (ls'' := [some (.ref 141), some (pw_i (pw_s xs (i + 1))), some (pw_i (pw_s xs (i + 2))), some (pw_i (pw_s xs (i + 3))), some (pw_i (pw_s xs (i + 4))), some (pw_i (pw_s xs (i + 5))), none, none, none]) E rfl (fun _ => pwl_iV rfl rfl rfl (pw_cellI f15h rfl)) (rfl : pm_ent 272 = some (6, 9, 12, 0, pmc_272)) (by decide) rfl rfl (cm_272 (by decide) h8I (pw_s xs (i + 1)) (by omega) (by omega) (pw_s xs (i + 2)) (by omega) (by omega) (pw_s xs (i + 3)) (by omega) (by omega) (pw_s xs (i + 4)) (by omega) (by omega) (pw_s xs (i + 5)) (by omega) (by omega) h8K) ?_
  rintro h17 v16 ⟨h17I, h17E, x18, rfl, hx18a, hx18b⟩
  refine ⟨_, rfl, ?_⟩
  have h17K := pw_KE h8I h17E h8K rfl
  have h17L := h17E.1
  show pwl X _ h17 1609 [some (.ref 0), some (.ref 16), some (.ref 141), some (.ref 185), some (pw_i i), a5, a6, a7] [pw_i x18] _
  have h17Tk : pw_PR 2 131 24 h17 := pw_PRE (c := 2) (c' := 131) rfl rfl h8I h17E h8Tk rfl
  have h17Ck : pw_PR 3 135 24 h17 := pw_PRE (c := 3) (c' := 135) rfl rfl h8I h17E h8Ck rfl
  have h17Bk : pw_PR 4 132 24 h17 := pw_PRE (c := 4) (c' := 132) rfl rfl h8I h17E h8Bk rfl
  have h17Wk : pw_PR 5 133 24 h17 := pw_PRE (c := 5) (c' := 133) rfl rfl h8I h17E h8Wk rfl
  have h17Mk : pw_PR 6 134 24 h17 := pw_PRE (c := 6) (c' := 134) rfl rfl h8I h17E h8Mk rfl
  have h17Fk : pw_PR 8 136 24 h17 := pw_PRE (c := 8) (c' := 136) rfl rfl h8I h17E h8Fk rfl
  have h17Rk : pw_PR 9 137 24 h17 := pw_PRE (c := 9) (c' := 137) rfl rfl h8I h17E h8Rk rfl
  have h17Hk : pw_PR 14 162 288 h17 := pw_PRE (c := 14) (c' := 162) rfl rfl h8I h17E h8Hk rfl
  have h17Gk : pw_PR 15 163 288 h17 := pw_PRE (c := 15) (c' := 163) rfl rfl h8I h17E h8Gk rfl
  have h17Tn := pw_TnE h8I h17E h8Tn rfl
  have h17Lc := pw_LcE h8I h17E h8Lc rfl
  have h17Ls := pw_ShsE h8I h17E h8Ls rfl
  have h17Rm := pw_RmE h8I h17E h8Rm rfl
  have h17Ro := pw_RoE h8I h17E h8Ro rfl
  refine pwl_ld E (pc' := 1610) (st' := []) rfl (fun _ => rfl) ?_
  refine pwl_goto E (pc' := 2368) rfl (by decide) ?_
  exact pwl_mono (by omega) (hB h17 (a5) (a6) (a7) h17I h17K h17Tk h17Ck h17Bk h17Wk h17Mk h17Fk h17Rk h17Hk h17Gk h17Tn h17Lc h17Ls h17Rm h17Ro (by omega) (by omega) s5 s6 s7)
set_option maxHeartbeats 4000000 in
theorem lc_24 {X : List (Nat × List Value)} {xs : List Int32} {K : Nat} {h : pm_H} {Q : pm_H → (Option Value ⊕ Unit) → Prop} (hX0 : X[0]? = some (0, xs.map Value.int)) (hl : xs.length ≤ 3584) (hX : pw_Xk X) (hR : pw_Xr X) (I : pw_I h) (hK : pw_K h) (hTk : pw_PR 2 131 24 h) (hCk : pw_PR 3 135 24 h) (hBk : pw_PR 4 132 24 h) (hWk : pw_PR 5 133 24 h) (hMk : pw_PR 6 134 24 h) (hFk : pw_PR 8 136 24 h) (hRk : pw_PR 9 137 24 h) (hHk : pw_PR 14 162 288 h) (hGk : pw_PR 15 163 288 h) (hTn : pw_Tn h) (hLc : pw_Lc h) (hLs : pw_Shs h) (hRm : pw_Rm h) (hRo : pw_Ro h) (i : Int) (hi0 : 0 ≤ i) (hi1 : i + 7 ≤ xs.length) (a5 a6 a7 : Option Value) (s5 : ∀ n, pm_scl n a5 = true) (s6 : ∀ n, pm_scl n a6 = true) (s7 : ∀ n, pm_scl n a7 = true) (hB : ∀ (h' : pm_H) (b5 b6 b7 : Option Value), pw_I h' → pw_K h' → pw_PR 2 131 24 h' → pw_PR 3 135 24 h' → pw_PR 4 132 24 h' → pw_PR 5 133 24 h' → pw_PR 6 134 24 h' → pw_PR 8 136 24 h' → pw_PR 9 137 24 h' → pw_PR 14 162 288 h' → pw_PR 15 163 288 h' → pw_Tn h' → pw_Lc h' → pw_Shs h' → pw_Rm h' → pw_Ro h' → h'.length ≤ h.length + 1 → pm_slt h' ≤ pm_slt h + 1000 → (∀ n, pm_scl n b5 = true) → (∀ n, pm_scl n b6 = true) → (∀ n, pm_scl n b7 = true) → pwl X K h' 2368 [some (.ref 0), some (.ref 16), some (.ref 141), some (.ref 185), some (pw_i i), b5, b6, b7] [] Q) : pwl X (K + 150) h 1613 [some (.ref 0), some (.ref 16), some (.ref 141), some (.ref 185), some (pw_i i), a5, a6, a7] [] Q := by
  have E : pm_ent 309 = some (1, 8, 13, 1, pmc_309) := rfl
  refine pwl_ld E (pc' := 1614) (st' := [.ref 16]) rfl (fun _ => rfl) ?_
  refine pwl_ld E (pc' := 1615) (st' := [.ref 0, .ref 16]) rfl (fun _ => rfl) ?_
  refine pwl_ld E (pc' := 1617) (st' := [pw_i i, .ref 0, .ref 16]) rfl (fun _ => rfl) ?_
  refine pwl_ld E (pc' := 1618) (st' := [pw_i 1, pw_i i, .ref 0, .ref 16]) rfl (fun _ => rfl) ?_
  refine pwl_add E (pc' := 1619) rfl rfl ?_
  refine pwl_sald E (pc' := 1620) rfl hX0 hl (by omega) (by omega) rfl ?_
  have hs1 := pw_s_r xs (i + 1)
  refine pwl_ld E (pc' := 1621) (st' := [.ref 0, pw_i (pw_s xs (i + 1)), .ref 16]) rfl (fun _ => rfl) ?_
  refine pwl_ld E (pc' := 1623) (st' := [pw_i i, .ref 0, pw_i (pw_s xs (i + 1)), .ref 16]) rfl (fun _ => rfl) ?_
  refine pwl_ld E (pc' := 1624) (st' := [pw_i 2, pw_i i, .ref 0, pw_i (pw_s xs (i + 1)), .ref 16]) rfl (fun _ => rfl) ?_
  refine pwl_add E (pc' := 1625) rfl rfl ?_
  refine pwl_sald E (pc' := 1626) rfl hX0 hl (by omega) (by omega) rfl ?_
  have hs2 := pw_s_r xs (i + 2)
  refine pwl_ld E (pc' := 1627) (st' := [.ref 0, pw_i (pw_s xs (i + 2)), pw_i (pw_s xs (i + 1)), .ref 16]) rfl (fun _ => rfl) ?_
  refine pwl_ld E (pc' := 1629) (st' := [pw_i i, .ref 0, pw_i (pw_s xs (i + 2)), pw_i (pw_s xs (i + 1)), .ref 16]) rfl (fun _ => rfl) ?_
  refine pwl_ld E (pc' := 1630) (st' := [pw_i 3, pw_i i, .ref 0, pw_i (pw_s xs (i + 2)), pw_i (pw_s xs (i + 1)), .ref 16]) rfl (fun _ => rfl) ?_
  refine pwl_add E (pc' := 1631) rfl rfl ?_
  refine pwl_sald E (pc' := 1632) rfl hX0 hl (by omega) (by omega) rfl ?_
  have hs3 := pw_s_r xs (i + 3)
  refine pwl_if E (pc' := 1639) rfl (by decide) (by omega) (by omega) ?_ ?_
  · intro hc4
    have hc4 : pw_s xs (i + 3) = (0 : Int) := hc4
    refine pwl_ld E (pc' := 1640) (st' := [pw_i 0, pw_i (pw_s xs (i + 2)), pw_i (pw_s xs (i + 1)), .ref 16]) rfl (fun _ => rfl) ?_
    obtain ⟨f5l, f5h, -⟩ := pw_obj (c := 0) I rfl
    refine pwl_call (m' := 151) (As := [.ref 16, pw_i (pw_s xs (i + 1)), pw_i (pw_s xs (i + 2)), pw_i 0]) (rest := []) (ls'' := [some (.ref 16), some (pw_i (pw_s xs (i + 1))), some (pw_i (pw_s xs (i + 2))), some (pw_i 0)]) E rfl (fun _ => pwl_iV rfl rfl rfl (pw_cellI f5h rfl)) (rfl : pm_ent 151 = some (4, 4, 11, 0, pmc_151)) (by decide) rfl rfl (cm_151_o (by decide) I (pw_s xs (i + 1)) (by omega) (by omega) (pw_s xs (i + 2)) (by omega) (by omega) 0 (by decide) (by decide)) ?_
    rintro h7 v6 ⟨h7I, h7E, x8, rfl, hx8a, hx8b, hx8r⟩
    refine ⟨_, rfl, ?_⟩
    have h7K := pw_KE I h7E hK rfl
    have h7L := h7E.1
    show pwl X _ h7 1643 [some (.ref 0), some (.ref 16), some (.ref 141), some (.ref 185), some (pw_i i), a5, a6, a7] [pw_i x8] _
    have hx8r : (((-9999) ≤ (pw_s xs (i + 1)) ∧ (pw_s xs (i + 1)) ≤ 9999 ∧ 1 ≤ (pw_s xs (i + 2)) ∧ (pw_s xs (i + 2)) ≤ 999 ∧ pw_g h 100 3 < 20) ∧ x8 = pw_g h 100 3 ∧ pw_g h7 100 3 = pw_g h 100 3 + 1 ∧ pw_up h h7 101 (pw_g h 100 3) ((pw_s xs (i + 1))) ∧ pw_up h h7 102 (pw_g h 100 3) ((pw_s xs (i + 2))) ∧ pw_up h h7 103 (pw_g h 100 3) (0)) ∨ (¬ ((-9999) ≤ (pw_s xs (i + 1)) ∧ (pw_s xs (i + 1)) ≤ 9999 ∧ 1 ≤ (pw_s xs (i + 2)) ∧ (pw_s xs (i + 2)) ≤ 999 ∧ pw_g h 100 3 < 20) ∧ x8 = -1 ∧ pw_g h7 100 3 = pw_g h 100 3 ∧ pw_sm h h7 101 ∧ pw_sm h h7 102 ∧ pw_sm h h7 103) := hx8r
    have h7Tk : pw_PR 2 131 24 h7 := pw_PRE (c := 2) (c' := 131) rfl rfl I h7E hTk rfl
    have h7Ck : pw_PR 3 135 24 h7 := pw_PRE (c := 3) (c' := 135) rfl rfl I h7E hCk rfl
    have h7Bk : pw_PR 4 132 24 h7 := pw_PRE (c := 4) (c' := 132) rfl rfl I h7E hBk rfl
    have h7Wk : pw_PR 5 133 24 h7 := pw_PRE (c := 5) (c' := 133) rfl rfl I h7E hWk rfl
    have h7Mk : pw_PR 6 134 24 h7 := pw_PRE (c := 6) (c' := 134) rfl rfl I h7E hMk rfl
    have h7Fk : pw_PR 8 136 24 h7 := pw_PRE (c := 8) (c' := 136) rfl rfl I h7E hFk rfl
    have h7Rk : pw_PR 9 137 24 h7 := pw_PRE (c := 9) (c' := 137) rfl rfl I h7E hRk rfl
    have h7Hk : pw_PR 14 162 288 h7 := pw_PRE (c := 14) (c' := 162) rfl rfl I h7E hHk rfl
    have h7Gk : pw_PR 15 163 288 h7 := pw_PRE (c := 15) (c' := 163) rfl rfl I h7E hGk rfl
    have h7Tn := pw_TnE I h7E hTn rfl
    have h7Lc := pw_LcE I h7E hLc rfl
    have h7Ls := pw_ShsE I h7E hLs rfl
    refine pwl_ld E (pc' := 1644) (st' := []) rfl (fun _ => rfl) ?_
    refine pwl_ld E (pc' := 1645) (st' := [.ref 141]) rfl (fun _ => rfl) ?_
    refine pwl_ld E (pc' := 1646) (st' := [.ref 0, .ref 141]) rfl (fun _ => rfl) ?_
    refine pwl_ld E (pc' := 1648) (st' := [pw_i i, .ref 0, .ref 141]) rfl (fun _ => rfl) ?_
    refine pwl_ld E (pc' := 1649) (st' := [pw_i 1, pw_i i, .ref 0, .ref 141]) rfl (fun _ => rfl) ?_
    refine pwl_add E (pc' := 1650) rfl rfl ?_
    refine pwl_sald E (pc' := 1651) rfl hX0 hl (by omega) (by omega) rfl ?_
    have hs9 := pw_s_r xs (i + 1)
    refine pwl_ld E (pc' := 1652) (st' := [.ref 0, pw_i (pw_s xs (i + 1)), .ref 141]) rfl (fun _ => rfl) ?_
    refine pwl_ld E (pc' := 1654) (st' := [pw_i i, .ref 0, pw_i (pw_s xs (i + 1)), .ref 141]) rfl (fun _ => rfl) ?_
    refine pwl_ld E (pc' := 1655) (st' := [pw_i 2, pw_i i, .ref 0, pw_i (pw_s xs (i + 1)), .ref 141]) rfl (fun _ => rfl) ?_
    refine pwl_add E (pc' := 1656) rfl rfl ?_
    refine pwl_sald E (pc' := 1657) rfl hX0 hl (by omega) (by omega) rfl ?_
    have hs10 := pw_s_r xs (i + 2)
    refine pwl_ld E (pc' := 1658) (st' := [.ref 0, pw_i (pw_s xs (i + 2)), pw_i (pw_s xs (i + 1)), .ref 141]) rfl (fun _ => rfl) ?_
    refine pwl_ld E (pc' := 1660) (st' := [pw_i i, .ref 0, pw_i (pw_s xs (i + 2)), pw_i (pw_s xs (i + 1)), .ref 141]) rfl (fun _ => rfl) ?_
    refine pwl_ld E (pc' := 1661) (st' := [pw_i 3, pw_i i, .ref 0, pw_i (pw_s xs (i + 2)), pw_i (pw_s xs (i + 1)), .ref 141]) rfl (fun _ => rfl) ?_
    refine pwl_add E (pc' := 1662) rfl rfl ?_
    refine pwl_sald E (pc' := 1663) rfl hX0 hl (by omega) (by omega) rfl ?_
    have hs11 := pw_s_r xs (i + 3)
    refine pwl_if E (pc' := 1670) rfl (by decide) (by omega) (by omega) ?_ ?_
    · intro hc12
      have hc12 : pw_s xs (i + 3) = (0 : Int) := hc12
      refine pwl_ld E (pc' := 1671) (st' := [pw_i 0, pw_i (pw_s xs (i + 2)), pw_i (pw_s xs (i + 1)), .ref 141]) rfl (fun _ => rfl) ?_
      obtain ⟨f13l, f13h, -⟩ := pw_obj (c := 125) h7I rfl
      refine pwl_call (m' := 273) (As := [.ref 141, pw_i (pw_s xs (i + 1)), pw_i (pw_s xs (i + 2)), pw_i 0]) (rest := []) (ls'' := [some (.ref 141), some (pw_i (pw_s xs (i + 1))), some (pw_i (pw_s xs (i + 2))), some (pw_i 0)]) E rfl (fun _ => pwl_iV rfl rfl rfl (pw_cellI f13h rfl)) (rfl : pm_ent 273 = some (4, 4, 12, 0, pmc_273)) (by decide) rfl rfl (cm_273_o (by decide) h7I (pw_s xs (i + 1)) (by omega) (by omega) (pw_s xs (i + 2)) (by omega) (by omega) 0 (by decide) (by decide)) ?_
      rintro h15 v14 ⟨h15I, h15E, x16, rfl, hx16a, hx16b, hx16r⟩
      refine ⟨_, rfl, ?_⟩
      have h15K := pw_KE h7I h15E h7K rfl
      have h15L := h15E.1
      show pwl X _ h15 1674 [some (.ref 0), some (.ref 16), some (.ref 141), some (.ref 185), some (pw_i i), a5, a6, a7] [pw_i x16] _
      have hx16r : (((-9999) ≤ (pw_s xs (i + 1)) ∧ (pw_s xs (i + 1)) ≤ 9999 ∧ 1 ≤ (pw_s xs (i + 2)) ∧ (pw_s xs (i + 2)) ≤ 999 ∧ pw_g h7 125 41 < 20) ∧ x16 = pw_g h7 125 41 ∧ pw_g h15 125 41 = pw_g h7 125 41 + 1 ∧ pw_up h7 h15 154 (pw_g h7 125 41) ((pw_s xs (i + 1))) ∧ pw_up h7 h15 155 (pw_g h7 125 41) ((pw_s xs (i + 2))) ∧ pw_up h7 h15 156 (pw_g h7 125 41) (0)) ∨ (¬ ((-9999) ≤ (pw_s xs (i + 1)) ∧ (pw_s xs (i + 1)) ≤ 9999 ∧ 1 ≤ (pw_s xs (i + 2)) ∧ (pw_s xs (i + 2)) ≤ 999 ∧ pw_g h7 125 41 < 20) ∧ x16 = -1 ∧ pw_g h15 125 41 = pw_g h7 125 41 ∧ pw_sm h7 h15 154 ∧ pw_sm h7 h15 155 ∧ pw_sm h7 h15 156) := hx16r
      have h15Tk : pw_PR 2 131 24 h15 := pw_PRE (c := 2) (c' := 131) rfl rfl h7I h15E h7Tk rfl
      have h15Ck : pw_PR 3 135 24 h15 := pw_PRE (c := 3) (c' := 135) rfl rfl h7I h15E h7Ck rfl
      have h15Bk : pw_PR 4 132 24 h15 := pw_PRE (c := 4) (c' := 132) rfl rfl h7I h15E h7Bk rfl
      have h15Wk : pw_PR 5 133 24 h15 := pw_PRE (c := 5) (c' := 133) rfl rfl h7I h15E h7Wk rfl
      have h15Mk : pw_PR 6 134 24 h15 := pw_PRE (c := 6) (c' := 134) rfl rfl h7I h15E h7Mk rfl
      have h15Fk : pw_PR 8 136 24 h15 := pw_PRE (c := 8) (c' := 136) rfl rfl h7I h15E h7Fk rfl
      have h15Rk : pw_PR 9 137 24 h15 := pw_PRE (c := 9) (c' := 137) rfl rfl h7I h15E h7Rk rfl
      have h15Hk : pw_PR 14 162 288 h15 := pw_PRE (c := 14) (c' := 162) rfl rfl h7I h15E h7Hk rfl
      have h15Gk : pw_PR 15 163 288 h15 := pw_PRE (c := 15) (c' := 163) rfl rfl h7I h15E h7Gk rfl
      have h15Tn := pw_TnE h7I h15E h7Tn rfl
      have h15Lc := pw_LcE h7I h15E h7Lc rfl
      have h15Ls := pw_ShsE h7I h15E h7Ls rfl
      have z1 : pw_g h15 100 3 = pw_g h7 100 3 := pw_Eg (c := 100) h7I h15E rfl rfl 3
      have z2 : pw_g h7 125 41 = pw_g h 125 41 := pw_Eg (c := 125) I h7E rfl rfl 41
      have z3 : pw_g h 100 3 = pw_g h 125 41 := hRm.1
      have h15M := pw_Ro.oth I h7I h7E h15E hRo z3 z2 hx8r hx16r rfl rfl
      have haa : x8 = x16 := h15M.1
      have h15Ro := h15M.2.2
      have h15Rm : pw_Rm h15 := pw_Rm.oth I h7I h7E h15E hRm h15M.2.1 rfl rfl
      refine pwl_ld E (pc' := 1675) (st' := []) rfl (fun _ => rfl) ?_
      refine pwl_goto E (pc' := 2368) rfl (by decide) ?_
      exact pwl_mono (by omega) (hB h15 (a5) (a6) (a7) h15I h15K h15Tk h15Ck h15Bk h15Wk h15Mk h15Fk h15Rk h15Hk h15Gk h15Tn h15Lc h15Ls h15Rm h15Ro (by omega) (by omega) s5 s6 s7)
    · intro hc17
      have hc17 : ¬ (pw_s xs (i + 3) = (0 : Int)) := hc17
      exfalso; omega
  · intro hc18
    have hc18 : ¬ (pw_s xs (i + 3) = (0 : Int)) := hc18
    refine pwl_ld E (pc' := 1636) (st' := [pw_i 1, pw_i (pw_s xs (i + 2)), pw_i (pw_s xs (i + 1)), .ref 16]) rfl (fun _ => rfl) ?_
    refine pwl_goto E (pc' := 1640) rfl (by decide) ?_
    obtain ⟨f19l, f19h, -⟩ := pw_obj (c := 0) I rfl
    refine pwl_call (m' := 151) (As := [.ref 16, pw_i (pw_s xs (i + 1)), pw_i (pw_s xs (i + 2)), pw_i 1]) (rest := []) (ls'' := [some (.ref 16), some (pw_i (pw_s xs (i + 1))), some (pw_i (pw_s xs (i + 2))), some (pw_i 1)]) E rfl (fun _ => pwl_iV rfl rfl rfl (pw_cellI f19h rfl)) (rfl : pm_ent 151 = some (4, 4, 11, 0, pmc_151)) (by decide) rfl rfl (cm_151_o (by decide) I (pw_s xs (i + 1)) (by omega) (by omega) (pw_s xs (i + 2)) (by omega) (by omega) 1 (by decide) (by decide)) ?_
    rintro h21 v20 ⟨h21I, h21E, x22, rfl, hx22a, hx22b, hx22r⟩
    refine ⟨_, rfl, ?_⟩
    have h21K := pw_KE I h21E hK rfl
    have h21L := h21E.1
    show pwl X _ h21 1643 [some (.ref 0), some (.ref 16), some (.ref 141), some (.ref 185), some (pw_i i), a5, a6, a7] [pw_i x22] _
    have hx22r : (((-9999) ≤ (pw_s xs (i + 1)) ∧ (pw_s xs (i + 1)) ≤ 9999 ∧ 1 ≤ (pw_s xs (i + 2)) ∧ (pw_s xs (i + 2)) ≤ 999 ∧ pw_g h 100 3 < 20) ∧ x22 = pw_g h 100 3 ∧ pw_g h21 100 3 = pw_g h 100 3 + 1 ∧ pw_up h h21 101 (pw_g h 100 3) ((pw_s xs (i + 1))) ∧ pw_up h h21 102 (pw_g h 100 3) ((pw_s xs (i + 2))) ∧ pw_up h h21 103 (pw_g h 100 3) (1)) ∨ (¬ ((-9999) ≤ (pw_s xs (i + 1)) ∧ (pw_s xs (i + 1)) ≤ 9999 ∧ 1 ≤ (pw_s xs (i + 2)) ∧ (pw_s xs (i + 2)) ≤ 999 ∧ pw_g h 100 3 < 20) ∧ x22 = -1 ∧ pw_g h21 100 3 = pw_g h 100 3 ∧ pw_sm h h21 101 ∧ pw_sm h h21 102 ∧ pw_sm h h21 103) := hx22r
    have h21Tk : pw_PR 2 131 24 h21 := pw_PRE (c := 2) (c' := 131) rfl rfl I h21E hTk rfl
    have h21Ck : pw_PR 3 135 24 h21 := pw_PRE (c := 3) (c' := 135) rfl rfl I h21E hCk rfl
    have h21Bk : pw_PR 4 132 24 h21 := pw_PRE (c := 4) (c' := 132) rfl rfl I h21E hBk rfl
    have h21Wk : pw_PR 5 133 24 h21 := pw_PRE (c := 5) (c' := 133) rfl rfl I h21E hWk rfl
    have h21Mk : pw_PR 6 134 24 h21 := pw_PRE (c := 6) (c' := 134) rfl rfl I h21E hMk rfl
    have h21Fk : pw_PR 8 136 24 h21 := pw_PRE (c := 8) (c' := 136) rfl rfl I h21E hFk rfl
    have h21Rk : pw_PR 9 137 24 h21 := pw_PRE (c := 9) (c' := 137) rfl rfl I h21E hRk rfl
    have h21Hk : pw_PR 14 162 288 h21 := pw_PRE (c := 14) (c' := 162) rfl rfl I h21E hHk rfl
    have h21Gk : pw_PR 15 163 288 h21 := pw_PRE (c := 15) (c' := 163) rfl rfl I h21E hGk rfl
    have h21Tn := pw_TnE I h21E hTn rfl
    have h21Lc := pw_LcE I h21E hLc rfl
    have h21Ls := pw_ShsE I h21E hLs rfl
    refine pwl_ld E (pc' := 1644) (st' := []) rfl (fun _ => rfl) ?_
    refine pwl_ld E (pc' := 1645) (st' := [.ref 141]) rfl (fun _ => rfl) ?_
    refine pwl_ld E (pc' := 1646) (st' := [.ref 0, .ref 141]) rfl (fun _ => rfl) ?_
    refine pwl_ld E (pc' := 1648) (st' := [pw_i i, .ref 0, .ref 141]) rfl (fun _ => rfl) ?_
    refine pwl_ld E (pc' := 1649) (st' := [pw_i 1, pw_i i, .ref 0, .ref 141]) rfl (fun _ => rfl) ?_
    refine pwl_add E (pc' := 1650) rfl rfl ?_
    refine pwl_sald E (pc' := 1651) rfl hX0 hl (by omega) (by omega) rfl ?_
    have hs23 := pw_s_r xs (i + 1)
    refine pwl_ld E (pc' := 1652) (st' := [.ref 0, pw_i (pw_s xs (i + 1)), .ref 141]) rfl (fun _ => rfl) ?_
    refine pwl_ld E (pc' := 1654) (st' := [pw_i i, .ref 0, pw_i (pw_s xs (i + 1)), .ref 141]) rfl (fun _ => rfl) ?_
    refine pwl_ld E (pc' := 1655) (st' := [pw_i 2, pw_i i, .ref 0, pw_i (pw_s xs (i + 1)), .ref 141]) rfl (fun _ => rfl) ?_
    refine pwl_add E (pc' := 1656) rfl rfl ?_
    refine pwl_sald E (pc' := 1657) rfl hX0 hl (by omega) (by omega) rfl ?_
    have hs24 := pw_s_r xs (i + 2)
    refine pwl_ld E (pc' := 1658) (st' := [.ref 0, pw_i (pw_s xs (i + 2)), pw_i (pw_s xs (i + 1)), .ref 141]) rfl (fun _ => rfl) ?_
    refine pwl_ld E (pc' := 1660) (st' := [pw_i i, .ref 0, pw_i (pw_s xs (i + 2)), pw_i (pw_s xs (i + 1)), .ref 141]) rfl (fun _ => rfl) ?_
    refine pwl_ld E (pc' := 1661) (st' := [pw_i 3, pw_i i, .ref 0, pw_i (pw_s xs (i + 2)), pw_i (pw_s xs (i + 1)), .ref 141]) rfl (fun _ => rfl) ?_
    refine pwl_add E (pc' := 1662) rfl rfl ?_
    refine pwl_sald E (pc' := 1663) rfl hX0 hl (by omega) (by omega) rfl ?_
    have hs25 := pw_s_r xs (i + 3)
    refine pwl_if E (pc' := 1670) rfl (by decide) (by omega) (by omega) ?_ ?_
    · intro hc26
      have hc26 : pw_s xs (i + 3) = (0 : Int) := hc26
      exfalso; omega
    · intro hc27
      have hc27 : ¬ (pw_s xs (i + 3) = (0 : Int)) := hc27
      refine pwl_ld E (pc' := 1667) (st' := [pw_i 1, pw_i (pw_s xs (i + 2)), pw_i (pw_s xs (i + 1)), .ref 141]) rfl (fun _ => rfl) ?_
      refine pwl_goto E (pc' := 1671) rfl (by decide) ?_
      obtain ⟨f28l, f28h, -⟩ := pw_obj (c := 125) h21I rfl
      refine pwl_call (m' := 273) (As := [.ref 141, pw_i (pw_s xs (i + 1)), pw_i (pw_s xs (i + 2)), pw_i 1]) (rest := []) (ls'' := [some (.ref 141), some (pw_i (pw_s xs (i + 1))), some (pw_i (pw_s xs (i + 2))), some (pw_i 1)]) E rfl (fun _ => pwl_iV rfl rfl rfl (pw_cellI f28h rfl)) (rfl : pm_ent 273 = some (4, 4, 12, 0, pmc_273)) (by decide) rfl rfl (cm_273_o (by decide) h21I (pw_s xs (i + 1)) (by omega) (by omega) (pw_s xs (i + 2)) (by omega) (by omega) 1 (by decide) (by decide)) ?_
      rintro h30 v29 ⟨h30I, h30E, x31, rfl, hx31a, hx31b, hx31r⟩
      refine ⟨_, rfl, ?_⟩
      have h30K := pw_KE h21I h30E h21K rfl
      have h30L := h30E.1
      show pwl X _ h30 1674 [some (.ref 0), some (.ref 16), some (.ref 141), some (.ref 185), some (pw_i i), a5, a6, a7] [pw_i x31] _
      have hx31r : (((-9999) ≤ (pw_s xs (i + 1)) ∧ (pw_s xs (i + 1)) ≤ 9999 ∧ 1 ≤ (pw_s xs (i + 2)) ∧ (pw_s xs (i + 2)) ≤ 999 ∧ pw_g h21 125 41 < 20) ∧ x31 = pw_g h21 125 41 ∧ pw_g h30 125 41 = pw_g h21 125 41 + 1 ∧ pw_up h21 h30 154 (pw_g h21 125 41) ((pw_s xs (i + 1))) ∧ pw_up h21 h30 155 (pw_g h21 125 41) ((pw_s xs (i + 2))) ∧ pw_up h21 h30 156 (pw_g h21 125 41) (1)) ∨ (¬ ((-9999) ≤ (pw_s xs (i + 1)) ∧ (pw_s xs (i + 1)) ≤ 9999 ∧ 1 ≤ (pw_s xs (i + 2)) ∧ (pw_s xs (i + 2)) ≤ 999 ∧ pw_g h21 125 41 < 20) ∧ x31 = -1 ∧ pw_g h30 125 41 = pw_g h21 125 41 ∧ pw_sm h21 h30 154 ∧ pw_sm h21 h30 155 ∧ pw_sm h21 h30 156) := hx31r
      have h30Tk : pw_PR 2 131 24 h30 := pw_PRE (c := 2) (c' := 131) rfl rfl h21I h30E h21Tk rfl
      have h30Ck : pw_PR 3 135 24 h30 := pw_PRE (c := 3) (c' := 135) rfl rfl h21I h30E h21Ck rfl
      have h30Bk : pw_PR 4 132 24 h30 := pw_PRE (c := 4) (c' := 132) rfl rfl h21I h30E h21Bk rfl
      have h30Wk : pw_PR 5 133 24 h30 := pw_PRE (c := 5) (c' := 133) rfl rfl h21I h30E h21Wk rfl
      have h30Mk : pw_PR 6 134 24 h30 := pw_PRE (c := 6) (c' := 134) rfl rfl h21I h30E h21Mk rfl
      have h30Fk : pw_PR 8 136 24 h30 := pw_PRE (c := 8) (c' := 136) rfl rfl h21I h30E h21Fk rfl
      have h30Rk : pw_PR 9 137 24 h30 := pw_PRE (c := 9) (c' := 137) rfl rfl h21I h30E h21Rk rfl
      have h30Hk : pw_PR 14 162 288 h30 := pw_PRE (c := 14) (c' := 162) rfl rfl h21I h30E h21Hk rfl
      have h30Gk : pw_PR 15 163 288 h30 := pw_PRE (c := 15) (c' := 163) rfl rfl h21I h30E h21Gk rfl
      have h30Tn := pw_TnE h21I h30E h21Tn rfl
      have h30Lc := pw_LcE h21I h30E h21Lc rfl
      have h30Ls := pw_ShsE h21I h30E h21Ls rfl
      have z1 : pw_g h30 100 3 = pw_g h21 100 3 := pw_Eg (c := 100) h21I h30E rfl rfl 3
      have z2 : pw_g h21 125 41 = pw_g h 125 41 := pw_Eg (c := 125) I h21E rfl rfl 41
      have z3 : pw_g h 100 3 = pw_g h 125 41 := hRm.1
      have h30M := pw_Ro.oth I h21I h21E h30E hRo z3 z2 hx22r hx31r rfl rfl
      have haa : x22 = x31 := h30M.1
      have h30Ro := h30M.2.2
      have h30Rm : pw_Rm h30 := pw_Rm.oth I h21I h21E h30E hRm h30M.2.1 rfl rfl
      refine pwl_ld E (pc' := 1675) (st' := []) rfl (fun _ => rfl) ?_
      refine pwl_goto E (pc' := 2368) rfl (by decide) ?_
      exact pwl_mono (by omega) (hB h30 (a5) (a6) (a7) h30I h30K h30Tk h30Ck h30Bk h30Wk h30Mk h30Fk h30Rk h30Hk h30Gk h30Tn h30Lc h30Ls h30Rm h30Ro (by omega) (by omega) s5 s6 s7)
set_option maxHeartbeats 4000000 in
theorem lc_25 {X : List (Nat × List Value)} {xs : List Int32} {K : Nat} {h : pm_H} {Q : pm_H → (Option Value ⊕ Unit) → Prop} (hX0 : X[0]? = some (0, xs.map Value.int)) (hl : xs.length ≤ 3584) (hX : pw_Xk X) (hR : pw_Xr X) (I : pw_I h) (hK : pw_K h) (hTk : pw_PR 2 131 24 h) (hCk : pw_PR 3 135 24 h) (hBk : pw_PR 4 132 24 h) (hWk : pw_PR 5 133 24 h) (hMk : pw_PR 6 134 24 h) (hFk : pw_PR 8 136 24 h) (hRk : pw_PR 9 137 24 h) (hHk : pw_PR 14 162 288 h) (hGk : pw_PR 15 163 288 h) (hTn : pw_Tn h) (hLc : pw_Lc h) (hLs : pw_Shs h) (hRm : pw_Rm h) (hRo : pw_Ro h) (i : Int) (hi0 : 0 ≤ i) (hi1 : i + 7 ≤ xs.length) (a5 a6 a7 : Option Value) (s5 : ∀ n, pm_scl n a5 = true) (s6 : ∀ n, pm_scl n a6 = true) (s7 : ∀ n, pm_scl n a7 = true) (hB : ∀ (h' : pm_H) (b5 b6 b7 : Option Value), pw_I h' → pw_K h' → pw_PR 2 131 24 h' → pw_PR 3 135 24 h' → pw_PR 4 132 24 h' → pw_PR 5 133 24 h' → pw_PR 6 134 24 h' → pw_PR 8 136 24 h' → pw_PR 9 137 24 h' → pw_PR 14 162 288 h' → pw_PR 15 163 288 h' → pw_Tn h' → pw_Lc h' → pw_Shs h' → pw_Rm h' → pw_Ro h' → h'.length ≤ h.length + 1 → pm_slt h' ≤ pm_slt h + 1000 → (∀ n, pm_scl n b5 = true) → (∀ n, pm_scl n b6 = true) → (∀ n, pm_scl n b7 = true) → pwl X K h' 2368 [some (.ref 0), some (.ref 16), some (.ref 141), some (.ref 185), some (pw_i i), b5, b6, b7] [] Q) : pwl X (K + 150) h 1678 [some (.ref 0), some (.ref 16), some (.ref 141), some (.ref 185), some (pw_i i), a5, a6, a7] [] Q := by
  have E : pm_ent 309 = some (1, 8, 13, 1, pmc_309) := rfl
  refine pwl_ld E (pc' := 1679) (st' := [.ref 16]) rfl (fun _ => rfl) ?_
  refine pwl_ld E (pc' := 1680) (st' := [.ref 0, .ref 16]) rfl (fun _ => rfl) ?_
  refine pwl_ld E (pc' := 1682) (st' := [pw_i i, .ref 0, .ref 16]) rfl (fun _ => rfl) ?_
  refine pwl_ld E (pc' := 1683) (st' := [pw_i 1, pw_i i, .ref 0, .ref 16]) rfl (fun _ => rfl) ?_
  refine pwl_add E (pc' := 1684) rfl rfl ?_
  refine pwl_sald E (pc' := 1685) rfl hX0 hl (by omega) (by omega) rfl ?_
  have hs1 := pw_s_r xs (i + 1)
  refine pwl_if E (pc' := 1692) rfl (by decide) (by omega) (by omega) ?_ ?_
  · intro hc2
    have hc2 : pw_s xs (i + 1) = (0 : Int) := hc2
    refine pwl_ld E (pc' := 1693) (st' := [pw_i 0, .ref 16]) rfl (fun _ => rfl) ?_
    refine pwl_ld E (pc' := 1694) (st' := [.ref 0, pw_i 0, .ref 16]) rfl (fun _ => rfl) ?_
    refine pwl_ld E (pc' := 1696) (st' := [pw_i i, .ref 0, pw_i 0, .ref 16]) rfl (fun _ => rfl) ?_
    refine pwl_ld E (pc' := 1697) (st' := [pw_i 2, pw_i i, .ref 0, pw_i 0, .ref 16]) rfl (fun _ => rfl) ?_
    refine pwl_add E (pc' := 1698) rfl rfl ?_
    refine pwl_sald E (pc' := 1699) rfl hX0 hl (by omega) (by omega) rfl ?_
    have hs3 := pw_s_r xs (i + 2)
    refine pwl_ld E (pc' := 1700) (st' := [.ref 185, pw_i (pw_s xs (i + 2)), pw_i 0, .ref 16]) rfl (fun _ => rfl) ?_
    refine pwl_call (m' := 318) (As := [.ref 16, pw_i 0, pw_i (pw_s xs (i + 2)), .ref 185]) (rest := []) (ls'' := [some (.ref 16), some (pw_i 0), some (pw_i (pw_s xs (i + 2))), some (.ref 185), none]) E rfl (fun _ => pwl_iS rfl rfl rfl (pw_sc8 I s5 s6 s7) rfl) (rfl : pm_ent 318 = some (4, 5, 13, 0, pmc_318)) (by decide) rfl rfl (cm_318 (by decide) I 0 (by decide) (by decide) (pw_s xs (i + 2)) (by omega) (by omega)) ?_
    rintro h5 v4 ⟨h5I, h5E, x6, rfl, hx6a, hx6b⟩
    refine ⟨_, rfl, ?_⟩
    have h5K := pw_KE I h5E hK rfl
    have h5L := h5E.1
    show pwl X _ h5 1703 [some (.ref 0), some (.ref 16), some (.ref 141), some (.ref 185), some (pw_i i), a5, a6, a7] [pw_i x6] _
    have h5Tk : pw_PR 2 131 24 h5 := pw_PRE (c := 2) (c' := 131) rfl rfl I h5E hTk rfl
    have h5Ck : pw_PR 3 135 24 h5 := pw_PRE (c := 3) (c' := 135) rfl rfl I h5E hCk rfl
    have h5Bk : pw_PR 4 132 24 h5 := pw_PRE (c := 4) (c' := 132) rfl rfl I h5E hBk rfl
    have h5Wk : pw_PR 5 133 24 h5 := pw_PRE (c := 5) (c' := 133) rfl rfl I h5E hWk rfl
    have h5Mk : pw_PR 6 134 24 h5 := pw_PRE (c := 6) (c' := 134) rfl rfl I h5E hMk rfl
    have h5Fk : pw_PR 8 136 24 h5 := pw_PRE (c := 8) (c' := 136) rfl rfl I h5E hFk rfl
    have h5Rk : pw_PR 9 137 24 h5 := pw_PRE (c := 9) (c' := 137) rfl rfl I h5E hRk rfl
    have h5Hk : pw_PR 14 162 288 h5 := pw_PRE (c := 14) (c' := 162) rfl rfl I h5E hHk rfl
    have h5Gk : pw_PR 15 163 288 h5 := pw_PRE (c := 15) (c' := 163) rfl rfl I h5E hGk rfl
    have h5Tn := pw_TnE I h5E hTn rfl
    have h5Lc := pw_LcE I h5E hLc rfl
    have h5Ls := pw_ShsE I h5E hLs rfl
    have h5Rm := pw_RmE I h5E hRm rfl
    have h5Ro := pw_RoE I h5E hRo rfl
    refine pwl_ist E (pc' := 1705) (ls' := [some (.ref 0), some (.ref 16), some (.ref 141), some (.ref 185), some (pw_i i), some (pw_i x6), a6, a7]) rfl rfl rfl rfl ?_
    refine pwl_ld E (pc' := 1706) (st' := [.ref 141]) rfl (fun _ => rfl) ?_
    refine pwl_ld E (pc' := 1707) (st' := [.ref 0, .ref 141]) rfl (fun _ => rfl) ?_
    refine pwl_ld E (pc' := 1709) (st' := [pw_i i, .ref 0, .ref 141]) rfl (fun _ => rfl) ?_
    refine pwl_ld E (pc' := 1710) (st' := [pw_i 1, pw_i i, .ref 0, .ref 141]) rfl (fun _ => rfl) ?_
    refine pwl_add E (pc' := 1711) rfl rfl ?_
    refine pwl_sald E (pc' := 1712) rfl hX0 hl (by omega) (by omega) rfl ?_
    have hs7 := pw_s_r xs (i + 1)
    refine pwl_if E (pc' := 1719) rfl (by decide) (by omega) (by omega) ?_ ?_
    · intro hc8
      have hc8 : pw_s xs (i + 1) = (0 : Int) := hc8
      refine pwl_ld E (pc' := 1720) (st' := [pw_i 0, .ref 141]) rfl (fun _ => rfl) ?_
      refine pwl_ld E (pc' := 1721) (st' := [.ref 0, pw_i 0, .ref 141]) rfl (fun _ => rfl) ?_
      refine pwl_ld E (pc' := 1723) (st' := [pw_i i, .ref 0, pw_i 0, .ref 141]) rfl (fun _ => rfl) ?_
      refine pwl_ld E (pc' := 1724) (st' := [pw_i 2, pw_i i, .ref 0, pw_i 0, .ref 141]) rfl (fun _ => rfl) ?_
      refine pwl_add E (pc' := 1725) rfl rfl ?_
      refine pwl_sald E (pc' := 1726) rfl hX0 hl (by omega) (by omega) rfl ?_
      have hs9 := pw_s_r xs (i + 2)
      obtain ⟨f10l, f10h, -⟩ := pw_obj (c := 125) h5I rfl
      refine pwl_call (m' := 274) (As := [.ref 141, pw_i 0, pw_i (pw_s xs (i + 2))]) (rest := []) (ls'' := [some (.ref 141), some (pw_i 0), some (pw_i (pw_s xs (i + 2)))]) E rfl (fun _ => pwl_iV rfl rfl rfl (pw_cellI f10h rfl)) (rfl : pm_ent 274 = some (3, 3, 12, 2, pmc_274)) (by decide) rfl rfl (cm_274 (by decide) h5I 0 (by decide) (by decide) (pw_s xs (i + 2)) (by omega) (by omega)) ?_
      rintro h12 v11 ⟨h12I, h12E, w13, rfl⟩
      refine ⟨_, rfl, ?_⟩
      have h12K := pw_KE h5I h12E h5K rfl
      have h12L := h12E.1
      show pwl X _ h12 1729 [some (.ref 0), some (.ref 16), some (.ref 141), some (.ref 185), some (pw_i i), some (pw_i x6), a6, a7] [.long w13] _
      have h12Tk : pw_PR 2 131 24 h12 := pw_PRE (c := 2) (c' := 131) rfl rfl h5I h12E h5Tk rfl
      have h12Ck : pw_PR 3 135 24 h12 := pw_PRE (c := 3) (c' := 135) rfl rfl h5I h12E h5Ck rfl
      have h12Bk : pw_PR 4 132 24 h12 := pw_PRE (c := 4) (c' := 132) rfl rfl h5I h12E h5Bk rfl
      have h12Wk : pw_PR 5 133 24 h12 := pw_PRE (c := 5) (c' := 133) rfl rfl h5I h12E h5Wk rfl
      have h12Mk : pw_PR 6 134 24 h12 := pw_PRE (c := 6) (c' := 134) rfl rfl h5I h12E h5Mk rfl
      have h12Fk : pw_PR 8 136 24 h12 := pw_PRE (c := 8) (c' := 136) rfl rfl h5I h12E h5Fk rfl
      have h12Rk : pw_PR 9 137 24 h12 := pw_PRE (c := 9) (c' := 137) rfl rfl h5I h12E h5Rk rfl
      have h12Hk : pw_PR 14 162 288 h12 := pw_PRE (c := 14) (c' := 162) rfl rfl h5I h12E h5Hk rfl
      have h12Gk : pw_PR 15 163 288 h12 := pw_PRE (c := 15) (c' := 163) rfl rfl h5I h12E h5Gk rfl
      have h12Tn := pw_TnE h5I h12E h5Tn rfl
      have h12Lc := pw_LcE h5I h12E h5Lc rfl
      have h12Ls := pw_ShsE h5I h12E h5Ls rfl
      have h12Rm := pw_RmE h5I h12E h5Rm rfl
      have h12Ro := pw_RoE h5I h12E h5Ro rfl
      refine pwl_lst E (pc' := 1731) (ls' := [some (.ref 0), some (.ref 16), some (.ref 141), some (.ref 185), some (pw_i i), some (pw_i x6), some (.long w13), none]) rfl rfl rfl rfl ?_
      refine pwl_goto E (pc' := 2368) rfl (by decide) ?_
      exact pwl_mono (by omega) (hB h12 (some (pw_i x6)) (some (.long w13)) (none) h12I h12K h12Tk h12Ck h12Bk h12Wk h12Mk h12Fk h12Rk h12Hk h12Gk h12Tn h12Lc h12Ls h12Rm h12Ro (by omega) (by omega) (fun _ => rfl) (fun _ => rfl) (fun _ => rfl))
    · intro hc14
      have hc14 : ¬ (pw_s xs (i + 1) = (0 : Int)) := hc14
      exfalso; omega
  · intro hc15
    have hc15 : ¬ (pw_s xs (i + 1) = (0 : Int)) := hc15
    refine pwl_ld E (pc' := 1689) (st' := [pw_i 1, .ref 16]) rfl (fun _ => rfl) ?_
    refine pwl_goto E (pc' := 1693) rfl (by decide) ?_
    refine pwl_ld E (pc' := 1694) (st' := [.ref 0, pw_i 1, .ref 16]) rfl (fun _ => rfl) ?_
    refine pwl_ld E (pc' := 1696) (st' := [pw_i i, .ref 0, pw_i 1, .ref 16]) rfl (fun _ => rfl) ?_
    refine pwl_ld E (pc' := 1697) (st' := [pw_i 2, pw_i i, .ref 0, pw_i 1, .ref 16]) rfl (fun _ => rfl) ?_
    refine pwl_add E (pc' := 1698) rfl rfl ?_
    refine pwl_sald E (pc' := 1699) rfl hX0 hl (by omega) (by omega) rfl ?_
    have hs16 := pw_s_r xs (i + 2)
    refine pwl_ld E (pc' := 1700) (st' := [.ref 185, pw_i (pw_s xs (i + 2)), pw_i 1, .ref 16]) rfl (fun _ => rfl) ?_
    refine pwl_call (m' := 318) (As := [.ref 16, pw_i 1, pw_i (pw_s xs (i + 2)), .ref 185]) (rest := []) (ls'' := [some (.ref 16), some (pw_i 1), some (pw_i (pw_s xs (i + 2))), some (.ref 185), none]) E rfl (fun _ => pwl_iS rfl rfl rfl (pw_sc8 I s5 s6 s7) rfl) (rfl : pm_ent 318 = some (4, 5, 13, 0, pmc_318)) (by decide) rfl rfl (cm_318 (by decide) I 1 (by decide) (by decide) (pw_s xs (i + 2)) (by omega) (by omega)) ?_
    rintro h18 v17 ⟨h18I, h18E, x19, rfl, hx19a, hx19b⟩
    refine ⟨_, rfl, ?_⟩
    have h18K := pw_KE I h18E hK rfl
    have h18L := h18E.1
    show pwl X _ h18 1703 [some (.ref 0), some (.ref 16), some (.ref 141), some (.ref 185), some (pw_i i), a5, a6, a7] [pw_i x19] _
    have h18Tk : pw_PR 2 131 24 h18 := pw_PRE (c := 2) (c' := 131) rfl rfl I h18E hTk rfl
    have h18Ck : pw_PR 3 135 24 h18 := pw_PRE (c := 3) (c' := 135) rfl rfl I h18E hCk rfl
    have h18Bk : pw_PR 4 132 24 h18 := pw_PRE (c := 4) (c' := 132) rfl rfl I h18E hBk rfl
    have h18Wk : pw_PR 5 133 24 h18 := pw_PRE (c := 5) (c' := 133) rfl rfl I h18E hWk rfl
    have h18Mk : pw_PR 6 134 24 h18 := pw_PRE (c := 6) (c' := 134) rfl rfl I h18E hMk rfl
    have h18Fk : pw_PR 8 136 24 h18 := pw_PRE (c := 8) (c' := 136) rfl rfl I h18E hFk rfl
    have h18Rk : pw_PR 9 137 24 h18 := pw_PRE (c := 9) (c' := 137) rfl rfl I h18E hRk rfl
    have h18Hk : pw_PR 14 162 288 h18 := pw_PRE (c := 14) (c' := 162) rfl rfl I h18E hHk rfl
    have h18Gk : pw_PR 15 163 288 h18 := pw_PRE (c := 15) (c' := 163) rfl rfl I h18E hGk rfl
    have h18Tn := pw_TnE I h18E hTn rfl
    have h18Lc := pw_LcE I h18E hLc rfl
    have h18Ls := pw_ShsE I h18E hLs rfl
    have h18Rm := pw_RmE I h18E hRm rfl
    have h18Ro := pw_RoE I h18E hRo rfl
    refine pwl_ist E (pc' := 1705) (ls' := [some (.ref 0), some (.ref 16), some (.ref 141), some (.ref 185), some (pw_i i), some (pw_i x19), a6, a7]) rfl rfl rfl rfl ?_
    refine pwl_ld E (pc' := 1706) (st' := [.ref 141]) rfl (fun _ => rfl) ?_
    refine pwl_ld E (pc' := 1707) (st' := [.ref 0, .ref 141]) rfl (fun _ => rfl) ?_
    refine pwl_ld E (pc' := 1709) (st' := [pw_i i, .ref 0, .ref 141]) rfl (fun _ => rfl) ?_
    refine pwl_ld E (pc' := 1710) (st' := [pw_i 1, pw_i i, .ref 0, .ref 141]) rfl (fun _ => rfl) ?_
    refine pwl_add E (pc' := 1711) rfl rfl ?_
    refine pwl_sald E (pc' := 1712) rfl hX0 hl (by omega) (by omega) rfl ?_
    have hs20 := pw_s_r xs (i + 1)
    refine pwl_if E (pc' := 1719) rfl (by decide) (by omega) (by omega) ?_ ?_
    · intro hc21
      have hc21 : pw_s xs (i + 1) = (0 : Int) := hc21
      exfalso; omega
    · intro hc22
      have hc22 : ¬ (pw_s xs (i + 1) = (0 : Int)) := hc22
      refine pwl_ld E (pc' := 1716) (st' := [pw_i 1, .ref 141]) rfl (fun _ => rfl) ?_
      refine pwl_goto E (pc' := 1720) rfl (by decide) ?_
      refine pwl_ld E (pc' := 1721) (st' := [.ref 0, pw_i 1, .ref 141]) rfl (fun _ => rfl) ?_
      refine pwl_ld E (pc' := 1723) (st' := [pw_i i, .ref 0, pw_i 1, .ref 141]) rfl (fun _ => rfl) ?_
      refine pwl_ld E (pc' := 1724) (st' := [pw_i 2, pw_i i, .ref 0, pw_i 1, .ref 141]) rfl (fun _ => rfl) ?_
      refine pwl_add E (pc' := 1725) rfl rfl ?_
      refine pwl_sald E (pc' := 1726) rfl hX0 hl (by omega) (by omega) rfl ?_
      have hs23 := pw_s_r xs (i + 2)
      obtain ⟨f24l, f24h, -⟩ := pw_obj (c := 125) h18I rfl
      refine pwl_call (m' := 274) (As := [.ref 141, pw_i 1, pw_i (pw_s xs (i + 2))]) (rest := []) (ls'' := [some (.ref 141), some (pw_i 1), some (pw_i (pw_s xs (i + 2)))]) E rfl (fun _ => pwl_iV rfl rfl rfl (pw_cellI f24h rfl)) (rfl : pm_ent 274 = some (3, 3, 12, 2, pmc_274)) (by decide) rfl rfl (cm_274 (by decide) h18I 1 (by decide) (by decide) (pw_s xs (i + 2)) (by omega) (by omega)) ?_
      rintro h26 v25 ⟨h26I, h26E, w27, rfl⟩
      refine ⟨_, rfl, ?_⟩
      have h26K := pw_KE h18I h26E h18K rfl
      have h26L := h26E.1
      show pwl X _ h26 1729 [some (.ref 0), some (.ref 16), some (.ref 141), some (.ref 185), some (pw_i i), some (pw_i x19), a6, a7] [.long w27] _
      have h26Tk : pw_PR 2 131 24 h26 := pw_PRE (c := 2) (c' := 131) rfl rfl h18I h26E h18Tk rfl
      have h26Ck : pw_PR 3 135 24 h26 := pw_PRE (c := 3) (c' := 135) rfl rfl h18I h26E h18Ck rfl
      have h26Bk : pw_PR 4 132 24 h26 := pw_PRE (c := 4) (c' := 132) rfl rfl h18I h26E h18Bk rfl
      have h26Wk : pw_PR 5 133 24 h26 := pw_PRE (c := 5) (c' := 133) rfl rfl h18I h26E h18Wk rfl
      have h26Mk : pw_PR 6 134 24 h26 := pw_PRE (c := 6) (c' := 134) rfl rfl h18I h26E h18Mk rfl
      have h26Fk : pw_PR 8 136 24 h26 := pw_PRE (c := 8) (c' := 136) rfl rfl h18I h26E h18Fk rfl
      have h26Rk : pw_PR 9 137 24 h26 := pw_PRE (c := 9) (c' := 137) rfl rfl h18I h26E h18Rk rfl
      have h26Hk : pw_PR 14 162 288 h26 := pw_PRE (c := 14) (c' := 162) rfl rfl h18I h26E h18Hk rfl
      have h26Gk : pw_PR 15 163 288 h26 := pw_PRE (c := 15) (c' := 163) rfl rfl h18I h26E h18Gk rfl
      have h26Tn := pw_TnE h18I h26E h18Tn rfl
      have h26Lc := pw_LcE h18I h26E h18Lc rfl
      have h26Ls := pw_ShsE h18I h26E h18Ls rfl
      have h26Rm := pw_RmE h18I h26E h18Rm rfl
      have h26Ro := pw_RoE h18I h26E h18Ro rfl
      refine pwl_lst E (pc' := 1731) (ls' := [some (.ref 0), some (.ref 16), some (.ref 141), some (.ref 185), some (pw_i i), some (pw_i x19), some (.long w27), none]) rfl rfl rfl rfl ?_
      refine pwl_goto E (pc' := 2368) rfl (by decide) ?_
      exact pwl_mono (by omega) (hB h26 (some (pw_i x19)) (some (.long w27)) (none) h26I h26K h26Tk h26Ck h26Bk h26Wk h26Mk h26Fk h26Rk h26Hk h26Gk h26Tn h26Lc h26Ls h26Rm h26Ro (by omega) (by omega) (fun _ => rfl) (fun _ => rfl) (fun _ => rfl))
set_option maxHeartbeats 4000000 in
theorem lc_26 {X : List (Nat × List Value)} {xs : List Int32} {K : Nat} {h : pm_H} {Q : pm_H → (Option Value ⊕ Unit) → Prop} (hX0 : X[0]? = some (0, xs.map Value.int)) (hl : xs.length ≤ 3584) (hX : pw_Xk X) (hR : pw_Xr X) (I : pw_I h) (hK : pw_K h) (hTk : pw_PR 2 131 24 h) (hCk : pw_PR 3 135 24 h) (hBk : pw_PR 4 132 24 h) (hWk : pw_PR 5 133 24 h) (hMk : pw_PR 6 134 24 h) (hFk : pw_PR 8 136 24 h) (hRk : pw_PR 9 137 24 h) (hHk : pw_PR 14 162 288 h) (hGk : pw_PR 15 163 288 h) (hTn : pw_Tn h) (hLc : pw_Lc h) (hLs : pw_Shs h) (hRm : pw_Rm h) (hRo : pw_Ro h) (i : Int) (hi0 : 0 ≤ i) (hi1 : i + 7 ≤ xs.length) (a5 a6 a7 : Option Value) (s5 : ∀ n, pm_scl n a5 = true) (s6 : ∀ n, pm_scl n a6 = true) (s7 : ∀ n, pm_scl n a7 = true) (hB : ∀ (h' : pm_H) (b5 b6 b7 : Option Value), pw_I h' → pw_K h' → pw_PR 2 131 24 h' → pw_PR 3 135 24 h' → pw_PR 4 132 24 h' → pw_PR 5 133 24 h' → pw_PR 6 134 24 h' → pw_PR 8 136 24 h' → pw_PR 9 137 24 h' → pw_PR 14 162 288 h' → pw_PR 15 163 288 h' → pw_Tn h' → pw_Lc h' → pw_Shs h' → pw_Rm h' → pw_Ro h' → h'.length ≤ h.length + 1 → pm_slt h' ≤ pm_slt h + 1000 → (∀ n, pm_scl n b5 = true) → (∀ n, pm_scl n b6 = true) → (∀ n, pm_scl n b7 = true) → pwl X K h' 2368 [some (.ref 0), some (.ref 16), some (.ref 141), some (.ref 185), some (pw_i i), b5, b6, b7] [] Q) : pwl X (K + 150) h 1734 [some (.ref 0), some (.ref 16), some (.ref 141), some (.ref 185), some (pw_i i), a5, a6, a7] [] Q := by
  have E : pm_ent 309 = some (1, 8, 13, 1, pmc_309) := rfl
  refine pwl_ld E (pc' := 1735) (st' := [.ref 16]) rfl (fun _ => rfl) ?_
  refine pwl_ld E (pc' := 1736) (st' := [.ref 0, .ref 16]) rfl (fun _ => rfl) ?_
  refine pwl_ld E (pc' := 1738) (st' := [pw_i i, .ref 0, .ref 16]) rfl (fun _ => rfl) ?_
  refine pwl_ld E (pc' := 1739) (st' := [pw_i 1, pw_i i, .ref 0, .ref 16]) rfl (fun _ => rfl) ?_
  refine pwl_add E (pc' := 1740) rfl rfl ?_
  refine pwl_sald E (pc' := 1741) rfl hX0 hl (by omega) (by omega) rfl ?_
  have hs1 := pw_s_r xs (i + 1)
  obtain ⟨f2l, f2h, -⟩ := pw_obj (c := 0) I rfl
  refine pwl_call (m' := 152) (As := [.ref 16, pw_i (pw_s xs (i + 1))]) (rest := []) (ls'' := [some (.ref 16), some (pw_i (pw_s xs (i + 1))), none]) E rfl (fun _ => pwl_iV rfl rfl rfl (pw_cellI f2h rfl)) (rfl : pm_ent 152 = some (2, 3, 11, 0, pmc_152)) (by decide) rfl rfl (cm_152 (by decide) I (pw_s xs (i + 1)) (by omega) (by omega)) ?_
  rintro h4 v3 ⟨rfl, x5, rfl, hx5a, hx5b⟩
  refine ⟨_, rfl, ?_⟩
  show pwl X _ h 1744 [some (.ref 0), some (.ref 16), some (.ref 141), some (.ref 185), some (pw_i i), a5, a6, a7] [pw_i x5] _
  refine pwl_ld E (pc' := 1745) (st' := []) rfl (fun _ => rfl) ?_
  refine pwl_ld E (pc' := 1746) (st' := [.ref 141]) rfl (fun _ => rfl) ?_
  refine pwl_ld E (pc' := 1747) (st' := [.ref 0, .ref 141]) rfl (fun _ => rfl) ?_
  refine pwl_ld E (pc' := 1749) (st' := [pw_i i, .ref 0, .ref 141]) rfl (fun _ => rfl) ?_
  refine pwl_ld E (pc' := 1750) (st' := [pw_i 1, pw_i i, .ref 0, .ref 141]) rfl (fun _ => rfl) ?_
  refine pwl_add E (pc' := 1751) rfl rfl ?_
  refine pwl_sald E (pc' := 1752) rfl hX0 hl (by omega) (by omega) rfl ?_
  have hs6 := pw_s_r xs (i + 1)
  obtain ⟨f7l, f7h, -⟩ := pw_obj (c := 125) I rfl
  refine pwl_call (m' := 276) (As := [.ref 141, pw_i (pw_s xs (i + 1))]) (rest := []) (ls'' := [some (.ref 141), some (pw_i (pw_s xs (i + 1))), none, none]) E rfl (fun _ => pwl_iV rfl rfl rfl (pw_cellI f7h rfl)) (rfl : pm_ent 276 = some (2, 4, 12, 0, pmc_276)) (by decide) rfl rfl (cm_276 (by decide) I (pw_s xs (i + 1)) (by omega) (by omega)) ?_
  rintro h9 v8 ⟨h9I, h9E, x10, rfl, hx10a, hx10b⟩
  refine ⟨_, rfl, ?_⟩
  have h9K := pw_KE I h9E hK rfl
  have h9L := h9E.1
  show pwl X _ h9 1755 [some (.ref 0), some (.ref 16), some (.ref 141), some (.ref 185), some (pw_i i), a5, a6, a7] [pw_i x10] _
  have h9Tk : pw_PR 2 131 24 h9 := pw_PRE (c := 2) (c' := 131) rfl rfl I h9E hTk rfl
  have h9Ck : pw_PR 3 135 24 h9 := pw_PRE (c := 3) (c' := 135) rfl rfl I h9E hCk rfl
  have h9Bk : pw_PR 4 132 24 h9 := pw_PRE (c := 4) (c' := 132) rfl rfl I h9E hBk rfl
  have h9Wk : pw_PR 5 133 24 h9 := pw_PRE (c := 5) (c' := 133) rfl rfl I h9E hWk rfl
  have h9Mk : pw_PR 6 134 24 h9 := pw_PRE (c := 6) (c' := 134) rfl rfl I h9E hMk rfl
  have h9Fk : pw_PR 8 136 24 h9 := pw_PRE (c := 8) (c' := 136) rfl rfl I h9E hFk rfl
  have h9Rk : pw_PR 9 137 24 h9 := pw_PRE (c := 9) (c' := 137) rfl rfl I h9E hRk rfl
  have h9Hk : pw_PR 14 162 288 h9 := pw_PRE (c := 14) (c' := 162) rfl rfl I h9E hHk rfl
  have h9Gk : pw_PR 15 163 288 h9 := pw_PRE (c := 15) (c' := 163) rfl rfl I h9E hGk rfl
  have h9Tn := pw_TnE I h9E hTn rfl
  have h9Lc := pw_LcE I h9E hLc rfl
  have h9Ls := pw_ShsE I h9E hLs rfl
  have h9Rm := pw_RmE I h9E hRm rfl
  have h9Ro := pw_RoE I h9E hRo rfl
  refine pwl_ld E (pc' := 1756) (st' := []) rfl (fun _ => rfl) ?_
  refine pwl_goto E (pc' := 2368) rfl (by decide) ?_
  exact pwl_mono (by omega) (hB h9 (a5) (a6) (a7) h9I h9K h9Tk h9Ck h9Bk h9Wk h9Mk h9Fk h9Rk h9Hk h9Gk h9Tn h9Lc h9Ls h9Rm h9Ro (by omega) (by omega) s5 s6 s7)
set_option maxHeartbeats 4000000 in
theorem lc_27 {X : List (Nat × List Value)} {xs : List Int32} {K : Nat} {h : pm_H} {Q : pm_H → (Option Value ⊕ Unit) → Prop} (hX0 : X[0]? = some (0, xs.map Value.int)) (hl : xs.length ≤ 3584) (hX : pw_Xk X) (hR : pw_Xr X) (I : pw_I h) (hK : pw_K h) (hTk : pw_PR 2 131 24 h) (hCk : pw_PR 3 135 24 h) (hBk : pw_PR 4 132 24 h) (hWk : pw_PR 5 133 24 h) (hMk : pw_PR 6 134 24 h) (hFk : pw_PR 8 136 24 h) (hRk : pw_PR 9 137 24 h) (hHk : pw_PR 14 162 288 h) (hGk : pw_PR 15 163 288 h) (hTn : pw_Tn h) (hLc : pw_Lc h) (hLs : pw_Shs h) (hRm : pw_Rm h) (hRo : pw_Ro h) (i : Int) (hi0 : 0 ≤ i) (hi1 : i + 7 ≤ xs.length) (a5 a6 a7 : Option Value) (s5 : ∀ n, pm_scl n a5 = true) (s6 : ∀ n, pm_scl n a6 = true) (s7 : ∀ n, pm_scl n a7 = true) (hB : ∀ (h' : pm_H) (b5 b6 b7 : Option Value), pw_I h' → pw_K h' → pw_PR 2 131 24 h' → pw_PR 3 135 24 h' → pw_PR 4 132 24 h' → pw_PR 5 133 24 h' → pw_PR 6 134 24 h' → pw_PR 8 136 24 h' → pw_PR 9 137 24 h' → pw_PR 14 162 288 h' → pw_PR 15 163 288 h' → pw_Tn h' → pw_Lc h' → pw_Shs h' → pw_Rm h' → pw_Ro h' → h'.length ≤ h.length + 1 → pm_slt h' ≤ pm_slt h + 1000 → (∀ n, pm_scl n b5 = true) → (∀ n, pm_scl n b6 = true) → (∀ n, pm_scl n b7 = true) → pwl X K h' 2368 [some (.ref 0), some (.ref 16), some (.ref 141), some (.ref 185), some (pw_i i), b5, b6, b7] [] Q) : pwl X (K + 150) h 1759 [some (.ref 0), some (.ref 16), some (.ref 141), some (.ref 185), some (pw_i i), a5, a6, a7] [] Q := by
  have E : pm_ent 309 = some (1, 8, 13, 1, pmc_309) := rfl
  refine pwl_ld E (pc' := 1760) (st' := [.ref 16]) rfl (fun _ => rfl) ?_
  refine pwl_ld E (pc' := 1761) (st' := [.ref 0, .ref 16]) rfl (fun _ => rfl) ?_
  refine pwl_ld E (pc' := 1763) (st' := [pw_i i, .ref 0, .ref 16]) rfl (fun _ => rfl) ?_
  refine pwl_ld E (pc' := 1764) (st' := [pw_i 1, pw_i i, .ref 0, .ref 16]) rfl (fun _ => rfl) ?_
  refine pwl_add E (pc' := 1765) rfl rfl ?_
  refine pwl_sald E (pc' := 1766) rfl hX0 hl (by omega) (by omega) rfl ?_
  have hs1 := pw_s_r xs (i + 1)
  obtain ⟨f2l, f2h, -⟩ := pw_obj (c := 0) I rfl
  refine pwl_call (m' := 153) (As := [.ref 16, pw_i (pw_s xs (i + 1))]) (rest := []) (ls'' := [some (.ref 16), some (pw_i (pw_s xs (i + 1)))]) E rfl (fun _ => pwl_iV rfl rfl rfl (pw_cellI f2h rfl)) (rfl : pm_ent 153 = some (2, 2, 11, 0, pmc_153)) (by decide) rfl rfl (cm_153 (by decide) I hX hR (pw_s xs (i + 1)) (by omega) (by omega)) ?_
  rintro h4 v3 ⟨h4I, h4E, x5, rfl, hx5a, hx5b⟩
  refine ⟨_, rfl, ?_⟩
  have h4K := pw_KG I h4E hK rfl
  have h4L := h4E.1
  show pwl X _ h4 1769 [some (.ref 0), some (.ref 16), some (.ref 141), some (.ref 185), some (pw_i i), a5, a6, a7] [pw_i x5] _
  have h4Tk : pw_PR 2 131 24 h4 := pw_PRG (c := 2) (c' := 131) rfl rfl I h4E hTk rfl
  have h4Ck : pw_PR 3 135 24 h4 := pw_PRG (c := 3) (c' := 135) rfl rfl I h4E hCk rfl
  have h4Bk : pw_PR 4 132 24 h4 := pw_PRG (c := 4) (c' := 132) rfl rfl I h4E hBk rfl
  have h4Wk : pw_PR 5 133 24 h4 := pw_PRG (c := 5) (c' := 133) rfl rfl I h4E hWk rfl
  have h4Mk : pw_PR 6 134 24 h4 := pw_PRG (c := 6) (c' := 134) rfl rfl I h4E hMk rfl
  have h4Fk : pw_PR 8 136 24 h4 := pw_PRG (c := 8) (c' := 136) rfl rfl I h4E hFk rfl
  have h4Rk : pw_PR 9 137 24 h4 := pw_PRG (c := 9) (c' := 137) rfl rfl I h4E hRk rfl
  have h4Hk : pw_PR 14 162 288 h4 := pw_PRG (c := 14) (c' := 162) rfl rfl I h4E hHk rfl
  have h4Gk : pw_PR 15 163 288 h4 := pw_PRG (c := 15) (c' := 163) rfl rfl I h4E hGk rfl
  have h4Tn := pw_TnG I h4E hTn rfl
  have h4Lc := pw_LcG I h4E hLc rfl
  have h4Ls := pw_ShsG I h4E hLs rfl
  have h4Rm := pw_RmG I h4E hRm rfl
  have h4Ro := pw_RoG I h4E hRo rfl
  refine pwl_ld E (pc' := 1770) (st' := []) rfl (fun _ => rfl) ?_
  refine pwl_ld E (pc' := 1771) (st' := [.ref 141]) rfl (fun _ => rfl) ?_
  refine pwl_ld E (pc' := 1772) (st' := [.ref 0, .ref 141]) rfl (fun _ => rfl) ?_
  refine pwl_ld E (pc' := 1774) (st' := [pw_i i, .ref 0, .ref 141]) rfl (fun _ => rfl) ?_
  refine pwl_ld E (pc' := 1775) (st' := [pw_i 1, pw_i i, .ref 0, .ref 141]) rfl (fun _ => rfl) ?_
  refine pwl_add E (pc' := 1776) rfl rfl ?_
  refine pwl_sald E (pc' := 1777) rfl hX0 hl (by omega) (by omega) rfl ?_
  have hs6 := pw_s_r xs (i + 1)
  obtain ⟨f7l, f7h, -⟩ := pw_obj (c := 125) h4I rfl
  refine pwl_call (m' := 277) (As := [.ref 141, pw_i (pw_s xs (i + 1))]) (rest := []) (ls'' := [some (.ref 141), some (pw_i (pw_s xs (i + 1))), none]) E rfl (fun _ => pwl_iV rfl rfl rfl (pw_cellI f7h rfl)) (rfl : pm_ent 277 = some (2, 3, 12, 0, pmc_277)) (by decide) rfl rfl (cm_277 (by decide) h4I (pw_s xs (i + 1)) (by omega) (by omega) h4K) ?_
  rintro h9 v8 ⟨h9I, h9E, h9K, x10, rfl, hx10a, hx10b⟩
  refine ⟨_, rfl, ?_⟩
  have h9L := h9E.1
  show pwl X _ h9 1780 [some (.ref 0), some (.ref 16), some (.ref 141), some (.ref 185), some (pw_i i), a5, a6, a7] [pw_i x10] _
  have h9Tk : pw_PR 2 131 24 h9 := pw_PRE (c := 2) (c' := 131) rfl rfl h4I h9E h4Tk rfl
  have h9Ck : pw_PR 3 135 24 h9 := pw_PRE (c := 3) (c' := 135) rfl rfl h4I h9E h4Ck rfl
  have h9Bk : pw_PR 4 132 24 h9 := pw_PRE (c := 4) (c' := 132) rfl rfl h4I h9E h4Bk rfl
  have h9Wk : pw_PR 5 133 24 h9 := pw_PRE (c := 5) (c' := 133) rfl rfl h4I h9E h4Wk rfl
  have h9Mk : pw_PR 6 134 24 h9 := pw_PRE (c := 6) (c' := 134) rfl rfl h4I h9E h4Mk rfl
  have h9Fk : pw_PR 8 136 24 h9 := pw_PRE (c := 8) (c' := 136) rfl rfl h4I h9E h4Fk rfl
  have h9Rk : pw_PR 9 137 24 h9 := pw_PRE (c := 9) (c' := 137) rfl rfl h4I h9E h4Rk rfl
  have h9Hk : pw_PR 14 162 288 h9 := pw_PRE (c := 14) (c' := 162) rfl rfl h4I h9E h4Hk rfl
  have h9Gk : pw_PR 15 163 288 h9 := pw_PRE (c := 15) (c' := 163) rfl rfl h4I h9E h4Gk rfl
  have h9Tn := pw_TnE h4I h9E h4Tn rfl
  have h9Lc := pw_LcE h4I h9E h4Lc rfl
  have h9Ls := pw_ShsE h4I h9E h4Ls rfl
  have h9Rm := pw_RmE h4I h9E h4Rm rfl
  have h9Ro := pw_RoE h4I h9E h4Ro rfl
  refine pwl_ld E (pc' := 1781) (st' := []) rfl (fun _ => rfl) ?_
  refine pwl_goto E (pc' := 2368) rfl (by decide) ?_
  exact pwl_mono (by omega) (hB h9 (a5) (a6) (a7) h9I h9K h9Tk h9Ck h9Bk h9Wk h9Mk h9Fk h9Rk h9Hk h9Gk h9Tn h9Lc h9Ls h9Rm h9Ro (by omega) (by omega) s5 s6 s7)
