/-! cases -/
set_option maxHeartbeats 4000000 in
theorem lc_14 {X : List (Nat × List Value)} {xs : List Int32} {K : Nat} {h : pm_H} {Q : pm_H → (Option Value ⊕ Unit) → Prop} (hX0 : X[0]? = some (0, xs.map Value.int)) (hl : xs.length ≤ 3584) (hX : pw_Xk X) (hR : pw_Xr X) (hS : pw_Xs X) (hF : pw_Xf X) (I : pw_I h) (hK : pw_K h) (hRb : pw_Rb h) (i : Int) (hi0 : 0 ≤ i) (hi1 : i + 7 ≤ xs.length) (a5 a6 a7 : Option Value) (s5 : ∀ n, pm_scl n a5 = true) (s6 : ∀ n, pm_scl n a6 = true) (s7 : ∀ n, pm_scl n a7 = true) (hB : ∀ (h' : pm_H) (b5 b6 b7 : Option Value), pw_I h' → pw_K h' → pw_Rb h' → h'.length ≤ h.length + 1 → pm_slt h' ≤ pm_slt h + 1000 → (∀ n, pm_scl n b5 = true) → (∀ n, pm_scl n b6 = true) → (∀ n, pm_scl n b7 = true) → pwl X K h' 2341 [some (.ref 0), some (.ref 16), some (.ref 141), some (.ref 185), some (pw_i i), b5, b6, b7] [] Q) : pwl X (K + 150) h 1016 [some (.ref 0), some (.ref 16), some (.ref 141), some (.ref 185), some (pw_i i), a5, a6, a7] [] Q := by
  have E : pm_ent 309 = some (1, 8, 13, 1, pmc_309) := rfl
  refine pwl_ld E (pc' := 1017) (st' := [.ref 16]) rfl (fun _ => rfl) ?_
  refine pwl_ld E (pc' := 1018) (st' := [.ref 0, .ref 16]) rfl (fun _ => rfl) ?_
  refine pwl_ld E (pc' := 1020) (st' := [pw_i i, .ref 0, .ref 16]) rfl (fun _ => rfl) ?_
  refine pwl_ld E (pc' := 1021) (st' := [pw_i 1, pw_i i, .ref 0, .ref 16]) rfl (fun _ => rfl) ?_
  refine pwl_add E (pc' := 1022) rfl rfl ?_
  refine pwl_sald E (pc' := 1023) rfl hX0 hl (by omega) (by omega) rfl ?_
  have hs1 := pw_s_r xs (i + 1)
  refine pwl_ld E (pc' := 1024) (st' := [.ref 0, pw_i (pw_s xs (i + 1)), .ref 16]) rfl (fun _ => rfl) ?_
  refine pwl_ld E (pc' := 1026) (st' := [pw_i i, .ref 0, pw_i (pw_s xs (i + 1)), .ref 16]) rfl (fun _ => rfl) ?_
  refine pwl_ld E (pc' := 1027) (st' := [pw_i 2, pw_i i, .ref 0, pw_i (pw_s xs (i + 1)), .ref 16]) rfl (fun _ => rfl) ?_
  refine pwl_add E (pc' := 1028) rfl rfl ?_
  refine pwl_sald E (pc' := 1029) rfl hX0 hl (by omega) (by omega) rfl ?_
  have hs2 := pw_s_r xs (i + 2)
  refine pwl_ld E (pc' := 1030) (st' := [.ref 0, pw_i (pw_s xs (i + 2)), pw_i (pw_s xs (i + 1)), .ref 16]) rfl (fun _ => rfl) ?_
  refine pwl_ld E (pc' := 1032) (st' := [pw_i i, .ref 0, pw_i (pw_s xs (i + 2)), pw_i (pw_s xs (i + 1)), .ref 16]) rfl (fun _ => rfl) ?_
  refine pwl_ld E (pc' := 1033) (st' := [pw_i 3, pw_i i, .ref 0, pw_i (pw_s xs (i + 2)), pw_i (pw_s xs (i + 1)), .ref 16]) rfl (fun _ => rfl) ?_
  refine pwl_add E (pc' := 1034) rfl rfl ?_
  refine pwl_sald E (pc' := 1035) rfl hX0 hl (by omega) (by omega) rfl ?_
  have hs3 := pw_s_r xs (i + 3)
  obtain ⟨f4l, f4h, -⟩ := pw_obj (c := 0) I rfl
  refine pwl_call (m' := 136) (As := [.ref 16, pw_i (pw_s xs (i + 1)), pw_i (pw_s xs (i + 2)), pw_i (pw_s xs (i + 3))]) (rest := []) (ls'' := [some (.ref 16), some (pw_i (pw_s xs (i + 1))), some (pw_i (pw_s xs (i + 2))), some (pw_i (pw_s xs (i + 3)))]) E rfl (fun _ => pwl_iV rfl rfl rfl (pw_cellI f4h rfl)) (rfl : pm_ent 136 = some (4, 4, 11, 2, pmc_136)) (by decide) rfl rfl (cm_136 (by decide) I (pw_s xs (i + 1)) (by omega) (by omega) (pw_s xs (i + 2)) (by omega) (by omega) (pw_s xs (i + 3)) (by omega) (by omega)) ?_
  rintro h6 v5 ⟨h6I, h6E, w7, rfl⟩
  refine ⟨_, rfl, ?_⟩
  have h6K := pw_KE I h6E hK rfl
  have h6L := h6E.1
  show pwl X _ h6 1038 [some (.ref 0), some (.ref 16), some (.ref 141), some (.ref 185), some (pw_i i), a5, a6, a7] [.long w7] _
  have h6Rb := pw_RbE I h6E hRb rfl
  refine pwl_ld E (pc' := 1039) (st' := []) rfl (fun _ => rfl) ?_
  refine pwl_ld E (pc' := 1040) (st' := [.ref 141]) rfl (fun _ => rfl) ?_
  refine pwl_ld E (pc' := 1041) (st' := [.ref 0, .ref 141]) rfl (fun _ => rfl) ?_
  refine pwl_ld E (pc' := 1043) (st' := [pw_i i, .ref 0, .ref 141]) rfl (fun _ => rfl) ?_
  refine pwl_ld E (pc' := 1044) (st' := [pw_i 1, pw_i i, .ref 0, .ref 141]) rfl (fun _ => rfl) ?_
  refine pwl_add E (pc' := 1045) rfl rfl ?_
  refine pwl_sald E (pc' := 1046) rfl hX0 hl (by omega) (by omega) rfl ?_
  have hs8 := pw_s_r xs (i + 1)
  refine pwl_ld E (pc' := 1047) (st' := [.ref 0, pw_i (pw_s xs (i + 1)), .ref 141]) rfl (fun _ => rfl) ?_
  refine pwl_ld E (pc' := 1049) (st' := [pw_i i, .ref 0, pw_i (pw_s xs (i + 1)), .ref 141]) rfl (fun _ => rfl) ?_
  refine pwl_ld E (pc' := 1050) (st' := [pw_i 2, pw_i i, .ref 0, pw_i (pw_s xs (i + 1)), .ref 141]) rfl (fun _ => rfl) ?_
  refine pwl_add E (pc' := 1051) rfl rfl ?_
  refine pwl_sald E (pc' := 1052) rfl hX0 hl (by omega) (by omega) rfl ?_
  have hs9 := pw_s_r xs (i + 2)
  refine pwl_ld E (pc' := 1053) (st' := [.ref 0, pw_i (pw_s xs (i + 2)), pw_i (pw_s xs (i + 1)), .ref 141]) rfl (fun _ => rfl) ?_
  refine pwl_ld E (pc' := 1055) (st' := [pw_i i, .ref 0, pw_i (pw_s xs (i + 2)), pw_i (pw_s xs (i + 1)), .ref 141]) rfl (fun _ => rfl) ?_
  refine pwl_ld E (pc' := 1056) (st' := [pw_i 3, pw_i i, .ref 0, pw_i (pw_s xs (i + 2)), pw_i (pw_s xs (i + 1)), .ref 141]) rfl (fun _ => rfl) ?_
  refine pwl_add E (pc' := 1057) rfl rfl ?_
  refine pwl_sald E (pc' := 1058) rfl hX0 hl (by omega) (by omega) rfl ?_
  have hs10 := pw_s_r xs (i + 3)
  obtain ⟨f11l, f11h, -⟩ := pw_obj (c := 125) h6I rfl
  refine pwl_call (m' := 233) (As := [.ref 141, pw_i (pw_s xs (i + 1)), pw_i (pw_s xs (i + 2)), pw_i (pw_s xs (i + 3))]) (rest := []) (ls'' := [some (.ref 141), some (pw_i (pw_s xs (i + 1))), some (pw_i (pw_s xs (i + 2))), some (pw_i (pw_s xs (i + 3))), none, none, none, none, none, none, none, none, none, none, none, none, none, none, none, none, none, none, none]) E rfl (fun _ => pwl_iV rfl rfl rfl (pw_cellI f11h rfl)) (rfl : pm_ent 233 = some (4, 23, 12, 2, pmc_233)) (by decide) rfl rfl (cm_233 (by decide) h6I (pw_s xs (i + 1)) (by omega) (by omega) (pw_s xs (i + 2)) (by omega) (by omega) (pw_s xs (i + 3)) (by omega) (by omega)) ?_
  rintro h13 v12 ⟨h13I, h13E, w14, rfl⟩
  refine ⟨_, rfl, ?_⟩
  have h13K := pw_KE h6I h13E h6K rfl
  have h13L := h13E.1
  show pwl X _ h13 1061 [some (.ref 0), some (.ref 16), some (.ref 141), some (.ref 185), some (pw_i i), a5, a6, a7] [.long w14] _
  have h13Rb := pw_RbE h6I h13E h6Rb rfl
  refine pwl_ld E (pc' := 1062) (st' := []) rfl (fun _ => rfl) ?_
  refine pwl_goto E (pc' := 2341) rfl (by decide) ?_
  exact pwl_mono (by omega) (hB h13 (a5) (a6) (a7) h13I h13K h13Rb (by omega) (by omega) s5 s6 s7)
set_option maxHeartbeats 4000000 in
theorem lc_15 {X : List (Nat × List Value)} {xs : List Int32} {K : Nat} {h : pm_H} {Q : pm_H → (Option Value ⊕ Unit) → Prop} (hX0 : X[0]? = some (0, xs.map Value.int)) (hl : xs.length ≤ 3584) (hX : pw_Xk X) (hR : pw_Xr X) (hS : pw_Xs X) (hF : pw_Xf X) (I : pw_I h) (hK : pw_K h) (hRb : pw_Rb h) (i : Int) (hi0 : 0 ≤ i) (hi1 : i + 7 ≤ xs.length) (a5 a6 a7 : Option Value) (s5 : ∀ n, pm_scl n a5 = true) (s6 : ∀ n, pm_scl n a6 = true) (s7 : ∀ n, pm_scl n a7 = true) (hB : ∀ (h' : pm_H) (b5 b6 b7 : Option Value), pw_I h' → pw_K h' → pw_Rb h' → h'.length ≤ h.length + 1 → pm_slt h' ≤ pm_slt h + 1000 → (∀ n, pm_scl n b5 = true) → (∀ n, pm_scl n b6 = true) → (∀ n, pm_scl n b7 = true) → pwl X K h' 2341 [some (.ref 0), some (.ref 16), some (.ref 141), some (.ref 185), some (pw_i i), b5, b6, b7] [] Q) : pwl X (K + 150) h 1065 [some (.ref 0), some (.ref 16), some (.ref 141), some (.ref 185), some (pw_i i), a5, a6, a7] [] Q := by
  have E : pm_ent 309 = some (1, 8, 13, 1, pmc_309) := rfl
  refine pwl_ld E (pc' := 1066) (st' := [.ref 16]) rfl (fun _ => rfl) ?_
  refine pwl_ld E (pc' := 1067) (st' := [.ref 0, .ref 16]) rfl (fun _ => rfl) ?_
  refine pwl_ld E (pc' := 1069) (st' := [pw_i i, .ref 0, .ref 16]) rfl (fun _ => rfl) ?_
  refine pwl_ld E (pc' := 1070) (st' := [pw_i 1, pw_i i, .ref 0, .ref 16]) rfl (fun _ => rfl) ?_
  refine pwl_add E (pc' := 1071) rfl rfl ?_
  refine pwl_sald E (pc' := 1072) rfl hX0 hl (by omega) (by omega) rfl ?_
  have hs1 := pw_s_r xs (i + 1)
  refine pwl_ld E (pc' := 1073) (st' := [.ref 0, pw_i (pw_s xs (i + 1)), .ref 16]) rfl (fun _ => rfl) ?_
  refine pwl_ld E (pc' := 1075) (st' := [pw_i i, .ref 0, pw_i (pw_s xs (i + 1)), .ref 16]) rfl (fun _ => rfl) ?_
  refine pwl_ld E (pc' := 1076) (st' := [pw_i 2, pw_i i, .ref 0, pw_i (pw_s xs (i + 1)), .ref 16]) rfl (fun _ => rfl) ?_
  refine pwl_add E (pc' := 1077) rfl rfl ?_
  refine pwl_sald E (pc' := 1078) rfl hX0 hl (by omega) (by omega) rfl ?_
  have hs2 := pw_s_r xs (i + 2)
  refine pwl_ld E (pc' := 1079) (st' := [.ref 0, pw_i (pw_s xs (i + 2)), pw_i (pw_s xs (i + 1)), .ref 16]) rfl (fun _ => rfl) ?_
  refine pwl_ld E (pc' := 1081) (st' := [pw_i i, .ref 0, pw_i (pw_s xs (i + 2)), pw_i (pw_s xs (i + 1)), .ref 16]) rfl (fun _ => rfl) ?_
  refine pwl_ld E (pc' := 1082) (st' := [pw_i 3, pw_i i, .ref 0, pw_i (pw_s xs (i + 2)), pw_i (pw_s xs (i + 1)), .ref 16]) rfl (fun _ => rfl) ?_
  refine pwl_add E (pc' := 1083) rfl rfl ?_
  refine pwl_sald E (pc' := 1084) rfl hX0 hl (by omega) (by omega) rfl ?_
  have hs3 := pw_s_r xs (i + 3)
  refine pwl_ld E (pc' := 1085) (st' := [.ref 185, pw_i (pw_s xs (i + 3)), pw_i (pw_s xs (i + 2)), pw_i (pw_s xs (i + 1)), .ref 16]) rfl (fun _ => rfl) ?_
  refine pwl_call (m' := 316) (As := [.ref 16, pw_i (pw_s xs (i + 1)), pw_i (pw_s xs (i + 2)), pw_i (pw_s xs (i + 3)), .ref 185]) (rest := []) (ls'' := [some (.ref 16), some (pw_i (pw_s xs (i + 1))), some (pw_i (pw_s xs (i + 2))), some (pw_i (pw_s xs (i + 3))), some (.ref 185), none]) E rfl (fun _ => pwl_iS rfl rfl rfl (pw_sc8 I s5 s6 s7) rfl) (rfl : pm_ent 316 = some (5, 6, 13, 0, pmc_316)) (by decide) rfl rfl (cm_316 (by decide) I (pw_s xs (i + 1)) (by omega) (by omega) (pw_s xs (i + 2)) (by omega) (by omega) (pw_s xs (i + 3)) (by omega) (by omega)) ?_
  rintro h5 v4 ⟨h5I, h5E, x6, rfl, hx6a, hx6b⟩
  refine ⟨_, rfl, ?_⟩
  have h5K := pw_KE I h5E hK rfl
  have h5L := h5E.1
  show pwl X _ h5 1088 [some (.ref 0), some (.ref 16), some (.ref 141), some (.ref 185), some (pw_i i), a5, a6, a7] [pw_i x6] _
  have h5Rb := pw_RbE I h5E hRb rfl
  refine pwl_ist E (pc' := 1090) (ls' := [some (.ref 0), some (.ref 16), some (.ref 141), some (.ref 185), some (pw_i i), some (pw_i x6), a6, a7]) rfl rfl rfl rfl ?_
  refine pwl_ld E (pc' := 1091) (st' := [.ref 141]) rfl (fun _ => rfl) ?_
  refine pwl_ld E (pc' := 1092) (st' := [.ref 0, .ref 141]) rfl (fun _ => rfl) ?_
  refine pwl_ld E (pc' := 1094) (st' := [pw_i i, .ref 0, .ref 141]) rfl (fun _ => rfl) ?_
  refine pwl_ld E (pc' := 1095) (st' := [pw_i 1, pw_i i, .ref 0, .ref 141]) rfl (fun _ => rfl) ?_
  refine pwl_add E (pc' := 1096) rfl rfl ?_
  refine pwl_sald E (pc' := 1097) rfl hX0 hl (by omega) (by omega) rfl ?_
  have hs7 := pw_s_r xs (i + 1)
  refine pwl_ld E (pc' := 1098) (st' := [.ref 0, pw_i (pw_s xs (i + 1)), .ref 141]) rfl (fun _ => rfl) ?_
  refine pwl_ld E (pc' := 1100) (st' := [pw_i i, .ref 0, pw_i (pw_s xs (i + 1)), .ref 141]) rfl (fun _ => rfl) ?_
  refine pwl_ld E (pc' := 1101) (st' := [pw_i 2, pw_i i, .ref 0, pw_i (pw_s xs (i + 1)), .ref 141]) rfl (fun _ => rfl) ?_
  refine pwl_add E (pc' := 1102) rfl rfl ?_
  refine pwl_sald E (pc' := 1103) rfl hX0 hl (by omega) (by omega) rfl ?_
  have hs8 := pw_s_r xs (i + 2)
  refine pwl_ld E (pc' := 1104) (st' := [.ref 0, pw_i (pw_s xs (i + 2)), pw_i (pw_s xs (i + 1)), .ref 141]) rfl (fun _ => rfl) ?_
  refine pwl_ld E (pc' := 1106) (st' := [pw_i i, .ref 0, pw_i (pw_s xs (i + 2)), pw_i (pw_s xs (i + 1)), .ref 141]) rfl (fun _ => rfl) ?_
  refine pwl_ld E (pc' := 1107) (st' := [pw_i 3, pw_i i, .ref 0, pw_i (pw_s xs (i + 2)), pw_i (pw_s xs (i + 1)), .ref 141]) rfl (fun _ => rfl) ?_
  refine pwl_add E (pc' := 1108) rfl rfl ?_
  refine pwl_sald E (pc' := 1109) rfl hX0 hl (by omega) (by omega) rfl ?_
  have hs9 := pw_s_r xs (i + 3)
  obtain ⟨f10l, f10h, -⟩ := pw_obj (c := 125) h5I rfl
  refine pwl_call (m' := 234) (As := [.ref 141, pw_i (pw_s xs (i + 1)), pw_i (pw_s xs (i + 2)), pw_i (pw_s xs (i + 3))]) (rest := []) (ls'' := [some (.ref 141), some (pw_i (pw_s xs (i + 1))), some (pw_i (pw_s xs (i + 2))), some (pw_i (pw_s xs (i + 3))), none]) E rfl (fun _ => pwl_iV rfl rfl rfl (pw_cellI f10h rfl)) (rfl : pm_ent 234 = some (4, 5, 12, 2, pmc_234)) (by decide) rfl rfl (cm_234 (by decide) h5I (pw_s xs (i + 1)) (by omega) (by omega) (pw_s xs (i + 2)) (by omega) (by omega) (pw_s xs (i + 3)) (by omega) (by omega)) ?_
  rintro h12 v11 ⟨h12I, h12E, w13, rfl⟩
  refine ⟨_, rfl, ?_⟩
  have h12K := pw_KE h5I h12E h5K rfl
  have h12L := h12E.1
  show pwl X _ h12 1112 [some (.ref 0), some (.ref 16), some (.ref 141), some (.ref 185), some (pw_i i), some (pw_i x6), a6, a7] [.long w13] _
  have h12Rb := pw_RbE h5I h12E h5Rb rfl
  refine pwl_lst E (pc' := 1114) (ls' := [some (.ref 0), some (.ref 16), some (.ref 141), some (.ref 185), some (pw_i i), some (pw_i x6), some (.long w13), none]) rfl rfl rfl rfl ?_
  refine pwl_goto E (pc' := 2341) rfl (by decide) ?_
  exact pwl_mono (by omega) (hB h12 (some (pw_i x6)) (some (.long w13)) (none) h12I h12K h12Rb (by omega) (by omega) (fun _ => rfl) (fun _ => rfl) (fun _ => rfl))
set_option maxHeartbeats 4000000 in
theorem lc_16 {X : List (Nat × List Value)} {xs : List Int32} {K : Nat} {h : pm_H} {Q : pm_H → (Option Value ⊕ Unit) → Prop} (hX0 : X[0]? = some (0, xs.map Value.int)) (hl : xs.length ≤ 3584) (hX : pw_Xk X) (hR : pw_Xr X) (hS : pw_Xs X) (hF : pw_Xf X) (I : pw_I h) (hK : pw_K h) (hRb : pw_Rb h) (i : Int) (hi0 : 0 ≤ i) (hi1 : i + 7 ≤ xs.length) (a5 a6 a7 : Option Value) (s5 : ∀ n, pm_scl n a5 = true) (s6 : ∀ n, pm_scl n a6 = true) (s7 : ∀ n, pm_scl n a7 = true) (hB : ∀ (h' : pm_H) (b5 b6 b7 : Option Value), pw_I h' → pw_K h' → pw_Rb h' → h'.length ≤ h.length + 1 → pm_slt h' ≤ pm_slt h + 1000 → (∀ n, pm_scl n b5 = true) → (∀ n, pm_scl n b6 = true) → (∀ n, pm_scl n b7 = true) → pwl X K h' 2341 [some (.ref 0), some (.ref 16), some (.ref 141), some (.ref 185), some (pw_i i), b5, b6, b7] [] Q) : pwl X (K + 150) h 1117 [some (.ref 0), some (.ref 16), some (.ref 141), some (.ref 185), some (pw_i i), a5, a6, a7] [] Q := by
  have E : pm_ent 309 = some (1, 8, 13, 1, pmc_309) := rfl
  refine pwl_ld E (pc' := 1118) (st' := [.ref 16]) rfl (fun _ => rfl) ?_
  refine pwl_ld E (pc' := 1119) (st' := [.ref 0, .ref 16]) rfl (fun _ => rfl) ?_
  refine pwl_ld E (pc' := 1121) (st' := [pw_i i, .ref 0, .ref 16]) rfl (fun _ => rfl) ?_
  refine pwl_ld E (pc' := 1122) (st' := [pw_i 1, pw_i i, .ref 0, .ref 16]) rfl (fun _ => rfl) ?_
  refine pwl_add E (pc' := 1123) rfl rfl ?_
  refine pwl_sald E (pc' := 1124) rfl hX0 hl (by omega) (by omega) rfl ?_
  have hs1 := pw_s_r xs (i + 1)
  refine pwl_ld E (pc' := 1125) (st' := [.ref 0, pw_i (pw_s xs (i + 1)), .ref 16]) rfl (fun _ => rfl) ?_
  refine pwl_ld E (pc' := 1127) (st' := [pw_i i, .ref 0, pw_i (pw_s xs (i + 1)), .ref 16]) rfl (fun _ => rfl) ?_
  refine pwl_ld E (pc' := 1128) (st' := [pw_i 2, pw_i i, .ref 0, pw_i (pw_s xs (i + 1)), .ref 16]) rfl (fun _ => rfl) ?_
  refine pwl_add E (pc' := 1129) rfl rfl ?_
  refine pwl_sald E (pc' := 1130) rfl hX0 hl (by omega) (by omega) rfl ?_
  have hs2 := pw_s_r xs (i + 2)
  obtain ⟨f3l, f3h, -⟩ := pw_obj (c := 0) I rfl
  refine pwl_call (m' := 139) (As := [.ref 16, pw_i (pw_s xs (i + 1)), pw_i (pw_s xs (i + 2))]) (rest := []) (ls'' := [some (.ref 16), some (pw_i (pw_s xs (i + 1))), some (pw_i (pw_s xs (i + 2))), none, none]) E rfl (fun _ => pwl_iV rfl rfl rfl (pw_cellI f3h rfl)) (rfl : pm_ent 139 = some (3, 5, 11, 2, pmc_139)) (by decide) rfl rfl (cm_139 (by decide) I (pw_s xs (i + 1)) (by omega) (by omega) (pw_s xs (i + 2)) (by omega) (by omega)) ?_
  rintro h5 v4 ⟨h5I, h5E, w6, rfl⟩
  refine ⟨_, rfl, ?_⟩
  have h5K := pw_KE I h5E hK rfl
  have h5L := h5E.1
  show pwl X _ h5 1133 [some (.ref 0), some (.ref 16), some (.ref 141), some (.ref 185), some (pw_i i), a5, a6, a7] [.long w6] _
  have h5Rb := pw_RbE I h5E hRb rfl
  refine pwl_ld E (pc' := 1134) (st' := []) rfl (fun _ => rfl) ?_
  refine pwl_ld E (pc' := 1135) (st' := [.ref 141]) rfl (fun _ => rfl) ?_
  refine pwl_ld E (pc' := 1136) (st' := [.ref 0, .ref 141]) rfl (fun _ => rfl) ?_
  refine pwl_ld E (pc' := 1138) (st' := [pw_i i, .ref 0, .ref 141]) rfl (fun _ => rfl) ?_
  refine pwl_ld E (pc' := 1139) (st' := [pw_i 1, pw_i i, .ref 0, .ref 141]) rfl (fun _ => rfl) ?_
  refine pwl_add E (pc' := 1140) rfl rfl ?_
  refine pwl_sald E (pc' := 1141) rfl hX0 hl (by omega) (by omega) rfl ?_
  have hs7 := pw_s_r xs (i + 1)
  refine pwl_ld E (pc' := 1142) (st' := [.ref 0, pw_i (pw_s xs (i + 1)), .ref 141]) rfl (fun _ => rfl) ?_
  refine pwl_ld E (pc' := 1144) (st' := [pw_i i, .ref 0, pw_i (pw_s xs (i + 1)), .ref 141]) rfl (fun _ => rfl) ?_
  refine pwl_ld E (pc' := 1145) (st' := [pw_i 2, pw_i i, .ref 0, pw_i (pw_s xs (i + 1)), .ref 141]) rfl (fun _ => rfl) ?_
  refine pwl_add E (pc' := 1146) rfl rfl ?_
  refine pwl_sald E (pc' := 1147) rfl hX0 hl (by omega) (by omega) rfl ?_
  have hs8 := pw_s_r xs (i + 2)
  obtain ⟨f9l, f9h, -⟩ := pw_obj (c := 125) h5I rfl
  refine pwl_call (m' := 235) (As := [.ref 141, pw_i (pw_s xs (i + 1)), pw_i (pw_s xs (i + 2))]) (rest := []) (ls'' := [some (.ref 141), some (pw_i (pw_s xs (i + 1))), some (pw_i (pw_s xs (i + 2))), none, none, none, none, none, none, none, none]) E rfl (fun _ => pwl_iV rfl rfl rfl (pw_cellI f9h rfl)) (rfl : pm_ent 235 = some (3, 11, 12, 2, pmc_235)) (by decide) rfl rfl (cm_235 (by decide) h5I (pw_s xs (i + 1)) (by omega) (by omega) (pw_s xs (i + 2)) (by omega) (by omega)) ?_
  rintro h11 v10 ⟨h11I, h11E, w12, rfl⟩
  refine ⟨_, rfl, ?_⟩
  have h11K := pw_KE h5I h11E h5K rfl
  have h11L := h11E.1
  show pwl X _ h11 1150 [some (.ref 0), some (.ref 16), some (.ref 141), some (.ref 185), some (pw_i i), a5, a6, a7] [.long w12] _
  have h11Rb := pw_RbE h5I h11E h5Rb rfl
  refine pwl_ld E (pc' := 1151) (st' := []) rfl (fun _ => rfl) ?_
  refine pwl_goto E (pc' := 2341) rfl (by decide) ?_
  exact pwl_mono (by omega) (hB h11 (a5) (a6) (a7) h11I h11K h11Rb (by omega) (by omega) s5 s6 s7)
set_option maxHeartbeats 4000000 in
theorem lc_17 {X : List (Nat × List Value)} {xs : List Int32} {K : Nat} {h : pm_H} {Q : pm_H → (Option Value ⊕ Unit) → Prop} (hX0 : X[0]? = some (0, xs.map Value.int)) (hl : xs.length ≤ 3584) (hX : pw_Xk X) (hR : pw_Xr X) (hS : pw_Xs X) (hF : pw_Xf X) (I : pw_I h) (hK : pw_K h) (hRb : pw_Rb h) (i : Int) (hi0 : 0 ≤ i) (hi1 : i + 7 ≤ xs.length) (a5 a6 a7 : Option Value) (s5 : ∀ n, pm_scl n a5 = true) (s6 : ∀ n, pm_scl n a6 = true) (s7 : ∀ n, pm_scl n a7 = true) (hB : ∀ (h' : pm_H) (b5 b6 b7 : Option Value), pw_I h' → pw_K h' → pw_Rb h' → h'.length ≤ h.length + 1 → pm_slt h' ≤ pm_slt h + 1000 → (∀ n, pm_scl n b5 = true) → (∀ n, pm_scl n b6 = true) → (∀ n, pm_scl n b7 = true) → pwl X K h' 2341 [some (.ref 0), some (.ref 16), some (.ref 141), some (.ref 185), some (pw_i i), b5, b6, b7] [] Q) : pwl X (K + 150) h 1154 [some (.ref 0), some (.ref 16), some (.ref 141), some (.ref 185), some (pw_i i), a5, a6, a7] [] Q := by
  have E : pm_ent 309 = some (1, 8, 13, 1, pmc_309) := rfl
  refine pwl_ld E (pc' := 1155) (st' := [.ref 16]) rfl (fun _ => rfl) ?_
  refine pwl_ld E (pc' := 1156) (st' := [.ref 0, .ref 16]) rfl (fun _ => rfl) ?_
  refine pwl_ld E (pc' := 1158) (st' := [pw_i i, .ref 0, .ref 16]) rfl (fun _ => rfl) ?_
  refine pwl_ld E (pc' := 1159) (st' := [pw_i 1, pw_i i, .ref 0, .ref 16]) rfl (fun _ => rfl) ?_
  refine pwl_add E (pc' := 1160) rfl rfl ?_
  refine pwl_sald E (pc' := 1161) rfl hX0 hl (by omega) (by omega) rfl ?_
  have hs1 := pw_s_r xs (i + 1)
  refine pwl_ld E (pc' := 1162) (st' := [.ref 0, pw_i (pw_s xs (i + 1)), .ref 16]) rfl (fun _ => rfl) ?_
  refine pwl_ld E (pc' := 1164) (st' := [pw_i i, .ref 0, pw_i (pw_s xs (i + 1)), .ref 16]) rfl (fun _ => rfl) ?_
  refine pwl_ld E (pc' := 1165) (st' := [pw_i 2, pw_i i, .ref 0, pw_i (pw_s xs (i + 1)), .ref 16]) rfl (fun _ => rfl) ?_
  refine pwl_add E (pc' := 1166) rfl rfl ?_
  refine pwl_sald E (pc' := 1167) rfl hX0 hl (by omega) (by omega) rfl ?_
  have hs2 := pw_s_r xs (i + 2)
  refine pwl_ld E (pc' := 1168) (st' := [.ref 0, pw_i (pw_s xs (i + 2)), pw_i (pw_s xs (i + 1)), .ref 16]) rfl (fun _ => rfl) ?_
  refine pwl_ld E (pc' := 1170) (st' := [pw_i i, .ref 0, pw_i (pw_s xs (i + 2)), pw_i (pw_s xs (i + 1)), .ref 16]) rfl (fun _ => rfl) ?_
  refine pwl_ld E (pc' := 1171) (st' := [pw_i 3, pw_i i, .ref 0, pw_i (pw_s xs (i + 2)), pw_i (pw_s xs (i + 1)), .ref 16]) rfl (fun _ => rfl) ?_
  refine pwl_add E (pc' := 1172) rfl rfl ?_
  refine pwl_sald E (pc' := 1173) rfl hX0 hl (by omega) (by omega) rfl ?_
  have hs3 := pw_s_r xs (i + 3)
  refine pwl_ld E (pc' := 1174) (st' := [.ref 0, pw_i (pw_s xs (i + 3)), pw_i (pw_s xs (i + 2)), pw_i (pw_s xs (i + 1)), .ref 16]) rfl (fun _ => rfl) ?_
  refine pwl_ld E (pc' := 1176) (st' := [pw_i i, .ref 0, pw_i (pw_s xs (i + 3)), pw_i (pw_s xs (i + 2)), pw_i (pw_s xs (i + 1)), .ref 16]) rfl (fun _ => rfl) ?_
  refine pwl_ld E (pc' := 1177) (st' := [pw_i 4, pw_i i, .ref 0, pw_i (pw_s xs (i + 3)), pw_i (pw_s xs (i + 2)), pw_i (pw_s xs (i + 1)), .ref 16]) rfl (fun _ => rfl) ?_
  refine pwl_add E (pc' := 1178) rfl rfl ?_
  refine pwl_sald E (pc' := 1179) rfl hX0 hl (by omega) (by omega) rfl ?_
  have hs4 := pw_s_r xs (i + 4)
  refine pwl_ld E (pc' := 1180) (st' := [.ref 185, pw_i (pw_s xs (i + 4)), pw_i (pw_s xs (i + 3)), pw_i (pw_s xs (i + 2)), pw_i (pw_s xs (i + 1)), .ref 16]) rfl (fun _ => rfl) ?_
  refine pwl_call (m' := 317) (As := [.ref 16, pw_i (pw_s xs (i + 1)), pw_i (pw_s xs (i + 2)), pw_i (pw_s xs (i + 3)), pw_i (pw_s xs (i + 4)), .ref 185]) (rest := []) (ls'' := [some (.ref 16), some (pw_i (pw_s xs (i + 1))), some (pw_i (pw_s xs (i + 2))), some (pw_i (pw_s xs (i + 3))), some (pw_i (pw_s xs (i + 4))), some (.ref 185), none]) E rfl (fun _ => pwl_iS rfl rfl rfl (pw_sc8 I s5 s6 s7) rfl) (rfl : pm_ent 317 = some (6, 7, 13, 0, pmc_317)) (by decide) rfl rfl (cm_317 (by decide) I (pw_s xs (i + 1)) (by omega) (by omega) (pw_s xs (i + 2)) (by omega) (by omega) (pw_s xs (i + 3)) (by omega) (by omega) (pw_s xs (i + 4)) (by omega) (by omega)) ?_
  rintro h6 v5 ⟨h6I, h6E, x7, rfl, hx7a, hx7b⟩
  refine ⟨_, rfl, ?_⟩
  have h6K := pw_KE I h6E hK rfl
  have h6L := h6E.1
  show pwl X _ h6 1183 [some (.ref 0), some (.ref 16), some (.ref 141), some (.ref 185), some (pw_i i), a5, a6, a7] [pw_i x7] _
  have h6Rb := pw_RbE I h6E hRb rfl
  refine pwl_ist E (pc' := 1185) (ls' := [some (.ref 0), some (.ref 16), some (.ref 141), some (.ref 185), some (pw_i i), some (pw_i x7), a6, a7]) rfl rfl rfl rfl ?_
  refine pwl_ld E (pc' := 1186) (st' := [.ref 141]) rfl (fun _ => rfl) ?_
  refine pwl_ld E (pc' := 1187) (st' := [.ref 0, .ref 141]) rfl (fun _ => rfl) ?_
  refine pwl_ld E (pc' := 1189) (st' := [pw_i i, .ref 0, .ref 141]) rfl (fun _ => rfl) ?_
  refine pwl_ld E (pc' := 1190) (st' := [pw_i 1, pw_i i, .ref 0, .ref 141]) rfl (fun _ => rfl) ?_
  refine pwl_add E (pc' := 1191) rfl rfl ?_
  refine pwl_sald E (pc' := 1192) rfl hX0 hl (by omega) (by omega) rfl ?_
  have hs8 := pw_s_r xs (i + 1)
  refine pwl_ld E (pc' := 1193) (st' := [.ref 0, pw_i (pw_s xs (i + 1)), .ref 141]) rfl (fun _ => rfl) ?_
  refine pwl_ld E (pc' := 1195) (st' := [pw_i i, .ref 0, pw_i (pw_s xs (i + 1)), .ref 141]) rfl (fun _ => rfl) ?_
  refine pwl_ld E (pc' := 1196) (st' := [pw_i 2, pw_i i, .ref 0, pw_i (pw_s xs (i + 1)), .ref 141]) rfl (fun _ => rfl) ?_
  refine pwl_add E (pc' := 1197) rfl rfl ?_
  refine pwl_sald E (pc' := 1198) rfl hX0 hl (by omega) (by omega) rfl ?_
  have hs9 := pw_s_r xs (i + 2)
  refine pwl_ld E (pc' := 1199) (st' := [.ref 0, pw_i (pw_s xs (i + 2)), pw_i (pw_s xs (i + 1)), .ref 141]) rfl (fun _ => rfl) ?_
  refine pwl_ld E (pc' := 1201) (st' := [pw_i i, .ref 0, pw_i (pw_s xs (i + 2)), pw_i (pw_s xs (i + 1)), .ref 141]) rfl (fun _ => rfl) ?_
  refine pwl_ld E (pc' := 1202) (st' := [pw_i 3, pw_i i, .ref 0, pw_i (pw_s xs (i + 2)), pw_i (pw_s xs (i + 1)), .ref 141]) rfl (fun _ => rfl) ?_
  refine pwl_add E (pc' := 1203) rfl rfl ?_
  refine pwl_sald E (pc' := 1204) rfl hX0 hl (by omega) (by omega) rfl ?_
  have hs10 := pw_s_r xs (i + 3)
  refine pwl_ld E (pc' := 1205) (st' := [.ref 0, pw_i (pw_s xs (i + 3)), pw_i (pw_s xs (i + 2)), pw_i (pw_s xs (i + 1)), .ref 141]) rfl (fun _ => rfl) ?_
  refine pwl_ld E (pc' := 1207) (st' := [pw_i i, .ref 0, pw_i (pw_s xs (i + 3)), pw_i (pw_s xs (i + 2)), pw_i (pw_s xs (i + 1)), .ref 141]) rfl (fun _ => rfl) ?_
  refine pwl_ld E (pc' := 1208) (st' := [pw_i 4, pw_i i, .ref 0, pw_i (pw_s xs (i + 3)), pw_i (pw_s xs (i + 2)), pw_i (pw_s xs (i + 1)), .ref 141]) rfl (fun _ => rfl) ?_
  refine pwl_add E (pc' := 1209) rfl rfl ?_
  refine pwl_sald E (pc' := 1210) rfl hX0 hl (by omega) (by omega) rfl ?_
  have hs11 := pw_s_r xs (i + 4)
  obtain ⟨f12l, f12h, -⟩ := pw_obj (c := 125) h6I rfl
  refine pwl_call (m' := 236) (As := [.ref 141, pw_i (pw_s xs (i + 1)), pw_i (pw_s xs (i + 2)), pw_i (pw_s xs (i + 3)), pw_i (pw_s xs (i + 4))]) (rest := []) (ls'' := [some (.ref 141), some (pw_i (pw_s xs (i + 1))), some (pw_i (pw_s xs (i + 2))), some (pw_i (pw_s xs (i + 3))), some (pw_i (pw_s xs (i + 4)))]) E rfl (fun _ => pwl_iV rfl rfl rfl (pw_cellI f12h rfl)) (rfl : pm_ent 236 = some (5, 5, 12, 2, pmc_236)) (by decide) rfl rfl (cm_236 (by decide) h6I (pw_s xs (i + 1)) (by omega) (by omega) (pw_s xs (i + 2)) (by omega) (by omega) (pw_s xs (i + 3)) (by omega) (by omega) (pw_s xs (i + 4)) (by omega) (by omega)) ?_
  rintro h14 v13 ⟨h14I, h14E, w15, rfl⟩
  refine ⟨_, rfl, ?_⟩
  have h14K := pw_KE h6I h14E h6K rfl
  have h14L := h14E.1
  show pwl X _ h14 1213 [some (.ref 0), some (.ref 16), some (.ref 141), some (.ref 185), some (pw_i i), some (pw_i x7), a6, a7] [.long w15] _
  have h14Rb := pw_RbE h6I h14E h6Rb rfl
  refine pwl_lst E (pc' := 1215) (ls' := [some (.ref 0), some (.ref 16), some (.ref 141), some (.ref 185), some (pw_i i), some (pw_i x7), some (.long w15), none]) rfl rfl rfl rfl ?_
  refine pwl_goto E (pc' := 2341) rfl (by decide) ?_
  exact pwl_mono (by omega) (hB h14 (some (pw_i x7)) (some (.long w15)) (none) h14I h14K h14Rb (by omega) (by omega) (fun _ => rfl) (fun _ => rfl) (fun _ => rfl))
set_option maxHeartbeats 4000000 in
theorem lc_18 {X : List (Nat × List Value)} {xs : List Int32} {K : Nat} {h : pm_H} {Q : pm_H → (Option Value ⊕ Unit) → Prop} (hX0 : X[0]? = some (0, xs.map Value.int)) (hl : xs.length ≤ 3584) (hX : pw_Xk X) (hR : pw_Xr X) (hS : pw_Xs X) (hF : pw_Xf X) (I : pw_I h) (hK : pw_K h) (hRb : pw_Rb h) (i : Int) (hi0 : 0 ≤ i) (hi1 : i + 7 ≤ xs.length) (a5 a6 a7 : Option Value) (s5 : ∀ n, pm_scl n a5 = true) (s6 : ∀ n, pm_scl n a6 = true) (s7 : ∀ n, pm_scl n a7 = true) (hB : ∀ (h' : pm_H) (b5 b6 b7 : Option Value), pw_I h' → pw_K h' → pw_Rb h' → h'.length ≤ h.length + 1 → pm_slt h' ≤ pm_slt h + 1000 → (∀ n, pm_scl n b5 = true) → (∀ n, pm_scl n b6 = true) → (∀ n, pm_scl n b7 = true) → pwl X K h' 2341 [some (.ref 0), some (.ref 16), some (.ref 141), some (.ref 185), some (pw_i i), b5, b6, b7] [] Q) : pwl X (K + 150) h 1218 [some (.ref 0), some (.ref 16), some (.ref 141), some (.ref 185), some (pw_i i), a5, a6, a7] [] Q := by
  have E : pm_ent 309 = some (1, 8, 13, 1, pmc_309) := rfl
  refine pwl_ld E (pc' := 1219) (st' := [.ref 16]) rfl (fun _ => rfl) ?_
  refine pwl_ld E (pc' := 1220) (st' := [.ref 0, .ref 16]) rfl (fun _ => rfl) ?_
  refine pwl_ld E (pc' := 1222) (st' := [pw_i i, .ref 0, .ref 16]) rfl (fun _ => rfl) ?_
  refine pwl_ld E (pc' := 1223) (st' := [pw_i 1, pw_i i, .ref 0, .ref 16]) rfl (fun _ => rfl) ?_
  refine pwl_add E (pc' := 1224) rfl rfl ?_
  refine pwl_sald E (pc' := 1225) rfl hX0 hl (by omega) (by omega) rfl ?_
  have hs1 := pw_s_r xs (i + 1)
  refine pwl_ld E (pc' := 1226) (st' := [.long ((Int32.ofInt (pw_s xs (i + 1))).toInt64), .ref 16]) rfl (fun _ => rfl) ?_
  refine pwl_bip E (pc' := 1228) rfl rfl (by decide) ?_
  refine pwl_ld E (pc' := 1229) (st' := [.long (((Int32.ofInt (pw_s xs (i + 1))).toInt64) <<< ((Int32.ofInt 32).toInt64 &&& 63)), .ref 16]) rfl (fun _ => rfl) ?_
  refine pwl_ld E (pc' := 1230) (st' := [.ref 0, .long (((Int32.ofInt (pw_s xs (i + 1))).toInt64) <<< ((Int32.ofInt 32).toInt64 &&& 63)), .ref 16]) rfl (fun _ => rfl) ?_
  refine pwl_ld E (pc' := 1232) (st' := [pw_i i, .ref 0, .long (((Int32.ofInt (pw_s xs (i + 1))).toInt64) <<< ((Int32.ofInt 32).toInt64 &&& 63)), .ref 16]) rfl (fun _ => rfl) ?_
  refine pwl_ld E (pc' := 1233) (st' := [pw_i 2, pw_i i, .ref 0, .long (((Int32.ofInt (pw_s xs (i + 1))).toInt64) <<< ((Int32.ofInt 32).toInt64 &&& 63)), .ref 16]) rfl (fun _ => rfl) ?_
  refine pwl_add E (pc' := 1234) rfl rfl ?_
  refine pwl_sald E (pc' := 1235) rfl hX0 hl (by omega) (by omega) rfl ?_
  have hs2 := pw_s_r xs (i + 2)
  refine pwl_ld E (pc' := 1236) (st' := [.long ((Int32.ofInt (pw_s xs (i + 2))).toInt64), .long (((Int32.ofInt (pw_s xs (i + 1))).toInt64) <<< ((Int32.ofInt 32).toInt64 &&& 63)), .ref 16]) rfl (fun _ => rfl) ?_
  refine pwl_ld E (pc' := 1239) (st' := [.long (Int64.ofNat 4294967295), .long ((Int32.ofInt (pw_s xs (i + 2))).toInt64), .long (((Int32.ofInt (pw_s xs (i + 1))).toInt64) <<< ((Int32.ofInt 32).toInt64 &&& 63)), .ref 16]) rfl (fun _ => rfl) ?_
  refine pwl_ld E (pc' := 1240) (st' := [.long (((Int32.ofInt (pw_s xs (i + 2))).toInt64) &&& (Int64.ofNat 4294967295)), .long (((Int32.ofInt (pw_s xs (i + 1))).toInt64) <<< ((Int32.ofInt 32).toInt64 &&& 63)), .ref 16]) rfl (fun _ => rfl) ?_
  refine pwl_ld E (pc' := 1241) (st' := [.long ((((Int32.ofInt (pw_s xs (i + 1))).toInt64) <<< ((Int32.ofInt 32).toInt64 &&& 63)) ||| (((Int32.ofInt (pw_s xs (i + 2))).toInt64) &&& (Int64.ofNat 4294967295))), .ref 16]) rfl (fun _ => rfl) ?_
  refine pwl_ld E (pc' := 1242) (st' := [.ref 0, .long ((((Int32.ofInt (pw_s xs (i + 1))).toInt64) <<< ((Int32.ofInt 32).toInt64 &&& 63)) ||| (((Int32.ofInt (pw_s xs (i + 2))).toInt64) &&& (Int64.ofNat 4294967295))), .ref 16]) rfl (fun _ => rfl) ?_
  refine pwl_ld E (pc' := 1244) (st' := [pw_i i, .ref 0, .long ((((Int32.ofInt (pw_s xs (i + 1))).toInt64) <<< ((Int32.ofInt 32).toInt64 &&& 63)) ||| (((Int32.ofInt (pw_s xs (i + 2))).toInt64) &&& (Int64.ofNat 4294967295))), .ref 16]) rfl (fun _ => rfl) ?_
  refine pwl_ld E (pc' := 1245) (st' := [pw_i 3, pw_i i, .ref 0, .long ((((Int32.ofInt (pw_s xs (i + 1))).toInt64) <<< ((Int32.ofInt 32).toInt64 &&& 63)) ||| (((Int32.ofInt (pw_s xs (i + 2))).toInt64) &&& (Int64.ofNat 4294967295))), .ref 16]) rfl (fun _ => rfl) ?_
  refine pwl_add E (pc' := 1246) rfl rfl ?_
  refine pwl_sald E (pc' := 1247) rfl hX0 hl (by omega) (by omega) rfl ?_
  have hs3 := pw_s_r xs (i + 3)
  refine pwl_ld E (pc' := 1248) (st' := [.long ((Int32.ofInt (pw_s xs (i + 3))).toInt64), .long ((((Int32.ofInt (pw_s xs (i + 1))).toInt64) <<< ((Int32.ofInt 32).toInt64 &&& 63)) ||| (((Int32.ofInt (pw_s xs (i + 2))).toInt64) &&& (Int64.ofNat 4294967295))), .ref 16]) rfl (fun _ => rfl) ?_
  refine pwl_bip E (pc' := 1250) rfl rfl (by decide) ?_
  refine pwl_ld E (pc' := 1251) (st' := [.long (((Int32.ofInt (pw_s xs (i + 3))).toInt64) <<< ((Int32.ofInt 32).toInt64 &&& 63)), .long ((((Int32.ofInt (pw_s xs (i + 1))).toInt64) <<< ((Int32.ofInt 32).toInt64 &&& 63)) ||| (((Int32.ofInt (pw_s xs (i + 2))).toInt64) &&& (Int64.ofNat 4294967295))), .ref 16]) rfl (fun _ => rfl) ?_
  refine pwl_ld E (pc' := 1252) (st' := [.ref 0, .long (((Int32.ofInt (pw_s xs (i + 3))).toInt64) <<< ((Int32.ofInt 32).toInt64 &&& 63)), .long ((((Int32.ofInt (pw_s xs (i + 1))).toInt64) <<< ((Int32.ofInt 32).toInt64 &&& 63)) ||| (((Int32.ofInt (pw_s xs (i + 2))).toInt64) &&& (Int64.ofNat 4294967295))), .ref 16]) rfl (fun _ => rfl) ?_
  refine pwl_ld E (pc' := 1254) (st' := [pw_i i, .ref 0, .long (((Int32.ofInt (pw_s xs (i + 3))).toInt64) <<< ((Int32.ofInt 32).toInt64 &&& 63)), .long ((((Int32.ofInt (pw_s xs (i + 1))).toInt64) <<< ((Int32.ofInt 32).toInt64 &&& 63)) ||| (((Int32.ofInt (pw_s xs (i + 2))).toInt64) &&& (Int64.ofNat 4294967295))), .ref 16]) rfl (fun _ => rfl) ?_
  refine pwl_ld E (pc' := 1255) (st' := [pw_i 4, pw_i i, .ref 0, .long (((Int32.ofInt (pw_s xs (i + 3))).toInt64) <<< ((Int32.ofInt 32).toInt64 &&& 63)), .long ((((Int32.ofInt (pw_s xs (i + 1))).toInt64) <<< ((Int32.ofInt 32).toInt64 &&& 63)) ||| (((Int32.ofInt (pw_s xs (i + 2))).toInt64) &&& (Int64.ofNat 4294967295))), .ref 16]) rfl (fun _ => rfl) ?_
  refine pwl_add E (pc' := 1256) rfl rfl ?_
  refine pwl_sald E (pc' := 1257) rfl hX0 hl (by omega) (by omega) rfl ?_
  have hs4 := pw_s_r xs (i + 4)
  refine pwl_ld E (pc' := 1258) (st' := [.long ((Int32.ofInt (pw_s xs (i + 4))).toInt64), .long (((Int32.ofInt (pw_s xs (i + 3))).toInt64) <<< ((Int32.ofInt 32).toInt64 &&& 63)), .long ((((Int32.ofInt (pw_s xs (i + 1))).toInt64) <<< ((Int32.ofInt 32).toInt64 &&& 63)) ||| (((Int32.ofInt (pw_s xs (i + 2))).toInt64) &&& (Int64.ofNat 4294967295))), .ref 16]) rfl (fun _ => rfl) ?_
  refine pwl_ld E (pc' := 1261) (st' := [.long (Int64.ofNat 4294967295), .long ((Int32.ofInt (pw_s xs (i + 4))).toInt64), .long (((Int32.ofInt (pw_s xs (i + 3))).toInt64) <<< ((Int32.ofInt 32).toInt64 &&& 63)), .long ((((Int32.ofInt (pw_s xs (i + 1))).toInt64) <<< ((Int32.ofInt 32).toInt64 &&& 63)) ||| (((Int32.ofInt (pw_s xs (i + 2))).toInt64) &&& (Int64.ofNat 4294967295))), .ref 16]) rfl (fun _ => rfl) ?_
  refine pwl_ld E (pc' := 1262) (st' := [.long (((Int32.ofInt (pw_s xs (i + 4))).toInt64) &&& (Int64.ofNat 4294967295)), .long (((Int32.ofInt (pw_s xs (i + 3))).toInt64) <<< ((Int32.ofInt 32).toInt64 &&& 63)), .long ((((Int32.ofInt (pw_s xs (i + 1))).toInt64) <<< ((Int32.ofInt 32).toInt64 &&& 63)) ||| (((Int32.ofInt (pw_s xs (i + 2))).toInt64) &&& (Int64.ofNat 4294967295))), .ref 16]) rfl (fun _ => rfl) ?_
  refine pwl_ld E (pc' := 1263) (st' := [.long ((((Int32.ofInt (pw_s xs (i + 3))).toInt64) <<< ((Int32.ofInt 32).toInt64 &&& 63)) ||| (((Int32.ofInt (pw_s xs (i + 4))).toInt64) &&& (Int64.ofNat 4294967295))), .long ((((Int32.ofInt (pw_s xs (i + 1))).toInt64) <<< ((Int32.ofInt 32).toInt64 &&& 63)) ||| (((Int32.ofInt (pw_s xs (i + 2))).toInt64) &&& (Int64.ofNat 4294967295))), .ref 16]) rfl (fun _ => rfl) ?_
  refine pwl_ld E (pc' := 1264) (st' := [.ref 0, .long ((((Int32.ofInt (pw_s xs (i + 3))).toInt64) <<< ((Int32.ofInt 32).toInt64 &&& 63)) ||| (((Int32.ofInt (pw_s xs (i + 4))).toInt64) &&& (Int64.ofNat 4294967295))), .long ((((Int32.ofInt (pw_s xs (i + 1))).toInt64) <<< ((Int32.ofInt 32).toInt64 &&& 63)) ||| (((Int32.ofInt (pw_s xs (i + 2))).toInt64) &&& (Int64.ofNat 4294967295))), .ref 16]) rfl (fun _ => rfl) ?_
  refine pwl_ld E (pc' := 1266) (st' := [pw_i i, .ref 0, .long ((((Int32.ofInt (pw_s xs (i + 3))).toInt64) <<< ((Int32.ofInt 32).toInt64 &&& 63)) ||| (((Int32.ofInt (pw_s xs (i + 4))).toInt64) &&& (Int64.ofNat 4294967295))), .long ((((Int32.ofInt (pw_s xs (i + 1))).toInt64) <<< ((Int32.ofInt 32).toInt64 &&& 63)) ||| (((Int32.ofInt (pw_s xs (i + 2))).toInt64) &&& (Int64.ofNat 4294967295))), .ref 16]) rfl (fun _ => rfl) ?_
  refine pwl_ld E (pc' := 1267) (st' := [pw_i 5, pw_i i, .ref 0, .long ((((Int32.ofInt (pw_s xs (i + 3))).toInt64) <<< ((Int32.ofInt 32).toInt64 &&& 63)) ||| (((Int32.ofInt (pw_s xs (i + 4))).toInt64) &&& (Int64.ofNat 4294967295))), .long ((((Int32.ofInt (pw_s xs (i + 1))).toInt64) <<< ((Int32.ofInt 32).toInt64 &&& 63)) ||| (((Int32.ofInt (pw_s xs (i + 2))).toInt64) &&& (Int64.ofNat 4294967295))), .ref 16]) rfl (fun _ => rfl) ?_
  refine pwl_add E (pc' := 1268) rfl rfl ?_
  refine pwl_sald E (pc' := 1269) rfl hX0 hl (by omega) (by omega) rfl ?_
  have hs5 := pw_s_r xs (i + 5)
  refine pwl_ld E (pc' := 1270) (st' := [.long ((Int32.ofInt (pw_s xs (i + 5))).toInt64), .long ((((Int32.ofInt (pw_s xs (i + 3))).toInt64) <<< ((Int32.ofInt 32).toInt64 &&& 63)) ||| (((Int32.ofInt (pw_s xs (i + 4))).toInt64) &&& (Int64.ofNat 4294967295))), .long ((((Int32.ofInt (pw_s xs (i + 1))).toInt64) <<< ((Int32.ofInt 32).toInt64 &&& 63)) ||| (((Int32.ofInt (pw_s xs (i + 2))).toInt64) &&& (Int64.ofNat 4294967295))), .ref 16]) rfl (fun _ => rfl) ?_
  refine pwl_bip E (pc' := 1272) rfl rfl (by decide) ?_
  refine pwl_ld E (pc' := 1273) (st' := [.long (((Int32.ofInt (pw_s xs (i + 5))).toInt64) <<< ((Int32.ofInt 32).toInt64 &&& 63)), .long ((((Int32.ofInt (pw_s xs (i + 3))).toInt64) <<< ((Int32.ofInt 32).toInt64 &&& 63)) ||| (((Int32.ofInt (pw_s xs (i + 4))).toInt64) &&& (Int64.ofNat 4294967295))), .long ((((Int32.ofInt (pw_s xs (i + 1))).toInt64) <<< ((Int32.ofInt 32).toInt64 &&& 63)) ||| (((Int32.ofInt (pw_s xs (i + 2))).toInt64) &&& (Int64.ofNat 4294967295))), .ref 16]) rfl (fun _ => rfl) ?_
  refine pwl_ld E (pc' := 1274) (st' := [.ref 0, .long (((Int32.ofInt (pw_s xs (i + 5))).toInt64) <<< ((Int32.ofInt 32).toInt64 &&& 63)), .long ((((Int32.ofInt (pw_s xs (i + 3))).toInt64) <<< ((Int32.ofInt 32).toInt64 &&& 63)) ||| (((Int32.ofInt (pw_s xs (i + 4))).toInt64) &&& (Int64.ofNat 4294967295))), .long ((((Int32.ofInt (pw_s xs (i + 1))).toInt64) <<< ((Int32.ofInt 32).toInt64 &&& 63)) ||| (((Int32.ofInt (pw_s xs (i + 2))).toInt64) &&& (Int64.ofNat 4294967295))), .ref 16]) rfl (fun _ => rfl) ?_
  refine pwl_ld E (pc' := 1276) (st' := [pw_i i, .ref 0, .long (((Int32.ofInt (pw_s xs (i + 5))).toInt64) <<< ((Int32.ofInt 32).toInt64 &&& 63)), .long ((((Int32.ofInt (pw_s xs (i + 3))).toInt64) <<< ((Int32.ofInt 32).toInt64 &&& 63)) ||| (((Int32.ofInt (pw_s xs (i + 4))).toInt64) &&& (Int64.ofNat 4294967295))), .long ((((Int32.ofInt (pw_s xs (i + 1))).toInt64) <<< ((Int32.ofInt 32).toInt64 &&& 63)) ||| (((Int32.ofInt (pw_s xs (i + 2))).toInt64) &&& (Int64.ofNat 4294967295))), .ref 16]) rfl (fun _ => rfl) ?_
  refine pwl_bip E (pc' := 1278) rfl rfl (by decide) ?_
  refine pwl_add E (pc' := 1279) rfl rfl ?_
  refine pwl_sald E (pc' := 1280) rfl hX0 hl (by omega) (by omega) rfl ?_
  have hs6 := pw_s_r xs (i + 6)
  refine pwl_ld E (pc' := 1281) (st' := [.long ((Int32.ofInt (pw_s xs (i + 6))).toInt64), .long (((Int32.ofInt (pw_s xs (i + 5))).toInt64) <<< ((Int32.ofInt 32).toInt64 &&& 63)), .long ((((Int32.ofInt (pw_s xs (i + 3))).toInt64) <<< ((Int32.ofInt 32).toInt64 &&& 63)) ||| (((Int32.ofInt (pw_s xs (i + 4))).toInt64) &&& (Int64.ofNat 4294967295))), .long ((((Int32.ofInt (pw_s xs (i + 1))).toInt64) <<< ((Int32.ofInt 32).toInt64 &&& 63)) ||| (((Int32.ofInt (pw_s xs (i + 2))).toInt64) &&& (Int64.ofNat 4294967295))), .ref 16]) rfl (fun _ => rfl) ?_
  refine pwl_ld E (pc' := 1284) (st' := [.long (Int64.ofNat 4294967295), .long ((Int32.ofInt (pw_s xs (i + 6))).toInt64), .long (((Int32.ofInt (pw_s xs (i + 5))).toInt64) <<< ((Int32.ofInt 32).toInt64 &&& 63)), .long ((((Int32.ofInt (pw_s xs (i + 3))).toInt64) <<< ((Int32.ofInt 32).toInt64 &&& 63)) ||| (((Int32.ofInt (pw_s xs (i + 4))).toInt64) &&& (Int64.ofNat 4294967295))), .long ((((Int32.ofInt (pw_s xs (i + 1))).toInt64) <<< ((Int32.ofInt 32).toInt64 &&& 63)) ||| (((Int32.ofInt (pw_s xs (i + 2))).toInt64) &&& (Int64.ofNat 4294967295))), .ref 16]) rfl (fun _ => rfl) ?_
  refine pwl_ld E (pc' := 1285) (st' := [.long (((Int32.ofInt (pw_s xs (i + 6))).toInt64) &&& (Int64.ofNat 4294967295)), .long (((Int32.ofInt (pw_s xs (i + 5))).toInt64) <<< ((Int32.ofInt 32).toInt64 &&& 63)), .long ((((Int32.ofInt (pw_s xs (i + 3))).toInt64) <<< ((Int32.ofInt 32).toInt64 &&& 63)) ||| (((Int32.ofInt (pw_s xs (i + 4))).toInt64) &&& (Int64.ofNat 4294967295))), .long ((((Int32.ofInt (pw_s xs (i + 1))).toInt64) <<< ((Int32.ofInt 32).toInt64 &&& 63)) ||| (((Int32.ofInt (pw_s xs (i + 2))).toInt64) &&& (Int64.ofNat 4294967295))), .ref 16]) rfl (fun _ => rfl) ?_
  refine pwl_ld E (pc' := 1286) (st' := [.long ((((Int32.ofInt (pw_s xs (i + 5))).toInt64) <<< ((Int32.ofInt 32).toInt64 &&& 63)) ||| (((Int32.ofInt (pw_s xs (i + 6))).toInt64) &&& (Int64.ofNat 4294967295))), .long ((((Int32.ofInt (pw_s xs (i + 3))).toInt64) <<< ((Int32.ofInt 32).toInt64 &&& 63)) ||| (((Int32.ofInt (pw_s xs (i + 4))).toInt64) &&& (Int64.ofNat 4294967295))), .long ((((Int32.ofInt (pw_s xs (i + 1))).toInt64) <<< ((Int32.ofInt 32).toInt64 &&& 63)) ||| (((Int32.ofInt (pw_s xs (i + 2))).toInt64) &&& (Int64.ofNat 4294967295))), .ref 16]) rfl (fun _ => rfl) ?_
  obtain ⟨f7l, f7h, -⟩ := pw_obj (c := 0) I rfl
  refine pwl_call (m' := 140) (As := [.ref 16, .long ((((Int32.ofInt (pw_s xs (i + 1))).toInt64) <<< ((Int32.ofInt 32).toInt64 &&& 63)) ||| (((Int32.ofInt (pw_s xs (i + 2))).toInt64) &&& (Int64.ofNat 4294967295))), .long ((((Int32.ofInt (pw_s xs (i + 3))).toInt64) <<< ((Int32.ofInt 32).toInt64 &&& 63)) ||| (((Int32.ofInt (pw_s xs (i + 4))).toInt64) &&& (Int64.ofNat 4294967295))), .long ((((Int32.ofInt (pw_s xs (i + 5))).toInt64) <<< ((Int32.ofInt 32).toInt64 &&& 63)) ||| (((Int32.ofInt (pw_s xs (i + 6))).toInt64) &&& (Int64.ofNat 4294967295)))]) (rest := []) (ls'' := [some (.ref 16), some (.long ((((Int32.ofInt (pw_s xs (i + 1))).toInt64) <<< ((Int32.ofInt 32).toInt64 &&& 63)) ||| (((Int32.ofInt (pw_s xs (i + 2))).toInt64) &&& (Int64.ofNat 4294967295)))), none, some (.long ((((Int32.ofInt (pw_s xs (i + 3))).toInt64) <<< ((Int32.ofInt 32).toInt64 &&& 63)) ||| (((Int32.ofInt (pw_s xs (i + 4))).toInt64) &&& (Int64.ofNat 4294967295)))), none, some (.long ((((Int32.ofInt (pw_s xs (i + 5))).toInt64) <<< ((Int32.ofInt 32).toInt64 &&& 63)) ||| (((Int32.ofInt (pw_s xs (i + 6))).toInt64) &&& (Int64.ofNat 4294967295)))), none]) E rfl (fun _ => pwl_iV rfl rfl rfl (pw_cellI f7h rfl)) (rfl : pm_ent 140 = some (4, 7, 11, 0, pmc_140)) (by decide) rfl rfl (cm_140_b (by decide) I ((((Int32.ofInt (pw_s xs (i + 1))).toInt64) <<< ((Int32.ofInt 32).toInt64 &&& 63)) ||| (((Int32.ofInt (pw_s xs (i + 2))).toInt64) &&& (Int64.ofNat 4294967295))) ((((Int32.ofInt (pw_s xs (i + 3))).toInt64) <<< ((Int32.ofInt 32).toInt64 &&& 63)) ||| (((Int32.ofInt (pw_s xs (i + 4))).toInt64) &&& (Int64.ofNat 4294967295))) ((((Int32.ofInt (pw_s xs (i + 5))).toInt64) <<< ((Int32.ofInt 32).toInt64 &&& 63)) ||| (((Int32.ofInt (pw_s xs (i + 6))).toInt64) &&& (Int64.ofNat 4294967295)))) ?_
  rintro h9 v8 ⟨h9I, h9E, x10, rfl, hx10a, hx10b, hx10r⟩
  refine ⟨_, rfl, ?_⟩
  have h9K := pw_KE I h9E hK rfl
  have h9L := h9E.1
  show pwl X _ h9 1289 [some (.ref 0), some (.ref 16), some (.ref 141), some (.ref 185), some (pw_i i), a5, a6, a7] [pw_i x10] _
  refine pwl_ld E (pc' := 1290) (st' := []) rfl (fun _ => rfl) ?_
  refine pwl_ld E (pc' := 1291) (st' := [.ref 141]) rfl (fun _ => rfl) ?_
  refine pwl_ld E (pc' := 1292) (st' := [.ref 0, .ref 141]) rfl (fun _ => rfl) ?_
  refine pwl_ld E (pc' := 1294) (st' := [pw_i i, .ref 0, .ref 141]) rfl (fun _ => rfl) ?_
  refine pwl_ld E (pc' := 1295) (st' := [pw_i 1, pw_i i, .ref 0, .ref 141]) rfl (fun _ => rfl) ?_
  refine pwl_add E (pc' := 1296) rfl rfl ?_
  refine pwl_sald E (pc' := 1297) rfl hX0 hl (by omega) (by omega) rfl ?_
  have hs11 := pw_s_r xs (i + 1)
  refine pwl_ld E (pc' := 1298) (st' := [.long ((Int32.ofInt (pw_s xs (i + 1))).toInt64), .ref 141]) rfl (fun _ => rfl) ?_
  refine pwl_bip E (pc' := 1300) rfl rfl (by decide) ?_
  refine pwl_ld E (pc' := 1301) (st' := [.long (((Int32.ofInt (pw_s xs (i + 1))).toInt64) <<< ((Int32.ofInt 32).toInt64 &&& 63)), .ref 141]) rfl (fun _ => rfl) ?_
  refine pwl_ld E (pc' := 1302) (st' := [.ref 0, .long (((Int32.ofInt (pw_s xs (i + 1))).toInt64) <<< ((Int32.ofInt 32).toInt64 &&& 63)), .ref 141]) rfl (fun _ => rfl) ?_
  refine pwl_ld E (pc' := 1304) (st' := [pw_i i, .ref 0, .long (((Int32.ofInt (pw_s xs (i + 1))).toInt64) <<< ((Int32.ofInt 32).toInt64 &&& 63)), .ref 141]) rfl (fun _ => rfl) ?_
  refine pwl_ld E (pc' := 1305) (st' := [pw_i 2, pw_i i, .ref 0, .long (((Int32.ofInt (pw_s xs (i + 1))).toInt64) <<< ((Int32.ofInt 32).toInt64 &&& 63)), .ref 141]) rfl (fun _ => rfl) ?_
  refine pwl_add E (pc' := 1306) rfl rfl ?_
  refine pwl_sald E (pc' := 1307) rfl hX0 hl (by omega) (by omega) rfl ?_
  have hs12 := pw_s_r xs (i + 2)
  refine pwl_ld E (pc' := 1308) (st' := [.long ((Int32.ofInt (pw_s xs (i + 2))).toInt64), .long (((Int32.ofInt (pw_s xs (i + 1))).toInt64) <<< ((Int32.ofInt 32).toInt64 &&& 63)), .ref 141]) rfl (fun _ => rfl) ?_
  refine pwl_ld E (pc' := 1311) (st' := [.long (Int64.ofNat 4294967295), .long ((Int32.ofInt (pw_s xs (i + 2))).toInt64), .long (((Int32.ofInt (pw_s xs (i + 1))).toInt64) <<< ((Int32.ofInt 32).toInt64 &&& 63)), .ref 141]) rfl (fun _ => rfl) ?_
  refine pwl_ld E (pc' := 1312) (st' := [.long (((Int32.ofInt (pw_s xs (i + 2))).toInt64) &&& (Int64.ofNat 4294967295)), .long (((Int32.ofInt (pw_s xs (i + 1))).toInt64) <<< ((Int32.ofInt 32).toInt64 &&& 63)), .ref 141]) rfl (fun _ => rfl) ?_
  refine pwl_ld E (pc' := 1313) (st' := [.long ((((Int32.ofInt (pw_s xs (i + 1))).toInt64) <<< ((Int32.ofInt 32).toInt64 &&& 63)) ||| (((Int32.ofInt (pw_s xs (i + 2))).toInt64) &&& (Int64.ofNat 4294967295))), .ref 141]) rfl (fun _ => rfl) ?_
  refine pwl_ld E (pc' := 1314) (st' := [.ref 0, .long ((((Int32.ofInt (pw_s xs (i + 1))).toInt64) <<< ((Int32.ofInt 32).toInt64 &&& 63)) ||| (((Int32.ofInt (pw_s xs (i + 2))).toInt64) &&& (Int64.ofNat 4294967295))), .ref 141]) rfl (fun _ => rfl) ?_
  refine pwl_ld E (pc' := 1316) (st' := [pw_i i, .ref 0, .long ((((Int32.ofInt (pw_s xs (i + 1))).toInt64) <<< ((Int32.ofInt 32).toInt64 &&& 63)) ||| (((Int32.ofInt (pw_s xs (i + 2))).toInt64) &&& (Int64.ofNat 4294967295))), .ref 141]) rfl (fun _ => rfl) ?_
  refine pwl_ld E (pc' := 1317) (st' := [pw_i 3, pw_i i, .ref 0, .long ((((Int32.ofInt (pw_s xs (i + 1))).toInt64) <<< ((Int32.ofInt 32).toInt64 &&& 63)) ||| (((Int32.ofInt (pw_s xs (i + 2))).toInt64) &&& (Int64.ofNat 4294967295))), .ref 141]) rfl (fun _ => rfl) ?_
  refine pwl_add E (pc' := 1318) rfl rfl ?_
  refine pwl_sald E (pc' := 1319) rfl hX0 hl (by omega) (by omega) rfl ?_
  have hs13 := pw_s_r xs (i + 3)
  refine pwl_ld E (pc' := 1320) (st' := [.long ((Int32.ofInt (pw_s xs (i + 3))).toInt64), .long ((((Int32.ofInt (pw_s xs (i + 1))).toInt64) <<< ((Int32.ofInt 32).toInt64 &&& 63)) ||| (((Int32.ofInt (pw_s xs (i + 2))).toInt64) &&& (Int64.ofNat 4294967295))), .ref 141]) rfl (fun _ => rfl) ?_
  refine pwl_bip E (pc' := 1322) rfl rfl (by decide) ?_
  refine pwl_ld E (pc' := 1323) (st' := [.long (((Int32.ofInt (pw_s xs (i + 3))).toInt64) <<< ((Int32.ofInt 32).toInt64 &&& 63)), .long ((((Int32.ofInt (pw_s xs (i + 1))).toInt64) <<< ((Int32.ofInt 32).toInt64 &&& 63)) ||| (((Int32.ofInt (pw_s xs (i + 2))).toInt64) &&& (Int64.ofNat 4294967295))), .ref 141]) rfl (fun _ => rfl) ?_
  refine pwl_ld E (pc' := 1324) (st' := [.ref 0, .long (((Int32.ofInt (pw_s xs (i + 3))).toInt64) <<< ((Int32.ofInt 32).toInt64 &&& 63)), .long ((((Int32.ofInt (pw_s xs (i + 1))).toInt64) <<< ((Int32.ofInt 32).toInt64 &&& 63)) ||| (((Int32.ofInt (pw_s xs (i + 2))).toInt64) &&& (Int64.ofNat 4294967295))), .ref 141]) rfl (fun _ => rfl) ?_
  refine pwl_ld E (pc' := 1326) (st' := [pw_i i, .ref 0, .long (((Int32.ofInt (pw_s xs (i + 3))).toInt64) <<< ((Int32.ofInt 32).toInt64 &&& 63)), .long ((((Int32.ofInt (pw_s xs (i + 1))).toInt64) <<< ((Int32.ofInt 32).toInt64 &&& 63)) ||| (((Int32.ofInt (pw_s xs (i + 2))).toInt64) &&& (Int64.ofNat 4294967295))), .ref 141]) rfl (fun _ => rfl) ?_
  refine pwl_ld E (pc' := 1327) (st' := [pw_i 4, pw_i i, .ref 0, .long (((Int32.ofInt (pw_s xs (i + 3))).toInt64) <<< ((Int32.ofInt 32).toInt64 &&& 63)), .long ((((Int32.ofInt (pw_s xs (i + 1))).toInt64) <<< ((Int32.ofInt 32).toInt64 &&& 63)) ||| (((Int32.ofInt (pw_s xs (i + 2))).toInt64) &&& (Int64.ofNat 4294967295))), .ref 141]) rfl (fun _ => rfl) ?_
  refine pwl_add E (pc' := 1328) rfl rfl ?_
  refine pwl_sald E (pc' := 1329) rfl hX0 hl (by omega) (by omega) rfl ?_
  have hs14 := pw_s_r xs (i + 4)
  refine pwl_ld E (pc' := 1330) (st' := [.long ((Int32.ofInt (pw_s xs (i + 4))).toInt64), .long (((Int32.ofInt (pw_s xs (i + 3))).toInt64) <<< ((Int32.ofInt 32).toInt64 &&& 63)), .long ((((Int32.ofInt (pw_s xs (i + 1))).toInt64) <<< ((Int32.ofInt 32).toInt64 &&& 63)) ||| (((Int32.ofInt (pw_s xs (i + 2))).toInt64) &&& (Int64.ofNat 4294967295))), .ref 141]) rfl (fun _ => rfl) ?_
  refine pwl_ld E (pc' := 1333) (st' := [.long (Int64.ofNat 4294967295), .long ((Int32.ofInt (pw_s xs (i + 4))).toInt64), .long (((Int32.ofInt (pw_s xs (i + 3))).toInt64) <<< ((Int32.ofInt 32).toInt64 &&& 63)), .long ((((Int32.ofInt (pw_s xs (i + 1))).toInt64) <<< ((Int32.ofInt 32).toInt64 &&& 63)) ||| (((Int32.ofInt (pw_s xs (i + 2))).toInt64) &&& (Int64.ofNat 4294967295))), .ref 141]) rfl (fun _ => rfl) ?_
  refine pwl_ld E (pc' := 1334) (st' := [.long (((Int32.ofInt (pw_s xs (i + 4))).toInt64) &&& (Int64.ofNat 4294967295)), .long (((Int32.ofInt (pw_s xs (i + 3))).toInt64) <<< ((Int32.ofInt 32).toInt64 &&& 63)), .long ((((Int32.ofInt (pw_s xs (i + 1))).toInt64) <<< ((Int32.ofInt 32).toInt64 &&& 63)) ||| (((Int32.ofInt (pw_s xs (i + 2))).toInt64) &&& (Int64.ofNat 4294967295))), .ref 141]) rfl (fun _ => rfl) ?_
  refine pwl_ld E (pc' := 1335) (st' := [.long ((((Int32.ofInt (pw_s xs (i + 3))).toInt64) <<< ((Int32.ofInt 32).toInt64 &&& 63)) ||| (((Int32.ofInt (pw_s xs (i + 4))).toInt64) &&& (Int64.ofNat 4294967295))), .long ((((Int32.ofInt (pw_s xs (i + 1))).toInt64) <<< ((Int32.ofInt 32).toInt64 &&& 63)) ||| (((Int32.ofInt (pw_s xs (i + 2))).toInt64) &&& (Int64.ofNat 4294967295))), .ref 141]) rfl (fun _ => rfl) ?_
  refine pwl_ld E (pc' := 1336) (st' := [.ref 0, .long ((((Int32.ofInt (pw_s xs (i + 3))).toInt64) <<< ((Int32.ofInt 32).toInt64 &&& 63)) ||| (((Int32.ofInt (pw_s xs (i + 4))).toInt64) &&& (Int64.ofNat 4294967295))), .long ((((Int32.ofInt (pw_s xs (i + 1))).toInt64) <<< ((Int32.ofInt 32).toInt64 &&& 63)) ||| (((Int32.ofInt (pw_s xs (i + 2))).toInt64) &&& (Int64.ofNat 4294967295))), .ref 141]) rfl (fun _ => rfl) ?_
  refine pwl_ld E (pc' := 1338) (st' := [pw_i i, .ref 0, .long ((((Int32.ofInt (pw_s xs (i + 3))).toInt64) <<< ((Int32.ofInt 32).toInt64 &&& 63)) ||| (((Int32.ofInt (pw_s xs (i + 4))).toInt64) &&& (Int64.ofNat 4294967295))), .long ((((Int32.ofInt (pw_s xs (i + 1))).toInt64) <<< ((Int32.ofInt 32).toInt64 &&& 63)) ||| (((Int32.ofInt (pw_s xs (i + 2))).toInt64) &&& (Int64.ofNat 4294967295))), .ref 141]) rfl (fun _ => rfl) ?_
  refine pwl_ld E (pc' := 1339) (st' := [pw_i 5, pw_i i, .ref 0, .long ((((Int32.ofInt (pw_s xs (i + 3))).toInt64) <<< ((Int32.ofInt 32).toInt64 &&& 63)) ||| (((Int32.ofInt (pw_s xs (i + 4))).toInt64) &&& (Int64.ofNat 4294967295))), .long ((((Int32.ofInt (pw_s xs (i + 1))).toInt64) <<< ((Int32.ofInt 32).toInt64 &&& 63)) ||| (((Int32.ofInt (pw_s xs (i + 2))).toInt64) &&& (Int64.ofNat 4294967295))), .ref 141]) rfl (fun _ => rfl) ?_
  refine pwl_add E (pc' := 1340) rfl rfl ?_
  refine pwl_sald E (pc' := 1341) rfl hX0 hl (by omega) (by omega) rfl ?_
  have hs15 := pw_s_r xs (i + 5)
  refine pwl_ld E (pc' := 1342) (st' := [.long ((Int32.ofInt (pw_s xs (i + 5))).toInt64), .long ((((Int32.ofInt (pw_s xs (i + 3))).toInt64) <<< ((Int32.ofInt 32).toInt64 &&& 63)) ||| (((Int32.ofInt (pw_s xs (i + 4))).toInt64) &&& (Int64.ofNat 4294967295))), .long ((((Int32.ofInt (pw_s xs (i + 1))).toInt64) <<< ((Int32.ofInt 32).toInt64 &&& 63)) ||| (((Int32.ofInt (pw_s xs (i + 2))).toInt64) &&& (Int64.ofNat 4294967295))), .ref 141]) rfl (fun _ => rfl) ?_
  refine pwl_bip E (pc' := 1344) rfl rfl (by decide) ?_
  refine pwl_ld E (pc' := 1345) (st' := [.long (((Int32.ofInt (pw_s xs (i + 5))).toInt64) <<< ((Int32.ofInt 32).toInt64 &&& 63)), .long ((((Int32.ofInt (pw_s xs (i + 3))).toInt64) <<< ((Int32.ofInt 32).toInt64 &&& 63)) ||| (((Int32.ofInt (pw_s xs (i + 4))).toInt64) &&& (Int64.ofNat 4294967295))), .long ((((Int32.ofInt (pw_s xs (i + 1))).toInt64) <<< ((Int32.ofInt 32).toInt64 &&& 63)) ||| (((Int32.ofInt (pw_s xs (i + 2))).toInt64) &&& (Int64.ofNat 4294967295))), .ref 141]) rfl (fun _ => rfl) ?_
  refine pwl_ld E (pc' := 1346) (st' := [.ref 0, .long (((Int32.ofInt (pw_s xs (i + 5))).toInt64) <<< ((Int32.ofInt 32).toInt64 &&& 63)), .long ((((Int32.ofInt (pw_s xs (i + 3))).toInt64) <<< ((Int32.ofInt 32).toInt64 &&& 63)) ||| (((Int32.ofInt (pw_s xs (i + 4))).toInt64) &&& (Int64.ofNat 4294967295))), .long ((((Int32.ofInt (pw_s xs (i + 1))).toInt64) <<< ((Int32.ofInt 32).toInt64 &&& 63)) ||| (((Int32.ofInt (pw_s xs (i + 2))).toInt64) &&& (Int64.ofNat 4294967295))), .ref 141]) rfl (fun _ => rfl) ?_
  refine pwl_ld E (pc' := 1348) (st' := [pw_i i, .ref 0, .long (((Int32.ofInt (pw_s xs (i + 5))).toInt64) <<< ((Int32.ofInt 32).toInt64 &&& 63)), .long ((((Int32.ofInt (pw_s xs (i + 3))).toInt64) <<< ((Int32.ofInt 32).toInt64 &&& 63)) ||| (((Int32.ofInt (pw_s xs (i + 4))).toInt64) &&& (Int64.ofNat 4294967295))), .long ((((Int32.ofInt (pw_s xs (i + 1))).toInt64) <<< ((Int32.ofInt 32).toInt64 &&& 63)) ||| (((Int32.ofInt (pw_s xs (i + 2))).toInt64) &&& (Int64.ofNat 4294967295))), .ref 141]) rfl (fun _ => rfl) ?_
  refine pwl_bip E (pc' := 1350) rfl rfl (by decide) ?_
  refine pwl_add E (pc' := 1351) rfl rfl ?_
  refine pwl_sald E (pc' := 1352) rfl hX0 hl (by omega) (by omega) rfl ?_
  have hs16 := pw_s_r xs (i + 6)
  refine pwl_ld E (pc' := 1353) (st' := [.long ((Int32.ofInt (pw_s xs (i + 6))).toInt64), .long (((Int32.ofInt (pw_s xs (i + 5))).toInt64) <<< ((Int32.ofInt 32).toInt64 &&& 63)), .long ((((Int32.ofInt (pw_s xs (i + 3))).toInt64) <<< ((Int32.ofInt 32).toInt64 &&& 63)) ||| (((Int32.ofInt (pw_s xs (i + 4))).toInt64) &&& (Int64.ofNat 4294967295))), .long ((((Int32.ofInt (pw_s xs (i + 1))).toInt64) <<< ((Int32.ofInt 32).toInt64 &&& 63)) ||| (((Int32.ofInt (pw_s xs (i + 2))).toInt64) &&& (Int64.ofNat 4294967295))), .ref 141]) rfl (fun _ => rfl) ?_
  refine pwl_ld E (pc' := 1356) (st' := [.long (Int64.ofNat 4294967295), .long ((Int32.ofInt (pw_s xs (i + 6))).toInt64), .long (((Int32.ofInt (pw_s xs (i + 5))).toInt64) <<< ((Int32.ofInt 32).toInt64 &&& 63)), .long ((((Int32.ofInt (pw_s xs (i + 3))).toInt64) <<< ((Int32.ofInt 32).toInt64 &&& 63)) ||| (((Int32.ofInt (pw_s xs (i + 4))).toInt64) &&& (Int64.ofNat 4294967295))), .long ((((Int32.ofInt (pw_s xs (i + 1))).toInt64) <<< ((Int32.ofInt 32).toInt64 &&& 63)) ||| (((Int32.ofInt (pw_s xs (i + 2))).toInt64) &&& (Int64.ofNat 4294967295))), .ref 141]) rfl (fun _ => rfl) ?_
  refine pwl_ld E (pc' := 1357) (st' := [.long (((Int32.ofInt (pw_s xs (i + 6))).toInt64) &&& (Int64.ofNat 4294967295)), .long (((Int32.ofInt (pw_s xs (i + 5))).toInt64) <<< ((Int32.ofInt 32).toInt64 &&& 63)), .long ((((Int32.ofInt (pw_s xs (i + 3))).toInt64) <<< ((Int32.ofInt 32).toInt64 &&& 63)) ||| (((Int32.ofInt (pw_s xs (i + 4))).toInt64) &&& (Int64.ofNat 4294967295))), .long ((((Int32.ofInt (pw_s xs (i + 1))).toInt64) <<< ((Int32.ofInt 32).toInt64 &&& 63)) ||| (((Int32.ofInt (pw_s xs (i + 2))).toInt64) &&& (Int64.ofNat 4294967295))), .ref 141]) rfl (fun _ => rfl) ?_
  refine pwl_ld E (pc' := 1358) (st' := [.long ((((Int32.ofInt (pw_s xs (i + 5))).toInt64) <<< ((Int32.ofInt 32).toInt64 &&& 63)) ||| (((Int32.ofInt (pw_s xs (i + 6))).toInt64) &&& (Int64.ofNat 4294967295))), .long ((((Int32.ofInt (pw_s xs (i + 3))).toInt64) <<< ((Int32.ofInt 32).toInt64 &&& 63)) ||| (((Int32.ofInt (pw_s xs (i + 4))).toInt64) &&& (Int64.ofNat 4294967295))), .long ((((Int32.ofInt (pw_s xs (i + 1))).toInt64) <<< ((Int32.ofInt 32).toInt64 &&& 63)) ||| (((Int32.ofInt (pw_s xs (i + 2))).toInt64) &&& (Int64.ofNat 4294967295))), .ref 141]) rfl (fun _ => rfl) ?_
  obtain ⟨f17l, f17h, -⟩ := pw_obj (c := 125) h9I rfl
  refine pwl_call (m' := 198) (As := [.ref 141, .long ((((Int32.ofInt (pw_s xs (i + 1))).toInt64) <<< ((Int32.ofInt 32).toInt64 &&& 63)) ||| (((Int32.ofInt (pw_s xs (i + 2))).toInt64) &&& (Int64.ofNat 4294967295))), .long ((((Int32.ofInt (pw_s xs (i + 3))).toInt64) <<< ((Int32.ofInt 32).toInt64 &&& 63)) ||| (((Int32.ofInt (pw_s xs (i + 4))).toInt64) &&& (Int64.ofNat 4294967295))), .long ((((Int32.ofInt (pw_s xs (i + 5))).toInt64) <<< ((Int32.ofInt 32).toInt64 &&& 63)) ||| (((Int32.ofInt (pw_s xs (i + 6))).toInt64) &&& (Int64.ofNat 4294967295)))]) (rest := []) (ls'' := [some (.ref 141), some (.long ((((Int32.ofInt (pw_s xs (i + 1))).toInt64) <<< ((Int32.ofInt 32).toInt64 &&& 63)) ||| (((Int32.ofInt (pw_s xs (i + 2))).toInt64) &&& (Int64.ofNat 4294967295)))), none, some (.long ((((Int32.ofInt (pw_s xs (i + 3))).toInt64) <<< ((Int32.ofInt 32).toInt64 &&& 63)) ||| (((Int32.ofInt (pw_s xs (i + 4))).toInt64) &&& (Int64.ofNat 4294967295)))), none, some (.long ((((Int32.ofInt (pw_s xs (i + 5))).toInt64) <<< ((Int32.ofInt 32).toInt64 &&& 63)) ||| (((Int32.ofInt (pw_s xs (i + 6))).toInt64) &&& (Int64.ofNat 4294967295)))), none]) E rfl (fun _ => pwl_iV rfl rfl rfl (pw_cellI f17h rfl)) (rfl : pm_ent 198 = some (4, 7, 12, 0, pmc_198)) (by decide) rfl rfl (cm_198_b (by decide) h9I ((((Int32.ofInt (pw_s xs (i + 1))).toInt64) <<< ((Int32.ofInt 32).toInt64 &&& 63)) ||| (((Int32.ofInt (pw_s xs (i + 2))).toInt64) &&& (Int64.ofNat 4294967295))) ((((Int32.ofInt (pw_s xs (i + 3))).toInt64) <<< ((Int32.ofInt 32).toInt64 &&& 63)) ||| (((Int32.ofInt (pw_s xs (i + 4))).toInt64) &&& (Int64.ofNat 4294967295))) ((((Int32.ofInt (pw_s xs (i + 5))).toInt64) <<< ((Int32.ofInt 32).toInt64 &&& 63)) ||| (((Int32.ofInt (pw_s xs (i + 6))).toInt64) &&& (Int64.ofNat 4294967295)))) ?_
  rintro h19 v18 ⟨h19I, h19E, x20, rfl, hx20a, hx20b, hx20r⟩
  refine ⟨_, rfl, ?_⟩
  have h19K := pw_KE h9I h19E h9K rfl
  have h19L := h19E.1
  show pwl X _ h19 1361 [some (.ref 0), some (.ref 16), some (.ref 141), some (.ref 185), some (pw_i i), a5, a6, a7] [pw_i x20] _
  have h19M := pw_Rb.feed I h9I h9E h19E hRb hx10r hx20r rfl rfl
  have h19Rb := h19M.2
  have haa : x10 = x20 := h19M.1
  refine pwl_ld E (pc' := 1362) (st' := []) rfl (fun _ => rfl) ?_
  refine pwl_goto E (pc' := 2341) rfl (by decide) ?_
  exact pwl_mono (by omega) (hB h19 (a5) (a6) (a7) h19I h19K h19Rb (by omega) (by omega) s5 s6 s7)
set_option maxHeartbeats 4000000 in
theorem lc_19 {X : List (Nat × List Value)} {xs : List Int32} {K : Nat} {h : pm_H} {Q : pm_H → (Option Value ⊕ Unit) → Prop} (hX0 : X[0]? = some (0, xs.map Value.int)) (hl : xs.length ≤ 3584) (hX : pw_Xk X) (hR : pw_Xr X) (hS : pw_Xs X) (hF : pw_Xf X) (I : pw_I h) (hK : pw_K h) (hRb : pw_Rb h) (i : Int) (hi0 : 0 ≤ i) (hi1 : i + 7 ≤ xs.length) (a5 a6 a7 : Option Value) (s5 : ∀ n, pm_scl n a5 = true) (s6 : ∀ n, pm_scl n a6 = true) (s7 : ∀ n, pm_scl n a7 = true) (hB : ∀ (h' : pm_H) (b5 b6 b7 : Option Value), pw_I h' → pw_K h' → pw_Rb h' → h'.length ≤ h.length + 1 → pm_slt h' ≤ pm_slt h + 1000 → (∀ n, pm_scl n b5 = true) → (∀ n, pm_scl n b6 = true) → (∀ n, pm_scl n b7 = true) → pwl X K h' 2341 [some (.ref 0), some (.ref 16), some (.ref 141), some (.ref 185), some (pw_i i), b5, b6, b7] [] Q) : pwl X (K + 150) h 1365 [some (.ref 0), some (.ref 16), some (.ref 141), some (.ref 185), some (pw_i i), a5, a6, a7] [] Q := by
  have E : pm_ent 309 = some (1, 8, 13, 1, pmc_309) := rfl
  refine pwl_ld E (pc' := 1366) (st' := [.ref 16]) rfl (fun _ => rfl) ?_
  refine pwl_ld E (pc' := 1367) (st' := [.ref 0, .ref 16]) rfl (fun _ => rfl) ?_
  refine pwl_ld E (pc' := 1369) (st' := [pw_i i, .ref 0, .ref 16]) rfl (fun _ => rfl) ?_
  refine pwl_ld E (pc' := 1370) (st' := [pw_i 1, pw_i i, .ref 0, .ref 16]) rfl (fun _ => rfl) ?_
  refine pwl_add E (pc' := 1371) rfl rfl ?_
  refine pwl_sald E (pc' := 1372) rfl hX0 hl (by omega) (by omega) rfl ?_
  have hs1 := pw_s_r xs (i + 1)
  obtain ⟨f2l, f2h, -⟩ := pw_obj (c := 0) I rfl
  refine pwl_call (m' := 141) (As := [.ref 16, pw_i (pw_s xs (i + 1))]) (rest := []) (ls'' := [some (.ref 16), some (pw_i (pw_s xs (i + 1)))]) E rfl (fun _ => pwl_iV rfl rfl rfl (pw_cellI f2h rfl)) (rfl : pm_ent 141 = some (2, 2, 11, 0, pmc_141)) (by decide) rfl rfl (cm_141_f (by decide) I hX hR (pw_s xs (i + 1)) (by omega) (by omega)) ?_
  rintro h4 v3 ⟨h4I, h4E, h4Z, x5, rfl, hx5a, hx5b⟩
  refine ⟨_, rfl, ?_⟩
  have h4K := pw_KG I h4E hK rfl
  have h4L := h4E.1
  show pwl X _ h4 1375 [some (.ref 0), some (.ref 16), some (.ref 141), some (.ref 185), some (pw_i i), a5, a6, a7] [pw_i x5] _
  have h4WK := pt_WK.G I h4E hRb.2 rfl
  refine pwl_ld E (pc' := 1376) (st' := []) rfl (fun _ => rfl) ?_
  refine pwl_ld E (pc' := 1377) (st' := [.ref 141]) rfl (fun _ => rfl) ?_
  refine pwl_ld E (pc' := 1378) (st' := [.ref 0, .ref 141]) rfl (fun _ => rfl) ?_
  refine pwl_ld E (pc' := 1380) (st' := [pw_i i, .ref 0, .ref 141]) rfl (fun _ => rfl) ?_
  refine pwl_ld E (pc' := 1381) (st' := [pw_i 1, pw_i i, .ref 0, .ref 141]) rfl (fun _ => rfl) ?_
  refine pwl_add E (pc' := 1382) rfl rfl ?_
  refine pwl_sald E (pc' := 1383) rfl hX0 hl (by omega) (by omega) rfl ?_
  have hs6 := pw_s_r xs (i + 1)
  obtain ⟨f7l, f7h, -⟩ := pw_obj (c := 125) h4I rfl
  refine pwl_call (m' := 237) (As := [.ref 141, pw_i (pw_s xs (i + 1))]) (rest := []) (ls'' := [some (.ref 141), some (pw_i (pw_s xs (i + 1))), none]) E rfl (fun _ => pwl_iV rfl rfl rfl (pw_cellI f7h rfl)) (rfl : pm_ent 237 = some (2, 3, 12, 0, pmc_237)) (by decide) rfl rfl (cm_237_f (by decide) h4I (pw_s xs (i + 1)) (by omega) (by omega) h4K) ?_
  rintro h9 v8 ⟨h9I, h9E, ⟨h9K, h9Z⟩, x10, rfl, hx10a, hx10b⟩
  refine ⟨_, rfl, ?_⟩
  have h9L := h9E.1
  show pwl X _ h9 1386 [some (.ref 0), some (.ref 16), some (.ref 141), some (.ref 185), some (pw_i i), a5, a6, a7] [pw_i x10] _
  have h9Rb := pw_Rb.z h4I h9E h4WK h4Z h9Z rfl
  refine pwl_ld E (pc' := 1387) (st' := []) rfl (fun _ => rfl) ?_
  refine pwl_goto E (pc' := 2341) rfl (by decide) ?_
  exact pwl_mono (by omega) (hB h9 (a5) (a6) (a7) h9I h9K h9Rb (by omega) (by omega) s5 s6 s7)
set_option maxHeartbeats 4000000 in
theorem lc_20 {X : List (Nat × List Value)} {xs : List Int32} {K : Nat} {h : pm_H} {Q : pm_H → (Option Value ⊕ Unit) → Prop} (hX0 : X[0]? = some (0, xs.map Value.int)) (hl : xs.length ≤ 3584) (hX : pw_Xk X) (hR : pw_Xr X) (hS : pw_Xs X) (hF : pw_Xf X) (I : pw_I h) (hK : pw_K h) (hRb : pw_Rb h) (i : Int) (hi0 : 0 ≤ i) (hi1 : i + 7 ≤ xs.length) (a5 a6 a7 : Option Value) (s5 : ∀ n, pm_scl n a5 = true) (s6 : ∀ n, pm_scl n a6 = true) (s7 : ∀ n, pm_scl n a7 = true) (hB : ∀ (h' : pm_H) (b5 b6 b7 : Option Value), pw_I h' → pw_K h' → pw_Rb h' → h'.length ≤ h.length + 1 → pm_slt h' ≤ pm_slt h + 1000 → (∀ n, pm_scl n b5 = true) → (∀ n, pm_scl n b6 = true) → (∀ n, pm_scl n b7 = true) → pwl X K h' 2341 [some (.ref 0), some (.ref 16), some (.ref 141), some (.ref 185), some (pw_i i), b5, b6, b7] [] Q) : pwl X (K + 150) h 1390 [some (.ref 0), some (.ref 16), some (.ref 141), some (.ref 185), some (pw_i i), a5, a6, a7] [] Q := by
  have E : pm_ent 309 = some (1, 8, 13, 1, pmc_309) := rfl
  refine pwl_ld E (pc' := 1391) (st' := [.ref 16]) rfl (fun _ => rfl) ?_
  refine pwl_ld E (pc' := 1392) (st' := [.ref 0, .ref 16]) rfl (fun _ => rfl) ?_
  refine pwl_ld E (pc' := 1394) (st' := [pw_i i, .ref 0, .ref 16]) rfl (fun _ => rfl) ?_
  refine pwl_ld E (pc' := 1395) (st' := [pw_i 1, pw_i i, .ref 0, .ref 16]) rfl (fun _ => rfl) ?_
  refine pwl_add E (pc' := 1396) rfl rfl ?_
  refine pwl_sald E (pc' := 1397) rfl hX0 hl (by omega) (by omega) rfl ?_
  have hs1 := pw_s_r xs (i + 1)
  refine pwl_ld E (pc' := 1398) (st' := [.ref 0, pw_i (pw_s xs (i + 1)), .ref 16]) rfl (fun _ => rfl) ?_
  refine pwl_ld E (pc' := 1400) (st' := [pw_i i, .ref 0, pw_i (pw_s xs (i + 1)), .ref 16]) rfl (fun _ => rfl) ?_
  refine pwl_ld E (pc' := 1401) (st' := [pw_i 2, pw_i i, .ref 0, pw_i (pw_s xs (i + 1)), .ref 16]) rfl (fun _ => rfl) ?_
  refine pwl_add E (pc' := 1402) rfl rfl ?_
  refine pwl_sald E (pc' := 1403) rfl hX0 hl (by omega) (by omega) rfl ?_
  have hs2 := pw_s_r xs (i + 2)
  refine pwl_ld E (pc' := 1404) (st' := [.ref 0, pw_i (pw_s xs (i + 2)), pw_i (pw_s xs (i + 1)), .ref 16]) rfl (fun _ => rfl) ?_
  refine pwl_ld E (pc' := 1406) (st' := [pw_i i, .ref 0, pw_i (pw_s xs (i + 2)), pw_i (pw_s xs (i + 1)), .ref 16]) rfl (fun _ => rfl) ?_
  refine pwl_ld E (pc' := 1407) (st' := [pw_i 3, pw_i i, .ref 0, pw_i (pw_s xs (i + 2)), pw_i (pw_s xs (i + 1)), .ref 16]) rfl (fun _ => rfl) ?_
  refine pwl_add E (pc' := 1408) rfl rfl ?_
  refine pwl_sald E (pc' := 1409) rfl hX0 hl (by omega) (by omega) rfl ?_
  have hs3 := pw_s_r xs (i + 3)
  refine pwl_ld E (pc' := 1410) (st' := [.ref 0, pw_i (pw_s xs (i + 3)), pw_i (pw_s xs (i + 2)), pw_i (pw_s xs (i + 1)), .ref 16]) rfl (fun _ => rfl) ?_
  refine pwl_ld E (pc' := 1412) (st' := [pw_i i, .ref 0, pw_i (pw_s xs (i + 3)), pw_i (pw_s xs (i + 2)), pw_i (pw_s xs (i + 1)), .ref 16]) rfl (fun _ => rfl) ?_
  refine pwl_ld E (pc' := 1413) (st' := [pw_i 4, pw_i i, .ref 0, pw_i (pw_s xs (i + 3)), pw_i (pw_s xs (i + 2)), pw_i (pw_s xs (i + 1)), .ref 16]) rfl (fun _ => rfl) ?_
  refine pwl_add E (pc' := 1414) rfl rfl ?_
  refine pwl_sald E (pc' := 1415) rfl hX0 hl (by omega) (by omega) rfl ?_
  have hs4 := pw_s_r xs (i + 4)
  obtain ⟨f5l, f5h, -⟩ := pw_obj (c := 0) I rfl
  refine pwl_call (m' := 144) (As := [.ref 16, pw_i (pw_s xs (i + 1)), pw_i (pw_s xs (i + 2)), pw_i (pw_s xs (i + 3)), pw_i (pw_s xs (i + 4))]) (rest := []) (ls'' := [some (.ref 16), some (pw_i (pw_s xs (i + 1))), some (pw_i (pw_s xs (i + 2))), some (pw_i (pw_s xs (i + 3))), some (pw_i (pw_s xs (i + 4)))]) E rfl (fun _ => pwl_iV rfl rfl rfl (pw_cellI f5h rfl)) (rfl : pm_ent 144 = some (5, 5, 11, 0, pmc_144)) (by decide) rfl rfl (cm_144 (by decide) I (pw_s xs (i + 1)) (by omega) (by omega) (pw_s xs (i + 2)) (by omega) (by omega) (pw_s xs (i + 3)) (by omega) (by omega) (pw_s xs (i + 4)) (by omega) (by omega)) ?_
  rintro h7 v6 ⟨h7I, h7E, x8, rfl, hx8a, hx8b⟩
  refine ⟨_, rfl, ?_⟩
  have h7K := pw_KE I h7E hK rfl
  have h7L := h7E.1
  show pwl X _ h7 1418 [some (.ref 0), some (.ref 16), some (.ref 141), some (.ref 185), some (pw_i i), a5, a6, a7] [pw_i x8] _
  have h7Rb := pw_RbE I h7E hRb rfl
  refine pwl_ld E (pc' := 1419) (st' := []) rfl (fun _ => rfl) ?_
  refine pwl_ld E (pc' := 1420) (st' := [.ref 141]) rfl (fun _ => rfl) ?_
  refine pwl_ld E (pc' := 1421) (st' := [.ref 0, .ref 141]) rfl (fun _ => rfl) ?_
  refine pwl_ld E (pc' := 1423) (st' := [pw_i i, .ref 0, .ref 141]) rfl (fun _ => rfl) ?_
  refine pwl_ld E (pc' := 1424) (st' := [pw_i 1, pw_i i, .ref 0, .ref 141]) rfl (fun _ => rfl) ?_
  refine pwl_add E (pc' := 1425) rfl rfl ?_
  refine pwl_sald E (pc' := 1426) rfl hX0 hl (by omega) (by omega) rfl ?_
  have hs9 := pw_s_r xs (i + 1)
  refine pwl_ld E (pc' := 1427) (st' := [.ref 0, pw_i (pw_s xs (i + 1)), .ref 141]) rfl (fun _ => rfl) ?_
  refine pwl_ld E (pc' := 1429) (st' := [pw_i i, .ref 0, pw_i (pw_s xs (i + 1)), .ref 141]) rfl (fun _ => rfl) ?_
  refine pwl_ld E (pc' := 1430) (st' := [pw_i 2, pw_i i, .ref 0, pw_i (pw_s xs (i + 1)), .ref 141]) rfl (fun _ => rfl) ?_
  refine pwl_add E (pc' := 1431) rfl rfl ?_
  refine pwl_sald E (pc' := 1432) rfl hX0 hl (by omega) (by omega) rfl ?_
  have hs10 := pw_s_r xs (i + 2)
  refine pwl_ld E (pc' := 1433) (st' := [.ref 0, pw_i (pw_s xs (i + 2)), pw_i (pw_s xs (i + 1)), .ref 141]) rfl (fun _ => rfl) ?_
  refine pwl_ld E (pc' := 1435) (st' := [pw_i i, .ref 0, pw_i (pw_s xs (i + 2)), pw_i (pw_s xs (i + 1)), .ref 141]) rfl (fun _ => rfl) ?_
  refine pwl_ld E (pc' := 1436) (st' := [pw_i 3, pw_i i, .ref 0, pw_i (pw_s xs (i + 2)), pw_i (pw_s xs (i + 1)), .ref 141]) rfl (fun _ => rfl) ?_
  refine pwl_add E (pc' := 1437) rfl rfl ?_
  refine pwl_sald E (pc' := 1438) rfl hX0 hl (by omega) (by omega) rfl ?_
  have hs11 := pw_s_r xs (i + 3)
  refine pwl_ld E (pc' := 1439) (st' := [.ref 0, pw_i (pw_s xs (i + 3)), pw_i (pw_s xs (i + 2)), pw_i (pw_s xs (i + 1)), .ref 141]) rfl (fun _ => rfl) ?_
  refine pwl_ld E (pc' := 1441) (st' := [pw_i i, .ref 0, pw_i (pw_s xs (i + 3)), pw_i (pw_s xs (i + 2)), pw_i (pw_s xs (i + 1)), .ref 141]) rfl (fun _ => rfl) ?_
  refine pwl_ld E (pc' := 1442) (st' := [pw_i 4, pw_i i, .ref 0, pw_i (pw_s xs (i + 3)), pw_i (pw_s xs (i + 2)), pw_i (pw_s xs (i + 1)), .ref 141]) rfl (fun _ => rfl) ?_
  refine pwl_add E (pc' := 1443) rfl rfl ?_
  refine pwl_sald E (pc' := 1444) rfl hX0 hl (by omega) (by omega) rfl ?_
  have hs12 := pw_s_r xs (i + 4)
  obtain ⟨f13l, f13h, -⟩ := pw_obj (c := 125) h7I rfl
  refine pwl_call (m' := 259) (As := [.ref 141, pw_i (pw_s xs (i + 1)), pw_i (pw_s xs (i + 2)), pw_i (pw_s xs (i + 3)), pw_i (pw_s xs (i + 4))]) (rest := []) (ls'' := [some (.ref 141), some (pw_i (pw_s xs (i + 1))), some (pw_i (pw_s xs (i + 2))), some (pw_i (pw_s xs (i + 3))), some (pw_i (pw_s xs (i + 4)))]) E rfl (fun _ => pwl_iV rfl rfl rfl (pw_cellI f13h rfl)) (rfl : pm_ent 259 = some (5, 5, 12, 0, pmc_259)) (by decide) rfl rfl (cm_259 (by decide) h7I (pw_s xs (i + 1)) (by omega) (by omega) (pw_s xs (i + 2)) (by omega) (by omega) (pw_s xs (i + 3)) (by omega) (by omega) (pw_s xs (i + 4)) (by omega) (by omega) h7K) ?_
  rintro h15 v14 ⟨h15I, h15E, x16, rfl, hx16a, hx16b⟩
  refine ⟨_, rfl, ?_⟩
  have h15K := pw_KE h7I h15E h7K rfl
  have h15L := h15E.1
  show pwl X _ h15 1447 [some (.ref 0), some (.ref 16), some (.ref 141), some (.ref 185), some (pw_i i), a5, a6, a7] [pw_i x16] _
  have h15Rb := pw_RbE h7I h15E h7Rb rfl
  refine pwl_ld E (pc' := 1448) (st' := []) rfl (fun _ => rfl) ?_
  refine pwl_goto E (pc' := 2341) rfl (by decide) ?_
  exact pwl_mono (by omega) (hB h15 (a5) (a6) (a7) h15I h15K h15Rb (by omega) (by omega) s5 s6 s7)
set_option maxHeartbeats 4000000 in
theorem lc_21 {X : List (Nat × List Value)} {xs : List Int32} {K : Nat} {h : pm_H} {Q : pm_H → (Option Value ⊕ Unit) → Prop} (hX0 : X[0]? = some (0, xs.map Value.int)) (hl : xs.length ≤ 3584) (hX : pw_Xk X) (hR : pw_Xr X) (hS : pw_Xs X) (hF : pw_Xf X) (I : pw_I h) (hK : pw_K h) (hRb : pw_Rb h) (i : Int) (hi0 : 0 ≤ i) (hi1 : i + 7 ≤ xs.length) (a5 a6 a7 : Option Value) (s5 : ∀ n, pm_scl n a5 = true) (s6 : ∀ n, pm_scl n a6 = true) (s7 : ∀ n, pm_scl n a7 = true) (hB : ∀ (h' : pm_H) (b5 b6 b7 : Option Value), pw_I h' → pw_K h' → pw_Rb h' → h'.length ≤ h.length + 1 → pm_slt h' ≤ pm_slt h + 1000 → (∀ n, pm_scl n b5 = true) → (∀ n, pm_scl n b6 = true) → (∀ n, pm_scl n b7 = true) → pwl X K h' 2341 [some (.ref 0), some (.ref 16), some (.ref 141), some (.ref 185), some (pw_i i), b5, b6, b7] [] Q) : pwl X (K + 150) h 1451 [some (.ref 0), some (.ref 16), some (.ref 141), some (.ref 185), some (pw_i i), a5, a6, a7] [] Q := by
  have E : pm_ent 309 = some (1, 8, 13, 1, pmc_309) := rfl
  refine pwl_ld E (pc' := 1452) (st' := [.ref 16]) rfl (fun _ => rfl) ?_
  refine pwl_ld E (pc' := 1453) (st' := [.ref 0, .ref 16]) rfl (fun _ => rfl) ?_
  refine pwl_ld E (pc' := 1455) (st' := [pw_i i, .ref 0, .ref 16]) rfl (fun _ => rfl) ?_
  refine pwl_ld E (pc' := 1456) (st' := [pw_i 1, pw_i i, .ref 0, .ref 16]) rfl (fun _ => rfl) ?_
  refine pwl_add E (pc' := 1457) rfl rfl ?_
  refine pwl_sald E (pc' := 1458) rfl hX0 hl (by omega) (by omega) rfl ?_
  have hs1 := pw_s_r xs (i + 1)
  refine pwl_ld E (pc' := 1459) (st' := [.ref 0, pw_i (pw_s xs (i + 1)), .ref 16]) rfl (fun _ => rfl) ?_
  refine pwl_ld E (pc' := 1461) (st' := [pw_i i, .ref 0, pw_i (pw_s xs (i + 1)), .ref 16]) rfl (fun _ => rfl) ?_
  refine pwl_ld E (pc' := 1462) (st' := [pw_i 2, pw_i i, .ref 0, pw_i (pw_s xs (i + 1)), .ref 16]) rfl (fun _ => rfl) ?_
  refine pwl_add E (pc' := 1463) rfl rfl ?_
  refine pwl_sald E (pc' := 1464) rfl hX0 hl (by omega) (by omega) rfl ?_
  have hs2 := pw_s_r xs (i + 2)
  obtain ⟨f3l, f3h, -⟩ := pw_obj (c := 0) I rfl
  refine pwl_call (m' := 145) (As := [.ref 16, pw_i (pw_s xs (i + 1)), pw_i (pw_s xs (i + 2))]) (rest := []) (ls'' := [some (.ref 16), some (pw_i (pw_s xs (i + 1))), some (pw_i (pw_s xs (i + 2)))]) E rfl (fun _ => pwl_iV rfl rfl rfl (pw_cellI f3h rfl)) (rfl : pm_ent 145 = some (3, 3, 11, 2, pmc_145)) (by decide) rfl rfl (cm_145 (by decide) I (pw_s xs (i + 1)) (by omega) (by omega) (pw_s xs (i + 2)) (by omega) (by omega)) ?_
  rintro h5 v4 ⟨h5I, h5E, w6, rfl⟩
  refine ⟨_, rfl, ?_⟩
  have h5K := pw_KE I h5E hK rfl
  have h5L := h5E.1
  show pwl X _ h5 1467 [some (.ref 0), some (.ref 16), some (.ref 141), some (.ref 185), some (pw_i i), a5, a6, a7] [.long w6] _
  have h5Rb := pw_RbE I h5E hRb rfl
  refine pwl_ld E (pc' := 1468) (st' := []) rfl (fun _ => rfl) ?_
  refine pwl_ld E (pc' := 1469) (st' := [.ref 141]) rfl (fun _ => rfl) ?_
  refine pwl_ld E (pc' := 1470) (st' := [.ref 0, .ref 141]) rfl (fun _ => rfl) ?_
  refine pwl_ld E (pc' := 1472) (st' := [pw_i i, .ref 0, .ref 141]) rfl (fun _ => rfl) ?_
  refine pwl_ld E (pc' := 1473) (st' := [pw_i 1, pw_i i, .ref 0, .ref 141]) rfl (fun _ => rfl) ?_
  refine pwl_add E (pc' := 1474) rfl rfl ?_
  refine pwl_sald E (pc' := 1475) rfl hX0 hl (by omega) (by omega) rfl ?_
  have hs7 := pw_s_r xs (i + 1)
  refine pwl_ld E (pc' := 1476) (st' := [.ref 0, pw_i (pw_s xs (i + 1)), .ref 141]) rfl (fun _ => rfl) ?_
  refine pwl_ld E (pc' := 1478) (st' := [pw_i i, .ref 0, pw_i (pw_s xs (i + 1)), .ref 141]) rfl (fun _ => rfl) ?_
  refine pwl_ld E (pc' := 1479) (st' := [pw_i 2, pw_i i, .ref 0, pw_i (pw_s xs (i + 1)), .ref 141]) rfl (fun _ => rfl) ?_
  refine pwl_add E (pc' := 1480) rfl rfl ?_
  refine pwl_sald E (pc' := 1481) rfl hX0 hl (by omega) (by omega) rfl ?_
  have hs8 := pw_s_r xs (i + 2)
  obtain ⟨f9l, f9h, -⟩ := pw_obj (c := 125) h5I rfl
  refine pwl_call (m' := 268) (As := [.ref 141, pw_i (pw_s xs (i + 1)), pw_i (pw_s xs (i + 2))]) (rest := []) (ls'' := [some (.ref 141), some (pw_i (pw_s xs (i + 1))), some (pw_i (pw_s xs (i + 2)))]) E rfl (fun _ => pwl_iV rfl rfl rfl (pw_cellI f9h rfl)) (rfl : pm_ent 268 = some (3, 3, 12, 2, pmc_268)) (by decide) rfl rfl (cm_268 (by decide) h5I (pw_s xs (i + 1)) (by omega) (by omega) (pw_s xs (i + 2)) (by omega) (by omega) h5K) ?_
  rintro h11 v10 ⟨h11I, h11E, w12, rfl⟩
  refine ⟨_, rfl, ?_⟩
  have h11K := pw_KE h5I h11E h5K rfl
  have h11L := h11E.1
  show pwl X _ h11 1484 [some (.ref 0), some (.ref 16), some (.ref 141), some (.ref 185), some (pw_i i), a5, a6, a7] [.long w12] _
  have h11Rb := pw_RbE h5I h11E h5Rb rfl
  refine pwl_ld E (pc' := 1485) (st' := []) rfl (fun _ => rfl) ?_
  refine pwl_goto E (pc' := 2341) rfl (by decide) ?_
  exact pwl_mono (by omega) (hB h11 (a5) (a6) (a7) h11I h11K h11Rb (by omega) (by omega) s5 s6 s7)
set_option maxHeartbeats 4000000 in
theorem lc_22 {X : List (Nat × List Value)} {xs : List Int32} {K : Nat} {h : pm_H} {Q : pm_H → (Option Value ⊕ Unit) → Prop} (hX0 : X[0]? = some (0, xs.map Value.int)) (hl : xs.length ≤ 3584) (hX : pw_Xk X) (hR : pw_Xr X) (hS : pw_Xs X) (hF : pw_Xf X) (I : pw_I h) (hK : pw_K h) (hRb : pw_Rb h) (i : Int) (hi0 : 0 ≤ i) (hi1 : i + 7 ≤ xs.length) (a5 a6 a7 : Option Value) (s5 : ∀ n, pm_scl n a5 = true) (s6 : ∀ n, pm_scl n a6 = true) (s7 : ∀ n, pm_scl n a7 = true) (hB : ∀ (h' : pm_H) (b5 b6 b7 : Option Value), pw_I h' → pw_K h' → pw_Rb h' → h'.length ≤ h.length + 1 → pm_slt h' ≤ pm_slt h + 1000 → (∀ n, pm_scl n b5 = true) → (∀ n, pm_scl n b6 = true) → (∀ n, pm_scl n b7 = true) → pwl X K h' 2341 [some (.ref 0), some (.ref 16), some (.ref 141), some (.ref 185), some (pw_i i), b5, b6, b7] [] Q) : pwl X (K + 150) h 1488 [some (.ref 0), some (.ref 16), some (.ref 141), some (.ref 185), some (pw_i i), a5, a6, a7] [] Q := by
  have E : pm_ent 309 = some (1, 8, 13, 1, pmc_309) := rfl
  refine pwl_ld E (pc' := 1489) (st' := [.ref 16]) rfl (fun _ => rfl) ?_
  refine pwl_ld E (pc' := 1490) (st' := [.ref 0, .ref 16]) rfl (fun _ => rfl) ?_
  refine pwl_ld E (pc' := 1492) (st' := [pw_i i, .ref 0, .ref 16]) rfl (fun _ => rfl) ?_
  refine pwl_ld E (pc' := 1493) (st' := [pw_i 1, pw_i i, .ref 0, .ref 16]) rfl (fun _ => rfl) ?_
  refine pwl_add E (pc' := 1494) rfl rfl ?_
  refine pwl_sald E (pc' := 1495) rfl hX0 hl (by omega) (by omega) rfl ?_
  have hs1 := pw_s_r xs (i + 1)
  obtain ⟨f2l, f2h, -⟩ := pw_obj (c := 0) I rfl
  refine pwl_call (m' := 148) (As := [.ref 16, pw_i (pw_s xs (i + 1))]) (rest := []) (ls'' := [some (.ref 16), some (pw_i (pw_s xs (i + 1))), none, none, none, none, none, none]) E rfl (fun _ => pwl_iV rfl rfl rfl (pw_cellI f2h rfl)) (rfl : pm_ent 148 = some (2, 8, 11, 0, pmc_148)) (by decide) rfl rfl (cm_148 (by decide) I (pw_s xs (i + 1)) (by omega) (by omega)) ?_
  rintro h4 v3 ⟨h4I, h4E, x5, rfl, hx5a, hx5b⟩
  refine ⟨_, rfl, ?_⟩
  have h4K := pw_KE I h4E hK rfl
  have h4L := h4E.1
  show pwl X _ h4 1498 [some (.ref 0), some (.ref 16), some (.ref 141), some (.ref 185), some (pw_i i), a5, a6, a7] [pw_i x5] _
  have h4Rb := pw_RbE I h4E hRb rfl
  refine pwl_ld E (pc' := 1499) (st' := []) rfl (fun _ => rfl) ?_
  refine pwl_ld E (pc' := 1500) (st' := [.ref 141]) rfl (fun _ => rfl) ?_
  refine pwl_ld E (pc' := 1501) (st' := [.ref 0, .ref 141]) rfl (fun _ => rfl) ?_
  refine pwl_ld E (pc' := 1503) (st' := [pw_i i, .ref 0, .ref 141]) rfl (fun _ => rfl) ?_
  refine pwl_ld E (pc' := 1504) (st' := [pw_i 1, pw_i i, .ref 0, .ref 141]) rfl (fun _ => rfl) ?_
  refine pwl_add E (pc' := 1505) rfl rfl ?_
  refine pwl_sald E (pc' := 1506) rfl hX0 hl (by omega) (by omega) rfl ?_
  have hs6 := pw_s_r xs (i + 1)
  obtain ⟨f7l, f7h, -⟩ := pw_obj (c := 125) h4I rfl
  refine pwl_call (m' := 271) (As := [.ref 141, pw_i (pw_s xs (i + 1))]) (rest := []) (ls'' := [some (.ref 141), some (pw_i (pw_s xs (i + 1))), none, none, none, none, none, none]) E rfl (fun _ => pwl_iV rfl rfl rfl (pw_cellI f7h rfl)) (rfl : pm_ent 271 = some (2, 8, 12, 0, pmc_271)) (by decide) rfl rfl (cm_271 (by decide) h4I (pw_s xs (i + 1)) (by omega) (by omega) h4K) ?_
  rintro h9 v8 ⟨h9I, h9E, x10, rfl, hx10a, hx10b⟩
  refine ⟨_, rfl, ?_⟩
  have h9K := pw_KE h4I h9E h4K rfl
  have h9L := h9E.1
  show pwl X _ h9 1509 [some (.ref 0), some (.ref 16), some (.ref 141), some (.ref 185), some (pw_i i), a5, a6, a7] [pw_i x10] _
  have h9Rb := pw_RbE h4I h9E h4Rb rfl
  refine pwl_ld E (pc' := 1510) (st' := []) rfl (fun _ => rfl) ?_
  refine pwl_goto E (pc' := 2341) rfl (by decide) ?_
  exact pwl_mono (by omega) (hB h9 (a5) (a6) (a7) h9I h9K h9Rb (by omega) (by omega) s5 s6 s7)
set_option maxHeartbeats 4000000 in
theorem lc_23 {X : List (Nat × List Value)} {xs : List Int32} {K : Nat} {h : pm_H} {Q : pm_H → (Option Value ⊕ Unit) → Prop} (hX0 : X[0]? = some (0, xs.map Value.int)) (hl : xs.length ≤ 3584) (hX : pw_Xk X) (hR : pw_Xr X) (hS : pw_Xs X) (hF : pw_Xf X) (I : pw_I h) (hK : pw_K h) (hRb : pw_Rb h) (i : Int) (hi0 : 0 ≤ i) (hi1 : i + 7 ≤ xs.length) (a5 a6 a7 : Option Value) (s5 : ∀ n, pm_scl n a5 = true) (s6 : ∀ n, pm_scl n a6 = true) (s7 : ∀ n, pm_scl n a7 = true) (hB : ∀ (h' : pm_H) (b5 b6 b7 : Option Value), pw_I h' → pw_K h' → pw_Rb h' → h'.length ≤ h.length + 1 → pm_slt h' ≤ pm_slt h + 1000 → (∀ n, pm_scl n b5 = true) → (∀ n, pm_scl n b6 = true) → (∀ n, pm_scl n b7 = true) → pwl X K h' 2341 [some (.ref 0), some (.ref 16), some (.ref 141), some (.ref 185), some (pw_i i), b5, b6, b7] [] Q) : pwl X (K + 150) h 1513 [some (.ref 0), some (.ref 16), some (.ref 141), some (.ref 185), some (pw_i i), a5, a6, a7] [] Q := by
  have E : pm_ent 309 = some (1, 8, 13, 1, pmc_309) := rfl
  refine pwl_ld E (pc' := 1514) (st' := [.ref 16]) rfl (fun _ => rfl) ?_
  refine pwl_ld E (pc' := 1515) (st' := [.ref 0, .ref 16]) rfl (fun _ => rfl) ?_
  refine pwl_ld E (pc' := 1517) (st' := [pw_i i, .ref 0, .ref 16]) rfl (fun _ => rfl) ?_
  refine pwl_ld E (pc' := 1518) (st' := [pw_i 1, pw_i i, .ref 0, .ref 16]) rfl (fun _ => rfl) ?_
  refine pwl_add E (pc' := 1519) rfl rfl ?_
  refine pwl_sald E (pc' := 1520) rfl hX0 hl (by omega) (by omega) rfl ?_
  have hs1 := pw_s_r xs (i + 1)
  refine pwl_ld E (pc' := 1521) (st' := [.ref 0, pw_i (pw_s xs (i + 1)), .ref 16]) rfl (fun _ => rfl) ?_
  refine pwl_ld E (pc' := 1523) (st' := [pw_i i, .ref 0, pw_i (pw_s xs (i + 1)), .ref 16]) rfl (fun _ => rfl) ?_
  refine pwl_ld E (pc' := 1524) (st' := [pw_i 2, pw_i i, .ref 0, pw_i (pw_s xs (i + 1)), .ref 16]) rfl (fun _ => rfl) ?_
  refine pwl_add E (pc' := 1525) rfl rfl ?_
  refine pwl_sald E (pc' := 1526) rfl hX0 hl (by omega) (by omega) rfl ?_
  have hs2 := pw_s_r xs (i + 2)
  refine pwl_ld E (pc' := 1527) (st' := [.ref 0, pw_i (pw_s xs (i + 2)), pw_i (pw_s xs (i + 1)), .ref 16]) rfl (fun _ => rfl) ?_
  refine pwl_ld E (pc' := 1529) (st' := [pw_i i, .ref 0, pw_i (pw_s xs (i + 2)), pw_i (pw_s xs (i + 1)), .ref 16]) rfl (fun _ => rfl) ?_
  refine pwl_ld E (pc' := 1530) (st' := [pw_i 3, pw_i i, .ref 0, pw_i (pw_s xs (i + 2)), pw_i (pw_s xs (i + 1)), .ref 16]) rfl (fun _ => rfl) ?_
  refine pwl_add E (pc' := 1531) rfl rfl ?_
  refine pwl_sald E (pc' := 1532) rfl hX0 hl (by omega) (by omega) rfl ?_
  have hs3 := pw_s_r xs (i + 3)
  refine pwl_ld E (pc' := 1533) (st' := [.ref 0, pw_i (pw_s xs (i + 3)), pw_i (pw_s xs (i + 2)), pw_i (pw_s xs (i + 1)), .ref 16]) rfl (fun _ => rfl) ?_
  refine pwl_ld E (pc' := 1535) (st' := [pw_i i, .ref 0, pw_i (pw_s xs (i + 3)), pw_i (pw_s xs (i + 2)), pw_i (pw_s xs (i + 1)), .ref 16]) rfl (fun _ => rfl) ?_
  refine pwl_ld E (pc' := 1536) (st' := [pw_i 4, pw_i i, .ref 0, pw_i (pw_s xs (i + 3)), pw_i (pw_s xs (i + 2)), pw_i (pw_s xs (i + 1)), .ref 16]) rfl (fun _ => rfl) ?_
  refine pwl_add E (pc' := 1537) rfl rfl ?_
  refine pwl_sald E (pc' := 1538) rfl hX0 hl (by omega) (by omega) rfl ?_
  have hs4 := pw_s_r xs (i + 4)
  refine pwl_ld E (pc' := 1539) (st' := [.ref 0, pw_i (pw_s xs (i + 4)), pw_i (pw_s xs (i + 3)), pw_i (pw_s xs (i + 2)), pw_i (pw_s xs (i + 1)), .ref 16]) rfl (fun _ => rfl) ?_
  refine pwl_ld E (pc' := 1541) (st' := [pw_i i, .ref 0, pw_i (pw_s xs (i + 4)), pw_i (pw_s xs (i + 3)), pw_i (pw_s xs (i + 2)), pw_i (pw_s xs (i + 1)), .ref 16]) rfl (fun _ => rfl) ?_
  refine pwl_ld E (pc' := 1542) (st' := [pw_i 5, pw_i i, .ref 0, pw_i (pw_s xs (i + 4)), pw_i (pw_s xs (i + 3)), pw_i (pw_s xs (i + 2)), pw_i (pw_s xs (i + 1)), .ref 16]) rfl (fun _ => rfl) ?_
  refine pwl_add E (pc' := 1543) rfl rfl ?_
  refine pwl_sald E (pc' := 1544) rfl hX0 hl (by omega) (by omega) rfl ?_
  have hs5 := pw_s_r xs (i + 5)
  obtain ⟨f6l, f6h, -⟩ := pw_obj (c := 0) I rfl
  refine pwl_call (m' := 149) (As := [.ref 16, pw_i (pw_s xs (i + 1)), pw_i (pw_s xs (i + 2)), pw_i (pw_s xs (i + 3)), pw_i (pw_s xs (i + 4)), pw_i (pw_s xs (i + 5))]) (rest := []) (ls'' := [some (.ref 16), some (pw_i (pw_s xs (i + 1))), some (pw_i (pw_s xs (i + 2))), some (pw_i (pw_s xs (i + 3))), some (pw_i (pw_s xs (i + 4))), some (pw_i (pw_s xs (i + 5))), none, none]) E rfl (fun _ => pwl_iV rfl rfl rfl (pw_cellI f6h rfl)) (rfl : pm_ent 149 = some (6, 8, 11, 0, pmc_149)) (by decide) rfl rfl (cm_149 (by decide) I (pw_s xs (i + 1)) (by omega) (by omega) (pw_s xs (i + 2)) (by omega) (by omega) (pw_s xs (i + 3)) (by omega) (by omega) (pw_s xs (i + 4)) (by omega) (by omega) (pw_s xs (i + 5)) (by omega) (by omega)) ?_
  rintro h8 v7 ⟨h8I, h8E, x9, rfl, hx9a, hx9b⟩
  refine ⟨_, rfl, ?_⟩
  have h8K := pw_KE I h8E hK rfl
  have h8L := h8E.1
  show pwl X _ h8 1547 [some (.ref 0), some (.ref 16), some (.ref 141), some (.ref 185), some (pw_i i), a5, a6, a7] [pw_i x9] _
  have h8Rb := pw_RbE I h8E hRb rfl
  refine pwl_ld E (pc' := 1548) (st' := []) rfl (fun _ => rfl) ?_
  refine pwl_ld E (pc' := 1549) (st' := [.ref 141]) rfl (fun _ => rfl) ?_
  refine pwl_ld E (pc' := 1550) (st' := [.ref 0, .ref 141]) rfl (fun _ => rfl) ?_
  refine pwl_ld E (pc' := 1552) (st' := [pw_i i, .ref 0, .ref 141]) rfl (fun _ => rfl) ?_
  refine pwl_ld E (pc' := 1553) (st' := [pw_i 1, pw_i i, .ref 0, .ref 141]) rfl (fun _ => rfl) ?_
  refine pwl_add E (pc' := 1554) rfl rfl ?_
  refine pwl_sald E (pc' := 1555) rfl hX0 hl (by omega) (by omega) rfl ?_
  have hs10 := pw_s_r xs (i + 1)
  refine pwl_ld E (pc' := 1556) (st' := [.ref 0, pw_i (pw_s xs (i + 1)), .ref 141]) rfl (fun _ => rfl) ?_
  refine pwl_ld E (pc' := 1558) (st' := [pw_i i, .ref 0, pw_i (pw_s xs (i + 1)), .ref 141]) rfl (fun _ => rfl) ?_
  refine pwl_ld E (pc' := 1559) (st' := [pw_i 2, pw_i i, .ref 0, pw_i (pw_s xs (i + 1)), .ref 141]) rfl (fun _ => rfl) ?_
  refine pwl_add E (pc' := 1560) rfl rfl ?_
  refine pwl_sald E (pc' := 1561) rfl hX0 hl (by omega) (by omega) rfl ?_
  have hs11 := pw_s_r xs (i + 2)
  refine pwl_ld E (pc' := 1562) (st' := [.ref 0, pw_i (pw_s xs (i + 2)), pw_i (pw_s xs (i + 1)), .ref 141]) rfl (fun _ => rfl) ?_
  refine pwl_ld E (pc' := 1564) (st' := [pw_i i, .ref 0, pw_i (pw_s xs (i + 2)), pw_i (pw_s xs (i + 1)), .ref 141]) rfl (fun _ => rfl) ?_
  refine pwl_ld E (pc' := 1565) (st' := [pw_i 3, pw_i i, .ref 0, pw_i (pw_s xs (i + 2)), pw_i (pw_s xs (i + 1)), .ref 141]) rfl (fun _ => rfl) ?_
  refine pwl_add E (pc' := 1566) rfl rfl ?_
  refine pwl_sald E (pc' := 1567) rfl hX0 hl (by omega) (by omega) rfl ?_
  have hs12 := pw_s_r xs (i + 3)
  refine pwl_ld E (pc' := 1568) (st' := [.ref 0, pw_i (pw_s xs (i + 3)), pw_i (pw_s xs (i + 2)), pw_i (pw_s xs (i + 1)), .ref 141]) rfl (fun _ => rfl) ?_
  refine pwl_ld E (pc' := 1570) (st' := [pw_i i, .ref 0, pw_i (pw_s xs (i + 3)), pw_i (pw_s xs (i + 2)), pw_i (pw_s xs (i + 1)), .ref 141]) rfl (fun _ => rfl) ?_
  refine pwl_ld E (pc' := 1571) (st' := [pw_i 4, pw_i i, .ref 0, pw_i (pw_s xs (i + 3)), pw_i (pw_s xs (i + 2)), pw_i (pw_s xs (i + 1)), .ref 141]) rfl (fun _ => rfl) ?_
  refine pwl_add E (pc' := 1572) rfl rfl ?_
  refine pwl_sald E (pc' := 1573) rfl hX0 hl (by omega) (by omega) rfl ?_
  have hs13 := pw_s_r xs (i + 4)
  refine pwl_ld E (pc' := 1574) (st' := [.ref 0, pw_i (pw_s xs (i + 4)), pw_i (pw_s xs (i + 3)), pw_i (pw_s xs (i + 2)), pw_i (pw_s xs (i + 1)), .ref 141]) rfl (fun _ => rfl) ?_
  refine pwl_ld E (pc' := 1576) (st' := [pw_i i, .ref 0, pw_i (pw_s xs (i + 4)), pw_i (pw_s xs (i + 3)), pw_i (pw_s xs (i + 2)), pw_i (pw_s xs (i + 1)), .ref 141]) rfl (fun _ => rfl) ?_
  refine pwl_ld E (pc' := 1577) (st' := [pw_i 5, pw_i i, .ref 0, pw_i (pw_s xs (i + 4)), pw_i (pw_s xs (i + 3)), pw_i (pw_s xs (i + 2)), pw_i (pw_s xs (i + 1)), .ref 141]) rfl (fun _ => rfl) ?_
  refine pwl_add E (pc' := 1578) rfl rfl ?_
  refine pwl_sald E (pc' := 1579) rfl hX0 hl (by omega) (by omega) rfl ?_
  have hs14 := pw_s_r xs (i + 5)
  obtain ⟨f15l, f15h, -⟩ := pw_obj (c := 125) h8I rfl
  refine pwl_call (m' := 272) (As := [.ref 141, pw_i (pw_s xs (i + 1)), pw_i (pw_s xs (i + 2)), pw_i (pw_s xs (i + 3)), pw_i (pw_s xs (i + 4)), pw_i (pw_s xs (i + 5))]) (rest := []) (ls'' := [some (.ref 141), some (pw_i (pw_s xs (i + 1))), some (pw_i (pw_s xs (i + 2))), some (pw_i (pw_s xs (i + 3))), some (pw_i (pw_s xs (i + 4))), some (pw_i (pw_s xs (i + 5))), none, none, none]) E rfl (fun _ => pwl_iV rfl rfl rfl (pw_cellI f15h rfl)) (rfl : pm_ent 272 = some (6, 9, 12, 0, pmc_272)) (by decide) rfl rfl (cm_272 (by decide) h8I (pw_s xs (i + 1)) (by omega) (by omega) (pw_s xs (i + 2)) (by omega) (by omega) (pw_s xs (i + 3)) (by omega) (by omega) (pw_s xs (i + 4)) (by omega) (by omega) (pw_s xs (i + 5)) (by omega) (by omega) h8K) ?_
  rintro h17 v16 ⟨h17I, h17E, x18, rfl, hx18a, hx18b⟩
  refine ⟨_, rfl, ?_⟩
  have h17K := pw_KE h8I h17E h8K rfl
  have h17L := h17E.1
  show pwl X _ h17 1582 [some (.ref 0), some (.ref 16), some (.ref 141), some (.ref 185), some (pw_i i), a5, a6, a7] [pw_i x18] _
  have h17Rb := pw_RbE h8I h17E h8Rb rfl
  refine pwl_ld E (pc' := 1583) (st' := []) rfl (fun _ => rfl) ?_
  refine pwl_goto E (pc' := 2341) rfl (by decide) ?_
  exact pwl_mono (by omega) (hB h17 (a5) (a6) (a7) h17I h17K h17Rb (by omega) (by omega) s5 s6 s7)
set_option maxHeartbeats 4000000 in
theorem lc_24 {X : List (Nat × List Value)} {xs : List Int32} {K : Nat} {h : pm_H} {Q : pm_H → (Option Value ⊕ Unit) → Prop} (hX0 : X[0]? = some (0, xs.map Value.int)) (hl : xs.length ≤ 3584) (hX : pw_Xk X) (hR : pw_Xr X) (hS : pw_Xs X) (hF : pw_Xf X) (I : pw_I h) (hK : pw_K h) (hRb : pw_Rb h) (i : Int) (hi0 : 0 ≤ i) (hi1 : i + 7 ≤ xs.length) (a5 a6 a7 : Option Value) (s5 : ∀ n, pm_scl n a5 = true) (s6 : ∀ n, pm_scl n a6 = true) (s7 : ∀ n, pm_scl n a7 = true) (hB : ∀ (h' : pm_H) (b5 b6 b7 : Option Value), pw_I h' → pw_K h' → pw_Rb h' → h'.length ≤ h.length + 1 → pm_slt h' ≤ pm_slt h + 1000 → (∀ n, pm_scl n b5 = true) → (∀ n, pm_scl n b6 = true) → (∀ n, pm_scl n b7 = true) → pwl X K h' 2341 [some (.ref 0), some (.ref 16), some (.ref 141), some (.ref 185), some (pw_i i), b5, b6, b7] [] Q) : pwl X (K + 150) h 1586 [some (.ref 0), some (.ref 16), some (.ref 141), some (.ref 185), some (pw_i i), a5, a6, a7] [] Q := by
  have E : pm_ent 309 = some (1, 8, 13, 1, pmc_309) := rfl
  refine pwl_ld E (pc' := 1587) (st' := [.ref 16]) rfl (fun _ => rfl) ?_
  refine pwl_ld E (pc' := 1588) (st' := [.ref 0, .ref 16]) rfl (fun _ => rfl) ?_
  refine pwl_ld E (pc' := 1590) (st' := [pw_i i, .ref 0, .ref 16]) rfl (fun _ => rfl) ?_
  refine pwl_ld E (pc' := 1591) (st' := [pw_i 1, pw_i i, .ref 0, .ref 16]) rfl (fun _ => rfl) ?_
  refine pwl_add E (pc' := 1592) rfl rfl ?_
  refine pwl_sald E (pc' := 1593) rfl hX0 hl (by omega) (by omega) rfl ?_
  have hs1 := pw_s_r xs (i + 1)
  refine pwl_ld E (pc' := 1594) (st' := [.ref 0, pw_i (pw_s xs (i + 1)), .ref 16]) rfl (fun _ => rfl) ?_
  refine pwl_ld E (pc' := 1596) (st' := [pw_i i, .ref 0, pw_i (pw_s xs (i + 1)), .ref 16]) rfl (fun _ => rfl) ?_
  refine pwl_ld E (pc' := 1597) (st' := [pw_i 2, pw_i i, .ref 0, pw_i (pw_s xs (i + 1)), .ref 16]) rfl (fun _ => rfl) ?_
  refine pwl_add E (pc' := 1598) rfl rfl ?_
  refine pwl_sald E (pc' := 1599) rfl hX0 hl (by omega) (by omega) rfl ?_
  have hs2 := pw_s_r xs (i + 2)
  refine pwl_ld E (pc' := 1600) (st' := [.ref 0, pw_i (pw_s xs (i + 2)), pw_i (pw_s xs (i + 1)), .ref 16]) rfl (fun _ => rfl) ?_
  refine pwl_ld E (pc' := 1602) (st' := [pw_i i, .ref 0, pw_i (pw_s xs (i + 2)), pw_i (pw_s xs (i + 1)), .ref 16]) rfl (fun _ => rfl) ?_
  refine pwl_ld E (pc' := 1603) (st' := [pw_i 3, pw_i i, .ref 0, pw_i (pw_s xs (i + 2)), pw_i (pw_s xs (i + 1)), .ref 16]) rfl (fun _ => rfl) ?_
  refine pwl_add E (pc' := 1604) rfl rfl ?_
  refine pwl_sald E (pc' := 1605) rfl hX0 hl (by omega) (by omega) rfl ?_
  have hs3 := pw_s_r xs (i + 3)
  refine pwl_if E (pc' := 1612) rfl (by decide) (by omega) (by omega) ?_ ?_
  · intro hc4
    have hc4 : pw_s xs (i + 3) = (0 : Int) := hc4
    refine pwl_ld E (pc' := 1613) (st' := [pw_i 0, pw_i (pw_s xs (i + 2)), pw_i (pw_s xs (i + 1)), .ref 16]) rfl (fun _ => rfl) ?_
    obtain ⟨f5l, f5h, -⟩ := pw_obj (c := 0) I rfl
    refine pwl_call (m' := 151) (As := [.ref 16, pw_i (pw_s xs (i + 1)), pw_i (pw_s xs (i + 2)), pw_i 0]) (rest := []) (ls'' := [some (.ref 16), some (pw_i (pw_s xs (i + 1))), some (pw_i (pw_s xs (i + 2))), some (pw_i 0)]) E rfl (fun _ => pwl_iV rfl rfl rfl (pw_cellI f5h rfl)) (rfl : pm_ent 151 = some (4, 4, 11, 0, pmc_151)) (by decide) rfl rfl (cm_151 (by decide) I (pw_s xs (i + 1)) (by omega) (by omega) (pw_s xs (i + 2)) (by omega) (by omega) 0 (by decide) (by decide)) ?_
    rintro h7 v6 ⟨h7I, h7E, x8, rfl, hx8a, hx8b⟩
    refine ⟨_, rfl, ?_⟩
    have h7K := pw_KE I h7E hK rfl
    have h7L := h7E.1
    show pwl X _ h7 1616 [some (.ref 0), some (.ref 16), some (.ref 141), some (.ref 185), some (pw_i i), a5, a6, a7] [pw_i x8] _
    have h7Rb := pw_RbE I h7E hRb rfl
    refine pwl_ld E (pc' := 1617) (st' := []) rfl (fun _ => rfl) ?_
    refine pwl_ld E (pc' := 1618) (st' := [.ref 141]) rfl (fun _ => rfl) ?_
    refine pwl_ld E (pc' := 1619) (st' := [.ref 0, .ref 141]) rfl (fun _ => rfl) ?_
    refine pwl_ld E (pc' := 1621) (st' := [pw_i i, .ref 0, .ref 141]) rfl (fun _ => rfl) ?_
    refine pwl_ld E (pc' := 1622) (st' := [pw_i 1, pw_i i, .ref 0, .ref 141]) rfl (fun _ => rfl) ?_
    refine pwl_add E (pc' := 1623) rfl rfl ?_
    refine pwl_sald E (pc' := 1624) rfl hX0 hl (by omega) (by omega) rfl ?_
    have hs9 := pw_s_r xs (i + 1)
    refine pwl_ld E (pc' := 1625) (st' := [.ref 0, pw_i (pw_s xs (i + 1)), .ref 141]) rfl (fun _ => rfl) ?_
    refine pwl_ld E (pc' := 1627) (st' := [pw_i i, .ref 0, pw_i (pw_s xs (i + 1)), .ref 141]) rfl (fun _ => rfl) ?_
    refine pwl_ld E (pc' := 1628) (st' := [pw_i 2, pw_i i, .ref 0, pw_i (pw_s xs (i + 1)), .ref 141]) rfl (fun _ => rfl) ?_
    refine pwl_add E (pc' := 1629) rfl rfl ?_
    refine pwl_sald E (pc' := 1630) rfl hX0 hl (by omega) (by omega) rfl ?_
    have hs10 := pw_s_r xs (i + 2)
    refine pwl_ld E (pc' := 1631) (st' := [.ref 0, pw_i (pw_s xs (i + 2)), pw_i (pw_s xs (i + 1)), .ref 141]) rfl (fun _ => rfl) ?_
    refine pwl_ld E (pc' := 1633) (st' := [pw_i i, .ref 0, pw_i (pw_s xs (i + 2)), pw_i (pw_s xs (i + 1)), .ref 141]) rfl (fun _ => rfl) ?_
    refine pwl_ld E (pc' := 1634) (st' := [pw_i 3, pw_i i, .ref 0, pw_i (pw_s xs (i + 2)), pw_i (pw_s xs (i + 1)), .ref 141]) rfl (fun _ => rfl) ?_
    refine pwl_add E (pc' := 1635) rfl rfl ?_
    refine pwl_sald E (pc' := 1636) rfl hX0 hl (by omega) (by omega) rfl ?_
    have hs11 := pw_s_r xs (i + 3)
    refine pwl_if E (pc' := 1643) rfl (by decide) (by omega) (by omega) ?_ ?_
    · intro hc12
      have hc12 : pw_s xs (i + 3) = (0 : Int) := hc12
      refine pwl_ld E (pc' := 1644) (st' := [pw_i 0, pw_i (pw_s xs (i + 2)), pw_i (pw_s xs (i + 1)), .ref 141]) rfl (fun _ => rfl) ?_
      obtain ⟨f13l, f13h, -⟩ := pw_obj (c := 125) h7I rfl
      refine pwl_call (m' := 273) (As := [.ref 141, pw_i (pw_s xs (i + 1)), pw_i (pw_s xs (i + 2)), pw_i 0]) (rest := []) (ls'' := [some (.ref 141), some (pw_i (pw_s xs (i + 1))), some (pw_i (pw_s xs (i + 2))), some (pw_i 0)]) E rfl (fun _ => pwl_iV rfl rfl rfl (pw_cellI f13h rfl)) (rfl : pm_ent 273 = some (4, 4, 12, 0, pmc_273)) (by decide) rfl rfl (cm_273 (by decide) h7I (pw_s xs (i + 1)) (by omega) (by omega) (pw_s xs (i + 2)) (by omega) (by omega) 0 (by decide) (by decide)) ?_
      rintro h15 v14 ⟨h15I, h15E, x16, rfl, hx16a, hx16b⟩
      refine ⟨_, rfl, ?_⟩
      have h15K := pw_KE h7I h15E h7K rfl
      have h15L := h15E.1
      show pwl X _ h15 1647 [some (.ref 0), some (.ref 16), some (.ref 141), some (.ref 185), some (pw_i i), a5, a6, a7] [pw_i x16] _
      have h15Rb := pw_RbE h7I h15E h7Rb rfl
      refine pwl_ld E (pc' := 1648) (st' := []) rfl (fun _ => rfl) ?_
      refine pwl_goto E (pc' := 2341) rfl (by decide) ?_
      exact pwl_mono (by omega) (hB h15 (a5) (a6) (a7) h15I h15K h15Rb (by omega) (by omega) s5 s6 s7)
    · intro hc17
      have hc17 : ¬ (pw_s xs (i + 3) = (0 : Int)) := hc17
      exfalso; omega
  · intro hc18
    have hc18 : ¬ (pw_s xs (i + 3) = (0 : Int)) := hc18
    refine pwl_ld E (pc' := 1609) (st' := [pw_i 1, pw_i (pw_s xs (i + 2)), pw_i (pw_s xs (i + 1)), .ref 16]) rfl (fun _ => rfl) ?_
    refine pwl_goto E (pc' := 1613) rfl (by decide) ?_
    obtain ⟨f19l, f19h, -⟩ := pw_obj (c := 0) I rfl
    refine pwl_call (m' := 151) (As := [.ref 16, pw_i (pw_s xs (i + 1)), pw_i (pw_s xs (i + 2)), pw_i 1]) (rest := []) (ls'' := [some (.ref 16), some (pw_i (pw_s xs (i + 1))), some (pw_i (pw_s xs (i + 2))), some (pw_i 1)]) E rfl (fun _ => pwl_iV rfl rfl rfl (pw_cellI f19h rfl)) (rfl : pm_ent 151 = some (4, 4, 11, 0, pmc_151)) (by decide) rfl rfl (cm_151 (by decide) I (pw_s xs (i + 1)) (by omega) (by omega) (pw_s xs (i + 2)) (by omega) (by omega) 1 (by decide) (by decide)) ?_
    rintro h21 v20 ⟨h21I, h21E, x22, rfl, hx22a, hx22b⟩
    refine ⟨_, rfl, ?_⟩
    have h21K := pw_KE I h21E hK rfl
    have h21L := h21E.1
    show pwl X _ h21 1616 [some (.ref 0), some (.ref 16), some (.ref 141), some (.ref 185), some (pw_i i), a5, a6, a7] [pw_i x22] _
    have h21Rb := pw_RbE I h21E hRb rfl
    refine pwl_ld E (pc' := 1617) (st' := []) rfl (fun _ => rfl) ?_
    refine pwl_ld E (pc' := 1618) (st' := [.ref 141]) rfl (fun _ => rfl) ?_
    refine pwl_ld E (pc' := 1619) (st' := [.ref 0, .ref 141]) rfl (fun _ => rfl) ?_
    refine pwl_ld E (pc' := 1621) (st' := [pw_i i, .ref 0, .ref 141]) rfl (fun _ => rfl) ?_
    refine pwl_ld E (pc' := 1622) (st' := [pw_i 1, pw_i i, .ref 0, .ref 141]) rfl (fun _ => rfl) ?_
    refine pwl_add E (pc' := 1623) rfl rfl ?_
    refine pwl_sald E (pc' := 1624) rfl hX0 hl (by omega) (by omega) rfl ?_
    have hs23 := pw_s_r xs (i + 1)
    refine pwl_ld E (pc' := 1625) (st' := [.ref 0, pw_i (pw_s xs (i + 1)), .ref 141]) rfl (fun _ => rfl) ?_
    refine pwl_ld E (pc' := 1627) (st' := [pw_i i, .ref 0, pw_i (pw_s xs (i + 1)), .ref 141]) rfl (fun _ => rfl) ?_
    refine pwl_ld E (pc' := 1628) (st' := [pw_i 2, pw_i i, .ref 0, pw_i (pw_s xs (i + 1)), .ref 141]) rfl (fun _ => rfl) ?_
    refine pwl_add E (pc' := 1629) rfl rfl ?_
    refine pwl_sald E (pc' := 1630) rfl hX0 hl (by omega) (by omega) rfl ?_
    have hs24 := pw_s_r xs (i + 2)
    refine pwl_ld E (pc' := 1631) (st' := [.ref 0, pw_i (pw_s xs (i + 2)), pw_i (pw_s xs (i + 1)), .ref 141]) rfl (fun _ => rfl) ?_
    refine pwl_ld E (pc' := 1633) (st' := [pw_i i, .ref 0, pw_i (pw_s xs (i + 2)), pw_i (pw_s xs (i + 1)), .ref 141]) rfl (fun _ => rfl) ?_
    refine pwl_ld E (pc' := 1634) (st' := [pw_i 3, pw_i i, .ref 0, pw_i (pw_s xs (i + 2)), pw_i (pw_s xs (i + 1)), .ref 141]) rfl (fun _ => rfl) ?_
    refine pwl_add E (pc' := 1635) rfl rfl ?_
    refine pwl_sald E (pc' := 1636) rfl hX0 hl (by omega) (by omega) rfl ?_
    have hs25 := pw_s_r xs (i + 3)
    refine pwl_if E (pc' := 1643) rfl (by decide) (by omega) (by omega) ?_ ?_
    · intro hc26
      have hc26 : pw_s xs (i + 3) = (0 : Int) := hc26
      exfalso; omega
    · intro hc27
      have hc27 : ¬ (pw_s xs (i + 3) = (0 : Int)) := hc27
      refine pwl_ld E (pc' := 1640) (st' := [pw_i 1, pw_i (pw_s xs (i + 2)), pw_i (pw_s xs (i + 1)), .ref 141]) rfl (fun _ => rfl) ?_
      refine pwl_goto E (pc' := 1644) rfl (by decide) ?_
      obtain ⟨f28l, f28h, -⟩ := pw_obj (c := 125) h21I rfl
      refine pwl_call (m' := 273) (As := [.ref 141, pw_i (pw_s xs (i + 1)), pw_i (pw_s xs (i + 2)), pw_i 1]) (rest := []) (ls'' := [some (.ref 141), some (pw_i (pw_s xs (i + 1))), some (pw_i (pw_s xs (i + 2))), some (pw_i 1)]) E rfl (fun _ => pwl_iV rfl rfl rfl (pw_cellI f28h rfl)) (rfl : pm_ent 273 = some (4, 4, 12, 0, pmc_273)) (by decide) rfl rfl (cm_273 (by decide) h21I (pw_s xs (i + 1)) (by omega) (by omega) (pw_s xs (i + 2)) (by omega) (by omega) 1 (by decide) (by decide)) ?_
      rintro h30 v29 ⟨h30I, h30E, x31, rfl, hx31a, hx31b⟩
      refine ⟨_, rfl, ?_⟩
      have h30K := pw_KE h21I h30E h21K rfl
      have h30L := h30E.1
      show pwl X _ h30 1647 [some (.ref 0), some (.ref 16), some (.ref 141), some (.ref 185), some (pw_i i), a5, a6, a7] [pw_i x31] _
      have h30Rb := pw_RbE h21I h30E h21Rb rfl
      refine pwl_ld E (pc' := 1648) (st' := []) rfl (fun _ => rfl) ?_
      refine pwl_goto E (pc' := 2341) rfl (by decide) ?_
      exact pwl_mono (by omega) (hB h30 (a5) (a6) (a7) h30I h30K h30Rb (by omega) (by omega) s5 s6 s7)
set_option maxHeartbeats 4000000 in
theorem lc_25 {X : List (Nat × List Value)} {xs : List Int32} {K : Nat} {h : pm_H} {Q : pm_H → (Option Value ⊕ Unit) → Prop} (hX0 : X[0]? = some (0, xs.map Value.int)) (hl : xs.length ≤ 3584) (hX : pw_Xk X) (hR : pw_Xr X) (hS : pw_Xs X) (hF : pw_Xf X) (I : pw_I h) (hK : pw_K h) (hRb : pw_Rb h) (i : Int) (hi0 : 0 ≤ i) (hi1 : i + 7 ≤ xs.length) (a5 a6 a7 : Option Value) (s5 : ∀ n, pm_scl n a5 = true) (s6 : ∀ n, pm_scl n a6 = true) (s7 : ∀ n, pm_scl n a7 = true) (hB : ∀ (h' : pm_H) (b5 b6 b7 : Option Value), pw_I h' → pw_K h' → pw_Rb h' → h'.length ≤ h.length + 1 → pm_slt h' ≤ pm_slt h + 1000 → (∀ n, pm_scl n b5 = true) → (∀ n, pm_scl n b6 = true) → (∀ n, pm_scl n b7 = true) → pwl X K h' 2341 [some (.ref 0), some (.ref 16), some (.ref 141), some (.ref 185), some (pw_i i), b5, b6, b7] [] Q) : pwl X (K + 150) h 1651 [some (.ref 0), some (.ref 16), some (.ref 141), some (.ref 185), some (pw_i i), a5, a6, a7] [] Q := by
  have E : pm_ent 309 = some (1, 8, 13, 1, pmc_309) := rfl
  refine pwl_ld E (pc' := 1652) (st' := [.ref 16]) rfl (fun _ => rfl) ?_
  refine pwl_ld E (pc' := 1653) (st' := [.ref 0, .ref 16]) rfl (fun _ => rfl) ?_
  refine pwl_ld E (pc' := 1655) (st' := [pw_i i, .ref 0, .ref 16]) rfl (fun _ => rfl) ?_
  refine pwl_ld E (pc' := 1656) (st' := [pw_i 1, pw_i i, .ref 0, .ref 16]) rfl (fun _ => rfl) ?_
  refine pwl_add E (pc' := 1657) rfl rfl ?_
  refine pwl_sald E (pc' := 1658) rfl hX0 hl (by omega) (by omega) rfl ?_
  have hs1 := pw_s_r xs (i + 1)
  refine pwl_if E (pc' := 1665) rfl (by decide) (by omega) (by omega) ?_ ?_
  · intro hc2
    have hc2 : pw_s xs (i + 1) = (0 : Int) := hc2
    refine pwl_ld E (pc' := 1666) (st' := [pw_i 0, .ref 16]) rfl (fun _ => rfl) ?_
    refine pwl_ld E (pc' := 1667) (st' := [.ref 0, pw_i 0, .ref 16]) rfl (fun _ => rfl) ?_
    refine pwl_ld E (pc' := 1669) (st' := [pw_i i, .ref 0, pw_i 0, .ref 16]) rfl (fun _ => rfl) ?_
    refine pwl_ld E (pc' := 1670) (st' := [pw_i 2, pw_i i, .ref 0, pw_i 0, .ref 16]) rfl (fun _ => rfl) ?_
    refine pwl_add E (pc' := 1671) rfl rfl ?_
    refine pwl_sald E (pc' := 1672) rfl hX0 hl (by omega) (by omega) rfl ?_
    have hs3 := pw_s_r xs (i + 2)
    refine pwl_ld E (pc' := 1673) (st' := [.ref 185, pw_i (pw_s xs (i + 2)), pw_i 0, .ref 16]) rfl (fun _ => rfl) ?_
    refine pwl_call (m' := 318) (As := [.ref 16, pw_i 0, pw_i (pw_s xs (i + 2)), .ref 185]) (rest := []) (ls'' := [some (.ref 16), some (pw_i 0), some (pw_i (pw_s xs (i + 2))), some (.ref 185), none]) E rfl (fun _ => pwl_iS rfl rfl rfl (pw_sc8 I s5 s6 s7) rfl) (rfl : pm_ent 318 = some (4, 5, 13, 0, pmc_318)) (by decide) rfl rfl (cm_318 (by decide) I 0 (by decide) (by decide) (pw_s xs (i + 2)) (by omega) (by omega)) ?_
    rintro h5 v4 ⟨h5I, h5E, x6, rfl, hx6a, hx6b⟩
    refine ⟨_, rfl, ?_⟩
    have h5K := pw_KE I h5E hK rfl
    have h5L := h5E.1
    show pwl X _ h5 1676 [some (.ref 0), some (.ref 16), some (.ref 141), some (.ref 185), some (pw_i i), a5, a6, a7] [pw_i x6] _
    have h5Rb := pw_RbE I h5E hRb rfl
    refine pwl_ist E (pc' := 1678) (ls' := [some (.ref 0), some (.ref 16), some (.ref 141), some (.ref 185), some (pw_i i), some (pw_i x6), a6, a7]) rfl rfl rfl rfl ?_
    refine pwl_ld E (pc' := 1679) (st' := [.ref 141]) rfl (fun _ => rfl) ?_
    refine pwl_ld E (pc' := 1680) (st' := [.ref 0, .ref 141]) rfl (fun _ => rfl) ?_
    refine pwl_ld E (pc' := 1682) (st' := [pw_i i, .ref 0, .ref 141]) rfl (fun _ => rfl) ?_
    refine pwl_ld E (pc' := 1683) (st' := [pw_i 1, pw_i i, .ref 0, .ref 141]) rfl (fun _ => rfl) ?_
    refine pwl_add E (pc' := 1684) rfl rfl ?_
    refine pwl_sald E (pc' := 1685) rfl hX0 hl (by omega) (by omega) rfl ?_
    have hs7 := pw_s_r xs (i + 1)
    refine pwl_if E (pc' := 1692) rfl (by decide) (by omega) (by omega) ?_ ?_
    · intro hc8
      have hc8 : pw_s xs (i + 1) = (0 : Int) := hc8
      refine pwl_ld E (pc' := 1693) (st' := [pw_i 0, .ref 141]) rfl (fun _ => rfl) ?_
      refine pwl_ld E (pc' := 1694) (st' := [.ref 0, pw_i 0, .ref 141]) rfl (fun _ => rfl) ?_
      refine pwl_ld E (pc' := 1696) (st' := [pw_i i, .ref 0, pw_i 0, .ref 141]) rfl (fun _ => rfl) ?_
      refine pwl_ld E (pc' := 1697) (st' := [pw_i 2, pw_i i, .ref 0, pw_i 0, .ref 141]) rfl (fun _ => rfl) ?_
      refine pwl_add E (pc' := 1698) rfl rfl ?_
      refine pwl_sald E (pc' := 1699) rfl hX0 hl (by omega) (by omega) rfl ?_
      have hs9 := pw_s_r xs (i + 2)
      obtain ⟨f10l, f10h, -⟩ := pw_obj (c := 125) h5I rfl
      refine pwl_call (m' := 274) (As := [.ref 141, pw_i 0, pw_i (pw_s xs (i + 2))]) (rest := []) (ls'' := [some (.ref 141), some (pw_i 0), some (pw_i (pw_s xs (i + 2)))]) E rfl (fun _ => pwl_iV rfl rfl rfl (pw_cellI f10h rfl)) (rfl : pm_ent 274 = some (3, 3, 12, 2, pmc_274)) (by decide) rfl rfl (cm_274 (by decide) h5I 0 (by decide) (by decide) (pw_s xs (i + 2)) (by omega) (by omega)) ?_
      rintro h12 v11 ⟨h12I, h12E, w13, rfl⟩
      refine ⟨_, rfl, ?_⟩
      have h12K := pw_KE h5I h12E h5K rfl
      have h12L := h12E.1
      show pwl X _ h12 1702 [some (.ref 0), some (.ref 16), some (.ref 141), some (.ref 185), some (pw_i i), some (pw_i x6), a6, a7] [.long w13] _
      have h12Rb := pw_RbE h5I h12E h5Rb rfl
      refine pwl_lst E (pc' := 1704) (ls' := [some (.ref 0), some (.ref 16), some (.ref 141), some (.ref 185), some (pw_i i), some (pw_i x6), some (.long w13), none]) rfl rfl rfl rfl ?_
      refine pwl_goto E (pc' := 2341) rfl (by decide) ?_
      exact pwl_mono (by omega) (hB h12 (some (pw_i x6)) (some (.long w13)) (none) h12I h12K h12Rb (by omega) (by omega) (fun _ => rfl) (fun _ => rfl) (fun _ => rfl))
    · intro hc14
      have hc14 : ¬ (pw_s xs (i + 1) = (0 : Int)) := hc14
      exfalso; omega
  · intro hc15
    have hc15 : ¬ (pw_s xs (i + 1) = (0 : Int)) := hc15
    refine pwl_ld E (pc' := 1662) (st' := [pw_i 1, .ref 16]) rfl (fun _ => rfl) ?_
    refine pwl_goto E (pc' := 1666) rfl (by decide) ?_
    refine pwl_ld E (pc' := 1667) (st' := [.ref 0, pw_i 1, .ref 16]) rfl (fun _ => rfl) ?_
    refine pwl_ld E (pc' := 1669) (st' := [pw_i i, .ref 0, pw_i 1, .ref 16]) rfl (fun _ => rfl) ?_
    refine pwl_ld E (pc' := 1670) (st' := [pw_i 2, pw_i i, .ref 0, pw_i 1, .ref 16]) rfl (fun _ => rfl) ?_
    refine pwl_add E (pc' := 1671) rfl rfl ?_
    refine pwl_sald E (pc' := 1672) rfl hX0 hl (by omega) (by omega) rfl ?_
    have hs16 := pw_s_r xs (i + 2)
    refine pwl_ld E (pc' := 1673) (st' := [.ref 185, pw_i (pw_s xs (i + 2)), pw_i 1, .ref 16]) rfl (fun _ => rfl) ?_
    refine pwl_call (m' := 318) (As := [.ref 16, pw_i 1, pw_i (pw_s xs (i + 2)), .ref 185]) (rest := []) (ls'' := [some (.ref 16), some (pw_i 1), some (pw_i (pw_s xs (i + 2))), some (.ref 185), none]) E rfl (fun _ => pwl_iS rfl rfl rfl (pw_sc8 I s5 s6 s7) rfl) (rfl : pm_ent 318 = some (4, 5, 13, 0, pmc_318)) (by decide) rfl rfl (cm_318 (by decide) I 1 (by decide) (by decide) (pw_s xs (i + 2)) (by omega) (by omega)) ?_
    rintro h18 v17 ⟨h18I, h18E, x19, rfl, hx19a, hx19b⟩
    refine ⟨_, rfl, ?_⟩
    have h18K := pw_KE I h18E hK rfl
    have h18L := h18E.1
    show pwl X _ h18 1676 [some (.ref 0), some (.ref 16), some (.ref 141), some (.ref 185), some (pw_i i), a5, a6, a7] [pw_i x19] _
    have h18Rb := pw_RbE I h18E hRb rfl
    refine pwl_ist E (pc' := 1678) (ls' := [some (.ref 0), some (.ref 16), some (.ref 141), some (.ref 185), some (pw_i i), some (pw_i x19), a6, a7]) rfl rfl rfl rfl ?_
    refine pwl_ld E (pc' := 1679) (st' := [.ref 141]) rfl (fun _ => rfl) ?_
    refine pwl_ld E (pc' := 1680) (st' := [.ref 0, .ref 141]) rfl (fun _ => rfl) ?_
    refine pwl_ld E (pc' := 1682) (st' := [pw_i i, .ref 0, .ref 141]) rfl (fun _ => rfl) ?_
    refine pwl_ld E (pc' := 1683) (st' := [pw_i 1, pw_i i, .ref 0, .ref 141]) rfl (fun _ => rfl) ?_
    refine pwl_add E (pc' := 1684) rfl rfl ?_
    refine pwl_sald E (pc' := 1685) rfl hX0 hl (by omega) (by omega) rfl ?_
    have hs20 := pw_s_r xs (i + 1)
    refine pwl_if E (pc' := 1692) rfl (by decide) (by omega) (by omega) ?_ ?_
    · intro hc21
      have hc21 : pw_s xs (i + 1) = (0 : Int) := hc21
      exfalso; omega
    · intro hc22
      have hc22 : ¬ (pw_s xs (i + 1) = (0 : Int)) := hc22
      refine pwl_ld E (pc' := 1689) (st' := [pw_i 1, .ref 141]) rfl (fun _ => rfl) ?_
      refine pwl_goto E (pc' := 1693) rfl (by decide) ?_
      refine pwl_ld E (pc' := 1694) (st' := [.ref 0, pw_i 1, .ref 141]) rfl (fun _ => rfl) ?_
      refine pwl_ld E (pc' := 1696) (st' := [pw_i i, .ref 0, pw_i 1, .ref 141]) rfl (fun _ => rfl) ?_
      refine pwl_ld E (pc' := 1697) (st' := [pw_i 2, pw_i i, .ref 0, pw_i 1, .ref 141]) rfl (fun _ => rfl) ?_
      refine pwl_add E (pc' := 1698) rfl rfl ?_
      refine pwl_sald E (pc' := 1699) rfl hX0 hl (by omega) (by omega) rfl ?_
      have hs23 := pw_s_r xs (i + 2)
      obtain ⟨f24l, f24h, -⟩ := pw_obj (c := 125) h18I rfl
      refine pwl_call (m' := 274) (As := [.ref 141, pw_i 1, pw_i (pw_s xs (i + 2))]) (rest := []) (ls'' := [some (.ref 141), some (pw_i 1), some (pw_i (pw_s xs (i + 2)))]) E rfl (fun _ => pwl_iV rfl rfl rfl (pw_cellI f24h rfl)) (rfl : pm_ent 274 = some (3, 3, 12, 2, pmc_274)) (by decide) rfl rfl (cm_274 (by decide) h18I 1 (by decide) (by decide) (pw_s xs (i + 2)) (by omega) (by omega)) ?_
      rintro h26 v25 ⟨h26I, h26E, w27, rfl⟩
      refine ⟨_, rfl, ?_⟩
      have h26K := pw_KE h18I h26E h18K rfl
      have h26L := h26E.1
      show pwl X _ h26 1702 [some (.ref 0), some (.ref 16), some (.ref 141), some (.ref 185), some (pw_i i), some (pw_i x19), a6, a7] [.long w27] _
      have h26Rb := pw_RbE h18I h26E h18Rb rfl
      refine pwl_lst E (pc' := 1704) (ls' := [some (.ref 0), some (.ref 16), some (.ref 141), some (.ref 185), some (pw_i i), some (pw_i x19), some (.long w27), none]) rfl rfl rfl rfl ?_
      refine pwl_goto E (pc' := 2341) rfl (by decide) ?_
      exact pwl_mono (by omega) (hB h26 (some (pw_i x19)) (some (.long w27)) (none) h26I h26K h26Rb (by omega) (by omega) (fun _ => rfl) (fun _ => rfl) (fun _ => rfl))
set_option maxHeartbeats 4000000 in
theorem lc_26 {X : List (Nat × List Value)} {xs : List Int32} {K : Nat} {h : pm_H} {Q : pm_H → (Option Value ⊕ Unit) → Prop} (hX0 : X[0]? = some (0, xs.map Value.int)) (hl : xs.length ≤ 3584) (hX : pw_Xk X) (hR : pw_Xr X) (hS : pw_Xs X) (hF : pw_Xf X) (I : pw_I h) (hK : pw_K h) (hRb : pw_Rb h) (i : Int) (hi0 : 0 ≤ i) (hi1 : i + 7 ≤ xs.length) (a5 a6 a7 : Option Value) (s5 : ∀ n, pm_scl n a5 = true) (s6 : ∀ n, pm_scl n a6 = true) (s7 : ∀ n, pm_scl n a7 = true) (hB : ∀ (h' : pm_H) (b5 b6 b7 : Option Value), pw_I h' → pw_K h' → pw_Rb h' → h'.length ≤ h.length + 1 → pm_slt h' ≤ pm_slt h + 1000 → (∀ n, pm_scl n b5 = true) → (∀ n, pm_scl n b6 = true) → (∀ n, pm_scl n b7 = true) → pwl X K h' 2341 [some (.ref 0), some (.ref 16), some (.ref 141), some (.ref 185), some (pw_i i), b5, b6, b7] [] Q) : pwl X (K + 150) h 1707 [some (.ref 0), some (.ref 16), some (.ref 141), some (.ref 185), some (pw_i i), a5, a6, a7] [] Q := by
  have E : pm_ent 309 = some (1, 8, 13, 1, pmc_309) := rfl
  refine pwl_ld E (pc' := 1708) (st' := [.ref 16]) rfl (fun _ => rfl) ?_
  refine pwl_ld E (pc' := 1709) (st' := [.ref 0, .ref 16]) rfl (fun _ => rfl) ?_
  refine pwl_ld E (pc' := 1711) (st' := [pw_i i, .ref 0, .ref 16]) rfl (fun _ => rfl) ?_
  refine pwl_ld E (pc' := 1712) (st' := [pw_i 1, pw_i i, .ref 0, .ref 16]) rfl (fun _ => rfl) ?_
  refine pwl_add E (pc' := 1713) rfl rfl ?_
  refine pwl_sald E (pc' := 1714) rfl hX0 hl (by omega) (by omega) rfl ?_
  have hs1 := pw_s_r xs (i + 1)
  obtain ⟨f2l, f2h, -⟩ := pw_obj (c := 0) I rfl
  refine pwl_call (m' := 152) (As := [.ref 16, pw_i (pw_s xs (i + 1))]) (rest := []) (ls'' := [some (.ref 16), some (pw_i (pw_s xs (i + 1))), none]) E rfl (fun _ => pwl_iV rfl rfl rfl (pw_cellI f2h rfl)) (rfl : pm_ent 152 = some (2, 3, 11, 0, pmc_152)) (by decide) rfl rfl (cm_152 (by decide) I (pw_s xs (i + 1)) (by omega) (by omega)) ?_
  rintro h4 v3 ⟨rfl, x5, rfl, hx5a, hx5b⟩
  refine ⟨_, rfl, ?_⟩
  show pwl X _ h 1717 [some (.ref 0), some (.ref 16), some (.ref 141), some (.ref 185), some (pw_i i), a5, a6, a7] [pw_i x5] _
  refine pwl_ld E (pc' := 1718) (st' := []) rfl (fun _ => rfl) ?_
  refine pwl_ld E (pc' := 1719) (st' := [.ref 141]) rfl (fun _ => rfl) ?_
  refine pwl_ld E (pc' := 1720) (st' := [.ref 0, .ref 141]) rfl (fun _ => rfl) ?_
  refine pwl_ld E (pc' := 1722) (st' := [pw_i i, .ref 0, .ref 141]) rfl (fun _ => rfl) ?_
  refine pwl_ld E (pc' := 1723) (st' := [pw_i 1, pw_i i, .ref 0, .ref 141]) rfl (fun _ => rfl) ?_
  refine pwl_add E (pc' := 1724) rfl rfl ?_
  refine pwl_sald E (pc' := 1725) rfl hX0 hl (by omega) (by omega) rfl ?_
  have hs6 := pw_s_r xs (i + 1)
  obtain ⟨f7l, f7h, -⟩ := pw_obj (c := 125) I rfl
  refine pwl_call (m' := 276) (As := [.ref 141, pw_i (pw_s xs (i + 1))]) (rest := []) (ls'' := [some (.ref 141), some (pw_i (pw_s xs (i + 1))), none, none]) E rfl (fun _ => pwl_iV rfl rfl rfl (pw_cellI f7h rfl)) (rfl : pm_ent 276 = some (2, 4, 12, 0, pmc_276)) (by decide) rfl rfl (cm_276 (by decide) I (pw_s xs (i + 1)) (by omega) (by omega)) ?_
  rintro h9 v8 ⟨h9I, h9E, x10, rfl, hx10a, hx10b⟩
  refine ⟨_, rfl, ?_⟩
  have h9K := pw_KE I h9E hK rfl
  have h9L := h9E.1
  show pwl X _ h9 1728 [some (.ref 0), some (.ref 16), some (.ref 141), some (.ref 185), some (pw_i i), a5, a6, a7] [pw_i x10] _
  have h9Rb := pw_RbE I h9E hRb rfl
  refine pwl_ld E (pc' := 1729) (st' := []) rfl (fun _ => rfl) ?_
  refine pwl_goto E (pc' := 2341) rfl (by decide) ?_
  exact pwl_mono (by omega) (hB h9 (a5) (a6) (a7) h9I h9K h9Rb (by omega) (by omega) s5 s6 s7)
set_option maxHeartbeats 4000000 in
theorem lc_27 {X : List (Nat × List Value)} {xs : List Int32} {K : Nat} {h : pm_H} {Q : pm_H → (Option Value ⊕ Unit) → Prop} (hX0 : X[0]? = some (0, xs.map Value.int)) (hl : xs.length ≤ 3584) (hX : pw_Xk X) (hR : pw_Xr X) (hS : pw_Xs X) (hF : pw_Xf X) (I : pw_I h) (hK : pw_K h) (hRb : pw_Rb h) (i : Int) (hi0 : 0 ≤ i) (hi1 : i + 7 ≤ xs.length) (a5 a6 a7 : Option Value) (s5 : ∀ n, pm_scl n a5 = true) (s6 : ∀ n, pm_scl n a6 = true) (s7 : ∀ n, pm_scl n a7 = true) (hB : ∀ (h' : pm_H) (b5 b6 b7 : Option Value), pw_I h' → pw_K h' → pw_Rb h' → h'.length ≤ h.length + 1 → pm_slt h' ≤ pm_slt h + 1000 → (∀ n, pm_scl n b5 = true) → (∀ n, pm_scl n b6 = true) → (∀ n, pm_scl n b7 = true) → pwl X K h' 2341 [some (.ref 0), some (.ref 16), some (.ref 141), some (.ref 185), some (pw_i i), b5, b6, b7] [] Q) : pwl X (K + 150) h 1732 [some (.ref 0), some (.ref 16), some (.ref 141), some (.ref 185), some (pw_i i), a5, a6, a7] [] Q := by
  have E : pm_ent 309 = some (1, 8, 13, 1, pmc_309) := rfl
  refine pwl_ld E (pc' := 1733) (st' := [.ref 16]) rfl (fun _ => rfl) ?_
  refine pwl_ld E (pc' := 1734) (st' := [.ref 0, .ref 16]) rfl (fun _ => rfl) ?_
  refine pwl_ld E (pc' := 1736) (st' := [pw_i i, .ref 0, .ref 16]) rfl (fun _ => rfl) ?_
  refine pwl_ld E (pc' := 1737) (st' := [pw_i 1, pw_i i, .ref 0, .ref 16]) rfl (fun _ => rfl) ?_
  refine pwl_add E (pc' := 1738) rfl rfl ?_
  refine pwl_sald E (pc' := 1739) rfl hX0 hl (by omega) (by omega) rfl ?_
  have hs1 := pw_s_r xs (i + 1)
  obtain ⟨f2l, f2h, -⟩ := pw_obj (c := 0) I rfl
  refine pwl_call (m' := 153) (As := [.ref 16, pw_i (pw_s xs (i + 1))]) (rest := []) (ls'' := [some (.ref 16), some (pw_i (pw_s xs (i + 1)))]) E rfl (fun _ => pwl_iV rfl rfl rfl (pw_cellI f2h rfl)) (rfl : pm_ent 153 = some (2, 2, 11, 0, pmc_153)) (by decide) rfl rfl (cm_153_x (by decide) I hX hR hS hF (pw_s xs (i + 1)) (by omega) (by omega)) ?_
  rintro h4 v3 ⟨h4I, h4E, h4Z, x5, rfl, hx5a, hx5b, hx5r⟩
  refine ⟨_, rfl, ?_⟩
  have h4K := pw_KG I h4E hK rfl
  have h4L := h4E.1
  show pwl X _ h4 1742 [some (.ref 0), some (.ref 16), some (.ref 141), some (.ref 185), some (pw_i i), a5, a6, a7] [pw_i x5] _
  have hx5r : (¬ (0 ≤ (pw_s xs (i + 1)) ∧ (pw_s xs (i + 1)) ≤ 3) → x5 = -1) ∧ (0 ≤ (pw_s xs (i + 1)) → (pw_s xs (i + 1)) ≤ 3 → ∀ L : List pt_tok, pt_sg (pw_g h 25) (pw_g h 24 1).toNat 0 L (pw_g h 24 1).toNat → x5 = (pt_TX 1 L (pw_g h 24 1).toNat).1) := hx5r
  have h4WK := pt_WK.G I h4E hRb.2 rfl
  refine pwl_ld E (pc' := 1743) (st' := [.ref 141, pw_i x5]) rfl (fun _ => rfl) ?_
  refine pwl_ld E (pc' := 1744) (st' := [.ref 0, .ref 141, pw_i x5]) rfl (fun _ => rfl) ?_
  refine pwl_ld E (pc' := 1746) (st' := [pw_i i, .ref 0, .ref 141, pw_i x5]) rfl (fun _ => rfl) ?_
  refine pwl_ld E (pc' := 1747) (st' := [pw_i 1, pw_i i, .ref 0, .ref 141, pw_i x5]) rfl (fun _ => rfl) ?_
  refine pwl_add E (pc' := 1748) rfl rfl ?_
  refine pwl_sald E (pc' := 1749) rfl hX0 hl (by omega) (by omega) rfl ?_
  have hs6 := pw_s_r xs (i + 1)
  obtain ⟨f7l, f7h, -⟩ := pw_obj (c := 125) h4I rfl
  refine pwl_call (m' := 277) (As := [.ref 141, pw_i (pw_s xs (i + 1))]) (rest := [pw_i x5]) (ls'' := [some (.ref 141), some (pw_i (pw_s xs (i + 1))), none]) E rfl (fun _ => pwl_iV rfl rfl rfl (pw_cellI f7h rfl)) (rfl : pm_ent 277 = some (2, 3, 12, 0, pmc_277)) (by decide) rfl rfl (cm_277_t (by decide) h4I (pw_s xs (i + 1)) (by omega) (by omega) h4K h4WK) ?_
  rintro h9 v8 ⟨h9I, h9E, h9K, x10, rfl, hx10a, hx10b, hx10r⟩
  refine ⟨_, rfl, ?_⟩
  have h9L := h9E.1
  show pwl X _ h9 1752 [some (.ref 0), some (.ref 16), some (.ref 141), some (.ref 185), some (pw_i i), a5, a6, a7] [pw_i x10, pw_i x5] _
  have hx10r : pw_g h9 125 2 = 0 ∧ (¬ (0 ≤ (pw_s xs (i + 1)) ∧ (pw_s xs (i + 1)) ≤ 3) → x10 = -1) ∧ (0 ≤ (pw_s xs (i + 1)) → (pw_s xs (i + 1)) ≤ 3 → ∃ L : List pt_tok, pt_sg (pw_g h4 126) (pw_g h4 125 2).toNat 0 L (pw_g h4 125 2).toNat ∧ x10 = (pt_TX 1 L (pw_g h4 125 2).toNat).1) := hx10r
  have haa : x5 = x10 := pw_Rb.same I h4E hRb hx5r ⟨fun q => hx10r.2.1 q, fun q1 q2 => (hx10r.2.2 q1 q2).elim (fun L q => ⟨L, q.1, q.2⟩)⟩ rfl
  have h9Rb := pw_Rb.z h4I h9E h4WK h4Z hx10r.1 rfl
  refine pwl_if2 E (pc' := 2341) rfl (by decide) (by omega) (by omega) (by omega) (by omega) ?_ ?_
  · intro _
    exact pwl_mono (by omega) (hB h9 (a5) (a6) (a7) h9I h9K h9Rb (by omega) (by omega) s5 s6 s7)
  · intro hc11
    have hc11 : ¬ (x5 = x10) := hc11
    exfalso; omega
