/-! contracts (printed by wip/tool/pwspec.py) -/
set_option maxHeartbeats 4000000 in
theorem cm_116 {X : List (Nat × List Value)} {d : Nat} {h : pm_H} (hd : 1 ≤ d) (I : pw_I h) (hs : Int) (hhs1 : (-2147483648) ≤ hs) (hhs2 : hs ≤ 2147483647) : pw X d h 116 0 [some (pw_i hs)] [] (fun h' v => h = h' ∧ ∃ a : Int, v = .inl (some (pw_i a)) ∧ 0 ≤ a ∧ a ≤ 99) := by
  have E : pm_ent 116 = some (1, 1, 10, 0, pmc_116) := rfl
  refine pw_ld E (pc' := 1) (st' := [pw_i 0]) rfl (fun _ => rfl) ?_
  refine pw_bip E (pc' := 3) rfl rfl (by decide) ?_
  refine pw_ld E (pc' := 4) (st' := [pw_i hs, pw_i 99, pw_i 0]) rfl (fun _ => rfl) ?_
  refine pw_min E rfl rfl (by decide) (by decide) (by omega) (by omega) rfl ?_
  refine pw_max E rfl rfl (by decide) (by decide) (by omega) (by omega) rfl ?_
  refine pw_iret E rfl ?_
  exact ⟨rfl, ⟨_, rfl, by omega, by omega⟩⟩
set_option maxHeartbeats 4000000 in
theorem cm_117 {X : List (Nat × List Value)} {d : Nat} {h : pm_H} (hd : 1 ≤ d) (I : pw_I h)  : pw X d h 117 0 [some (.ref 112)] [] (fun h' v => h = h' ∧ v = .inl (some (.ref 113))) := by
  have E : pm_ent 117 = some (1, 1, 10, 3, pmc_117) := rfl
  refine pw_ld E (pc' := 1) (st' := [.ref 112]) rfl (fun _ => rfl) ?_
  refine pw_getR (b := 113) I E (c := 96) (k := 3) (pc' := 4) rfl rfl rfl rfl rfl rfl rfl ?_
  refine pw_aret E rfl ?_
  exact ⟨rfl, rfl⟩
set_option maxHeartbeats 4000000 in
theorem cm_115 {X : List (Nat × List Value)} {d : Nat} {h : pm_H} (hd : 2 ≤ d) (I : pw_I h) (k : Int) (hk1 : 0 ≤ k) (hk2 : k ≤ 23) (mo : Int) (hmo1 : 1 ≤ mo) (hmo2 : mo ≤ 11) (z : Int) (hz1 : 0 ≤ z) (hz2 : z ≤ 1) : pw X d h 115 0 [some (.ref 112), some (pw_i k), some (pw_i mo), some (pw_i z), none, none, none] [] (fun h' v => pw_I h' ∧ pw_E [99] h h' ∧ v = .inl none) := by
  have E : pm_ent 115 = some (4, 7, 10, 4, pmc_115) := rfl
  have E0 : pw_E [99] h h := pw_E.rf _ _
  refine pw_ld E (pc' := 1) (st' := [.ref 112]) rfl (fun _ => rfl) ?_
  refine pw_getR (b := 17) I E (c := 96) (k := 0) (pc' := 4) rfl rfl rfl rfl rfl rfl rfl ?_
  refine pw_ld E (pc' := 5) (st' := [pw_i k, .ref 17]) rfl (fun _ => rfl) ?_
  obtain ⟨f1l, f1h, -⟩ := pw_obj (c := 1) I rfl
  refine pw_call (m' := 60) (As := [.ref 17, pw_i k]) (rest := []) (ls'' := [some (.ref 17), some (pw_i k)]) (Nat.le_trans (by decide) hd) E rfl (fun _ => pw_iV rfl rfl rfl rfl (pw_cellI f1h rfl)) (rfl : pm_ent 60 = some (2, 2, 6, 0, pmc_60)) rfl rfl (cm_60 (pw_dp hd (by decide)) I (k) (by omega) (by omega)) ?_
  rintro u3 v2 ⟨rfl, x4, rfl, hx4a, hx4b, hx4r⟩
  refine ⟨_, rfl, ?_⟩
  show pw X d h 115 8 [some (.ref 112), some (pw_i k), some (pw_i mo), some (pw_i z), none, none, none] [pw_i x4] _
  change x4 = pw_g h 4 k.toNat at hx4r
  refine pw_ist E (pc' := 10) (ls' := [some (.ref 112), some (pw_i k), some (pw_i mo), some (pw_i z), some (pw_i x4), none, none]) rfl rfl rfl rfl ?_
  refine pw_ld E (pc' := 11) (st' := [.ref 112]) rfl (fun _ => rfl) ?_
  refine pw_getR (b := 17) I E (c := 96) (k := 0) (pc' := 14) rfl rfl rfl rfl rfl rfl rfl ?_
  refine pw_ld E (pc' := 15) (st' := [pw_i k, .ref 17]) rfl (fun _ => rfl) ?_
  obtain ⟨f5l, f5h, -⟩ := pw_obj (c := 1) I rfl
  refine pw_call (m' := 64) (As := [.ref 17, pw_i k]) (rest := []) (ls'' := [some (.ref 17), some (pw_i k)]) (Nat.le_trans (by decide) hd) E rfl (fun _ => pw_iV rfl rfl rfl rfl (pw_cellI f5h rfl)) (rfl : pm_ent 64 = some (2, 2, 6, 0, pmc_64)) rfl rfl (cm_64 (pw_dp hd (by decide)) I (k) (by omega) (by omega)) ?_
  rintro u7 v6 ⟨rfl, x8, rfl, hx8a, hx8b, hx8r⟩
  refine ⟨_, rfl, ?_⟩
  show pw X d h 115 18 [some (.ref 112), some (pw_i k), some (pw_i mo), some (pw_i z), some (pw_i x4), none, none] [pw_i x8] _
  change x8 = pw_g h 5 k.toNat at hx8r
  refine pw_ist E (pc' := 20) (ls' := [some (.ref 112), some (pw_i k), some (pw_i mo), some (pw_i z), some (pw_i x4), some (pw_i x8), none]) rfl rfl rfl rfl ?_
  refine pw_ld E (pc' := 21) (st' := [.ref 112]) rfl (fun _ => rfl) ?_
  refine pw_getR (b := 23) I E (c := 96) (k := 2) (pc' := 24) rfl rfl rfl rfl rfl rfl rfl ?_
  refine pw_ld E (pc' := 26) (st' := [pw_i x4, .ref 23]) rfl (fun _ => rfl) ?_
  refine pw_ld E (pc' := 27) (st' := [pw_i mo, pw_i x4, .ref 23]) rfl (fun _ => rfl) ?_
  obtain ⟨f9l, f9h, -⟩ := pw_obj (c := 7) I rfl
  refine pw_call (m' := 2) (As := [.ref 23, pw_i x4, pw_i mo]) (rest := []) (ls'' := [some (.ref 23), some (pw_i x4), some (pw_i mo)]) (Nat.le_trans (by decide) hd) E rfl (fun _ => pw_iV rfl rfl rfl rfl (pw_cellI f9h rfl)) (rfl : pm_ent 2 = some (3, 3, 0, 0, pmc_2)) rfl rfl (cm_2 (pw_dp hd (by decide)) I (x4) (by omega) (by omega) (mo) (by omega) (by omega)) ?_
  rintro u11 v10 ⟨rfl, x12, rfl, hx12a, hx12b⟩
  refine ⟨_, rfl, ?_⟩
  show pw X d h 115 30 [some (.ref 112), some (pw_i k), some (pw_i mo), some (pw_i z), some (pw_i x4), some (pw_i x8), none] [pw_i x12] _
  refine pw_ist E (pc' := 32) (ls' := [some (.ref 112), some (pw_i k), some (pw_i mo), some (pw_i z), some (pw_i x4), some (pw_i x8), some (pw_i x12)]) rfl rfl rfl rfl ?_
  refine pw_ld E (pc' := 33) (st' := [.ref 112]) rfl (fun _ => rfl) ?_
  refine pw_getR (b := 115) I E (c := 96) (k := 4) (pc' := 36) rfl rfl rfl rfl rfl rfl rfl ?_
  refine pw_ld E (pc' := 37) (st' := [pw_i 0, .ref 115]) rfl (fun _ => rfl) ?_
  refine pw_ld E (pc' := 38) (st' := [.ref 112, pw_i 0, .ref 115]) rfl (fun _ => rfl) ?_
  refine pw_getR (b := 113) I E (c := 96) (k := 3) (pc' := 41) rfl rfl rfl rfl rfl rfl rfl ?_
  refine pw_ld E (pc' := 42) (st' := [pw_i k, .ref 113, pw_i 0, .ref 115]) rfl (fun _ => rfl) ?_
  refine pw_ld E (pc' := 43) (st' := [pw_i mo, pw_i k, .ref 113, pw_i 0, .ref 115]) rfl (fun _ => rfl) ?_
  refine pw_ld E (pc' := 44) (st' := [pw_i 1, pw_i mo, pw_i k, .ref 113, pw_i 0, .ref 115]) rfl (fun _ => rfl) ?_
  refine pw_sub E (pc' := 45) rfl rfl ?_
  obtain ⟨f13l, f13h, -⟩ := pw_obj (c := 97) I rfl
  refine pw_call (m' := 21) (As := [.ref 113, pw_i k, pw_i (mo - 1)]) (rest := [pw_i 0, .ref 115]) (ls'' := [some (.ref 113), some (pw_i k), some (pw_i (mo - 1))]) (Nat.le_trans (by decide) hd) E rfl (fun _ => pw_iV rfl rfl rfl rfl (pw_cellI f13h rfl)) (rfl : pm_ent 21 = some (3, 3, 2, 0, pmc_21)) rfl rfl (cm_21 (pw_dp hd (by decide)) I 97 (by unfold pw_Lg; omega) (k) (by omega) (by omega) (mo - 1) (by omega) (by omega)) ?_
  rintro u15 v14 ⟨rfl, x16, rfl, hx16a, hx16b⟩
  refine ⟨_, rfl, ?_⟩
  show pw X d h 115 48 [some (.ref 112), some (pw_i k), some (pw_i mo), some (pw_i z), some (pw_i x4), some (pw_i x8), some (pw_i x12)] [pw_i x16, pw_i 0, .ref 115] _
  refine pw_ast0 I E (c := 99) (pc' := 49) rfl rfl rfl (by decide) rfl (by decide) (by omega) (by omega) rfl (by omega) (by omega) (by omega) (by omega) rfl ?_
  intro h17I h17E
  generalize h17w : pw_w h 99 (Int.toNat 0) (pw_i x16) = h17 at h17I h17E ⊢
  have h17F := E0.tr (h17E.wk (W' := [99]) (by first | rfl | simp))
  refine pw_ld E (pc' := 50) (st' := [.ref 112]) rfl (fun _ => rfl) ?_
  refine pw_getR (b := 115) h17I E (c := 96) (k := 4) (pc' := 53) rfl rfl rfl rfl rfl rfl rfl ?_
  refine pw_ld E (pc' := 54) (st' := [pw_i 1, .ref 115]) rfl (fun _ => rfl) ?_
  refine pw_ld E (pc' := 55) (st' := [.ref 112, pw_i 1, .ref 115]) rfl (fun _ => rfl) ?_
  refine pw_getR (b := 113) h17I E (c := 96) (k := 3) (pc' := 58) rfl rfl rfl rfl rfl rfl rfl ?_
  refine pw_ld E (pc' := 59) (st' := [pw_i k, .ref 113, pw_i 1, .ref 115]) rfl (fun _ => rfl) ?_
  refine pw_ld E (pc' := 60) (st' := [pw_i mo, pw_i k, .ref 113, pw_i 1, .ref 115]) rfl (fun _ => rfl) ?_
  refine pw_ld E (pc' := 61) (st' := [pw_i 1, pw_i mo, pw_i k, .ref 113, pw_i 1, .ref 115]) rfl (fun _ => rfl) ?_
  refine pw_sub E (pc' := 62) rfl rfl ?_
  obtain ⟨f18l, f18h, -⟩ := pw_obj (c := 97) h17I rfl
  refine pw_call (m' := 22) (As := [.ref 113, pw_i k, pw_i (mo - 1)]) (rest := [pw_i 1, .ref 115]) (ls'' := [some (.ref 113), some (pw_i k), some (pw_i (mo - 1))]) (Nat.le_trans (by decide) hd) E rfl (fun _ => pw_iV rfl rfl rfl rfl (pw_cellI f18h rfl)) (rfl : pm_ent 22 = some (3, 3, 2, 0, pmc_22)) rfl rfl (cm_22 (pw_dp hd (by decide)) h17I 97 (by unfold pw_Lg; omega) (k) (by omega) (by omega) (mo - 1) (by omega) (by omega)) ?_
  rintro u20 v19 ⟨rfl, x21, rfl, hx21a, hx21b⟩
  refine ⟨_, rfl, ?_⟩
  show pw X d h17 115 65 [some (.ref 112), some (pw_i k), some (pw_i mo), some (pw_i z), some (pw_i x4), some (pw_i x8), some (pw_i x12)] [pw_i x21, pw_i 1, .ref 115] _
  refine pw_ast0 h17I E (c := 99) (pc' := 66) rfl rfl rfl (by decide) rfl (by decide) (by omega) (by omega) rfl (by omega) (by omega) (by omega) (by omega) rfl ?_
  intro h22I h22E
  generalize h22w : pw_w h17 99 (Int.toNat 1) (pw_i x21) = h22 at h22I h22E ⊢
  have h22F := h17F.tr (h22E.wk (W' := [99]) (by first | rfl | simp))
  refine pw_ld E (pc' := 67) (st' := [.ref 112]) rfl (fun _ => rfl) ?_
  refine pw_getR (b := 115) h22I E (c := 96) (k := 4) (pc' := 70) rfl rfl rfl rfl rfl rfl rfl ?_
  refine pw_ld E (pc' := 71) (st' := [pw_i 2, .ref 115]) rfl (fun _ => rfl) ?_
  refine pw_ld E (pc' := 73) (st' := [pw_i x8, pw_i 2, .ref 115]) rfl (fun _ => rfl) ?_
  refine pw_ast0 h22I E (c := 99) (pc' := 74) rfl rfl rfl (by decide) rfl (by decide) (by omega) (by omega) rfl (by omega) (by omega) (by omega) (by omega) rfl ?_
  intro h23I h23E
  generalize h23w : pw_w h22 99 (Int.toNat 2) (pw_i x8) = h23 at h23I h23E ⊢
  have h23F := h22F.tr (h23E.wk (W' := [99]) (by first | rfl | simp))
  refine pw_ld E (pc' := 75) (st' := [.ref 112]) rfl (fun _ => rfl) ?_
  refine pw_getR (b := 115) h23I E (c := 96) (k := 4) (pc' := 78) rfl rfl rfl rfl rfl rfl rfl ?_
  refine pw_ld E (pc' := 79) (st' := [pw_i 3, .ref 115]) rfl (fun _ => rfl) ?_
  refine pw_ld E (pc' := 81) (st' := [pw_i x12, pw_i 3, .ref 115]) rfl (fun _ => rfl) ?_
  refine pw_ast0 h23I E (c := 99) (pc' := 82) rfl rfl rfl (by decide) rfl (by decide) (by omega) (by omega) rfl (by omega) (by omega) (by omega) (by omega) rfl ?_
  intro h24I h24E
  generalize h24w : pw_w h23 99 (Int.toNat 3) (pw_i x12) = h24 at h24I h24E ⊢
  have h24F := h23F.tr (h24E.wk (W' := [99]) (by first | rfl | simp))
  refine pw_ld E (pc' := 83) (st' := [.ref 112]) rfl (fun _ => rfl) ?_
  refine pw_getR (b := 115) h24I E (c := 96) (k := 4) (pc' := 86) rfl rfl rfl rfl rfl rfl rfl ?_
  refine pw_ld E (pc' := 87) (st' := [pw_i 4, .ref 115]) rfl (fun _ => rfl) ?_
  refine pw_ld E (pc' := 88) (st' := [pw_i 0, pw_i 4, .ref 115]) rfl (fun _ => rfl) ?_
  refine pw_ld E (pc' := 90) (st' := [pw_i x12, pw_i 0, pw_i 4, .ref 115]) rfl (fun _ => rfl) ?_
  refine pw_ld E (pc' := 92) (st' := [pw_i x8, pw_i x12, pw_i 0, pw_i 4, .ref 115]) rfl (fun _ => rfl) ?_
  refine pw_sub E (pc' := 93) rfl rfl ?_
  refine pw_max E rfl rfl (by decide) (by decide) (by omega) (by omega) rfl ?_
  refine pw_ast0 h24I E (c := 99) (pc' := 97) rfl rfl rfl (by decide) rfl (by decide) (by omega) (by omega) rfl (by omega) (by omega) (by omega) (by omega) rfl ?_
  intro h25I h25E
  generalize h25w : pw_w h24 99 (Int.toNat 4) (pw_i (max 0 (x12 - x8))) = h25 at h25I h25E ⊢
  have h25F := h24F.tr (h25E.wk (W' := [99]) (by first | rfl | simp))
  refine pw_ld E (pc' := 98) (st' := [.ref 112]) rfl (fun _ => rfl) ?_
  refine pw_getR (b := 115) h25I E (c := 96) (k := 4) (pc' := 101) rfl rfl rfl rfl rfl rfl rfl ?_
  refine pw_ld E (pc' := 102) (st' := [pw_i 5, .ref 115]) rfl (fun _ => rfl) ?_
  refine pw_ld E (pc' := 104) (st' := [pw_i x4, pw_i 5, .ref 115]) rfl (fun _ => rfl) ?_
  refine pw_ast0 h25I E (c := 99) (pc' := 105) rfl rfl rfl (by decide) rfl (by decide) (by omega) (by omega) rfl (by omega) (by omega) (by omega) (by omega) rfl ?_
  intro h26I h26E
  generalize h26w : pw_w h25 99 (Int.toNat 5) (pw_i x4) = h26 at h26I h26E ⊢
  have h26F := h25F.tr (h26E.wk (W' := [99]) (by first | rfl | simp))
  refine pw_ld E (pc' := 106) (st' := [.ref 112]) rfl (fun _ => rfl) ?_
  refine pw_getR (b := 115) h26I E (c := 96) (k := 4) (pc' := 109) rfl rfl rfl rfl rfl rfl rfl ?_
  refine pw_bip E (pc' := 111) rfl rfl (by decide) ?_
  refine pw_ld E (pc' := 112) (st' := [pw_i mo, pw_i 6, .ref 115]) rfl (fun _ => rfl) ?_
  refine pw_ast0 h26I E (c := 99) (pc' := 113) rfl rfl rfl (by decide) rfl (by decide) (by omega) (by omega) rfl (by omega) (by omega) (by omega) (by omega) rfl ?_
  intro h27I h27E
  generalize h27w : pw_w h26 99 (Int.toNat 6) (pw_i mo) = h27 at h27I h27E ⊢
  have h27F := h26F.tr (h27E.wk (W' := [99]) (by first | rfl | simp))
  refine pw_ld E (pc' := 114) (st' := [.ref 112]) rfl (fun _ => rfl) ?_
  refine pw_getR (b := 115) h27I E (c := 96) (k := 4) (pc' := 117) rfl rfl rfl rfl rfl rfl rfl ?_
  refine pw_bip E (pc' := 119) rfl rfl (by decide) ?_
  refine pw_ld E (pc' := 120) (st' := [.ref 112, pw_i 7, .ref 115]) rfl (fun _ => rfl) ?_
  refine pw_getR (b := 23) h27I E (c := 96) (k := 2) (pc' := 123) rfl rfl rfl rfl rfl rfl rfl ?_
  refine pw_ld E (pc' := 125) (st' := [pw_i x4, .ref 23, pw_i 7, .ref 115]) rfl (fun _ => rfl) ?_
  refine pw_ld E (pc' := 126) (st' := [pw_i mo, pw_i x4, .ref 23, pw_i 7, .ref 115]) rfl (fun _ => rfl) ?_
  obtain ⟨f28l, f28h, -⟩ := pw_obj (c := 7) h27I rfl
  refine pw_call (m' := 3) (As := [.ref 23, pw_i x4, pw_i mo]) (rest := [pw_i 7, .ref 115]) (ls'' := [some (.ref 23), some (pw_i x4), some (pw_i mo)]) (Nat.le_trans (by decide) hd) E rfl (fun _ => pw_iV rfl rfl rfl rfl (pw_cellI f28h rfl)) (rfl : pm_ent 3 = some (3, 3, 0, 0, pmc_3)) rfl rfl (cm_3 (pw_dp hd (by decide)) h27I (x4) (by omega) (by omega) (mo) (by omega) (by omega)) ?_
  rintro u30 v29 ⟨rfl, x31, rfl, hx31a, hx31b⟩
  refine ⟨_, rfl, ?_⟩
  show pw X d h27 115 129 [some (.ref 112), some (pw_i k), some (pw_i mo), some (pw_i z), some (pw_i x4), some (pw_i x8), some (pw_i x12)] [pw_i x31, pw_i 7, .ref 115] _
  refine pw_ast0 h27I E (c := 99) (pc' := 130) rfl rfl rfl (by decide) rfl (by decide) (by omega) (by omega) rfl (by omega) (by omega) (by omega) (by omega) rfl ?_
  intro h32I h32E
  generalize h32w : pw_w h27 99 (Int.toNat 7) (pw_i x31) = h32 at h32I h32E ⊢
  have h32F := h27F.tr (h32E.wk (W' := [99]) (by first | rfl | simp))
  refine pw_ld E (pc' := 131) (st' := [.ref 112]) rfl (fun _ => rfl) ?_
  refine pw_getR (b := 115) h32I E (c := 96) (k := 4) (pc' := 134) rfl rfl rfl rfl rfl rfl rfl ?_
  refine pw_bip E (pc' := 136) rfl rfl (by decide) ?_
  refine pw_ld E (pc' := 137) (st' := [.ref 112, pw_i 8, .ref 115]) rfl (fun _ => rfl) ?_
  refine pw_getL h32I E (c := 96) (k := 5) (pc' := 140) rfl rfl rfl rfl rfl rfl ?_
  refine pw_ld E (pc' := 143) (st' := [.long (Int64.ofNat 65536), .long (pw_gl h32 96 5), pw_i 8, .ref 115]) rfl (fun _ => rfl) ?_
  refine pw_ldivA E (pc' := 144) rfl rfl rfl (by decide) ?_
  refine pw_ld E (pc' := 147) (st' := [.long (Int64.ofNat 10), .long ((pw_gl h32 96 5) / (Int64.ofNat 65536)), pw_i 8, .ref 115]) rfl (fun _ => rfl) ?_
  refine pw_ldivA E (pc' := 148) rfl rfl rfl (by decide) ?_
  refine pw_l2i E (pc' := 149) rfl rfl ?_
  intro x35 hx35a hx35b
  refine pw_ast0 h32I E (c := 99) (pc' := 150) rfl rfl rfl (by decide) rfl (by decide) (by omega) (by omega) rfl (by omega) (by omega) (by omega) (by omega) rfl ?_
  intro h36I h36E
  generalize h36w : pw_w h32 99 (Int.toNat 8) (pw_i x35) = h36 at h36I h36E ⊢
  have h36F := h32F.tr (h36E.wk (W' := [99]) (by first | rfl | simp))
  refine pw_ld E (pc' := 151) (st' := [.ref 112]) rfl (fun _ => rfl) ?_
  refine pw_getR (b := 115) h36I E (c := 96) (k := 4) (pc' := 154) rfl rfl rfl rfl rfl rfl rfl ?_
  refine pw_bip E (pc' := 156) rfl rfl (by decide) ?_
  refine pw_ld E (pc' := 157) (st' := [pw_i z, pw_i 9, .ref 115]) rfl (fun _ => rfl) ?_
  refine pw_if E (pc' := 164) rfl (by decide) (by omega) (by omega) ?_ ?_
  · intro hc37
    change z = (0 : Int) at hc37
    refine pw_ld E (pc' := 165) (st' := [pw_i 0, pw_i 9, .ref 115]) rfl (fun _ => rfl) ?_
    refine pw_ast0 h36I E (c := 99) (pc' := 166) rfl rfl rfl (by decide) rfl (by decide) (by omega) (by omega) rfl (by omega) (by omega) (by omega) (by omega) rfl ?_
    intro h38I h38E
    generalize h38w : pw_w h36 99 (Int.toNat 9) (pw_i 0) = h38 at h38I h38E ⊢
    have h38F := h36F.tr (h38E.wk (W' := [99]) (by first | rfl | simp))
    refine pw_vret E rfl ?_
    exact ⟨h38I, h38F, rfl⟩
  · intro hc39
    change ¬ (z = (0 : Int)) at hc39
    refine pw_ld E (pc' := 161) (st' := [pw_i 1, pw_i 9, .ref 115]) rfl (fun _ => rfl) ?_
    refine pw_goto E (pc' := 165) rfl (by decide) ?_
    refine pw_ast0 h36I E (c := 99) (pc' := 166) rfl rfl rfl (by decide) rfl (by decide) (by omega) (by omega) rfl (by omega) (by omega) (by omega) (by omega) rfl ?_
    intro h40I h40E
    generalize h40w : pw_w h36 99 (Int.toNat 9) (pw_i 1) = h40 at h40I h40E ⊢
    have h40F := h36F.tr (h40E.wk (W' := [99]) (by first | rfl | simp))
    refine pw_vret E rfl ?_
    exact ⟨h40I, h40F, rfl⟩
set_option maxHeartbeats 4000000 in
theorem cm_114 {X : List (Nat × List Value)} {d : Nat} {h : pm_H} (hd : 5 ≤ d) (I : pw_I h) (c : Nat) (hc : pw_Sc c) (k : Int) (hk1 : 0 ≤ k) (hk2 : k ≤ 23) (mo : Int) (hmo1 : 1 ≤ mo) (hmo2 : mo ≤ 11) : pw X d h 114 0 [some (.ref 112), some (.ref (16 + c)), some (pw_i k), some (pw_i mo), none, none, none, none, none] [] (fun h' v => pw_I h' ∧ pw_E [96, 98, 99, c + 5] h h' ∧ v = .inl none) := by
  have E : pm_ent 114 = some (4, 9, 10, 4, pmc_114) := rfl
  have E0 : pw_E [96, 98, 99, c + 5] h h := pw_E.rf _ _
  refine pw_ld E (pc' := 1) (st' := [.ref 112]) rfl (fun _ => rfl) ?_
  refine pw_ld E (pc' := 2) (st' := [.ref 112, .ref 112]) rfl (fun _ => rfl) ?_
  refine pw_getL I E (c := 96) (k := 5) (pc' := 5) rfl rfl rfl rfl rfl rfl ?_
  refine pw_ld E (pc' := 8) (st' := [.long (Int64.ofNat 1103515245), .long (pw_gl h 96 5), .ref 112]) rfl (fun _ => rfl) ?_
  refine pw_ld E (pc' := 9) (st' := [.long ((pw_gl h 96 5) * (Int64.ofNat 1103515245)), .ref 112]) rfl (fun _ => rfl) ?_
  refine pw_ld E (pc' := 12) (st' := [.long (Int64.ofNat 12345), .long ((pw_gl h 96 5) * (Int64.ofNat 1103515245)), .ref 112]) rfl (fun _ => rfl) ?_
  refine pw_ld E (pc' := 13) (st' := [.long (((pw_gl h 96 5) * (Int64.ofNat 1103515245)) + (Int64.ofNat 12345)), .ref 112]) rfl (fun _ => rfl) ?_
  refine pw_ld E (pc' := 16) (st' := [.long (Int64.ofNat 2147483648), .long (((pw_gl h 96 5) * (Int64.ofNat 1103515245)) + (Int64.ofNat 12345)), .ref 112]) rfl (fun _ => rfl) ?_
  refine pw_ldivA E (pc' := 17) rfl rfl rfl (by decide) ?_
  refine pw_putL I E (c := 96) (k := 5) (pc' := 20) rfl rfl rfl rfl rfl rfl ?_
  intro h2I h2E
  generalize h2w : pw_w h 96 5 (.long ((((pw_gl h 96 5) * (Int64.ofNat 1103515245)) + (Int64.ofNat 12345)) - (((pw_gl h 96 5) * (Int64.ofNat 1103515245)) + (Int64.ofNat 12345)) / (Int64.ofNat 2147483648) * (Int64.ofNat 2147483648))) = h2 at h2I h2E ⊢
  have h2F := E0.tr (h2E.wk (W' := [96, 98, 99, c + 5]) (by first | rfl | simp))
  refine pw_ld E (pc' := 21) (st' := [.ref 112]) rfl (fun _ => rfl) ?_
  refine pw_getR (b := 113) h2I E (c := 96) (k := 3) (pc' := 24) rfl rfl rfl rfl rfl rfl rfl ?_
  refine pw_ld E (pc' := 25) (st' := [pw_i k, .ref 113]) rfl (fun _ => rfl) ?_
  refine pw_ld E (pc' := 26) (st' := [pw_i mo, pw_i k, .ref 113]) rfl (fun _ => rfl) ?_
  refine pw_ld E (pc' := 27) (st' := [pw_i 1, pw_i mo, pw_i k, .ref 113]) rfl (fun _ => rfl) ?_
  refine pw_sub E (pc' := 28) rfl rfl ?_
  obtain ⟨f3l, f3h, -⟩ := pw_obj (c := 97) h2I rfl
  refine pw_call (m' := 26) (As := [.ref 113, pw_i k, pw_i (mo - 1)]) (rest := []) (ls'' := [some (.ref 113), some (pw_i k), some (pw_i (mo - 1))]) (Nat.le_trans (by decide) hd) E rfl (fun _ => pw_iV rfl rfl rfl rfl (pw_cellI f3h rfl)) (rfl : pm_ent 26 = some (3, 3, 2, 1, pmc_26)) rfl rfl (cm_26 (pw_dp hd (by decide)) h2I 97 (by unfold pw_Lg; omega) (k) (by omega) (by omega) (mo - 1) (by omega) (by omega)) ?_
  rintro u5 v4 ⟨rfl, x6, rfl, hx6a, hx6b⟩
  refine ⟨_, rfl, ?_⟩
  show pw X d h2 114 31 [some (.ref 112), some (.ref (16 + c)), some (pw_i k), some (pw_i mo), none, none, none, none, none] [pw_i x6] _
  refine pw_ist E (pc' := 33) (ls' := [some (.ref 112), some (.ref (16 + c)), some (pw_i k), some (pw_i mo), some (pw_i x6), none, none, none, none]) rfl rfl rfl rfl ?_
  refine pw_ld E (pc' := 34) (st' := [.ref 112]) rfl (fun _ => rfl) ?_
  refine pw_ld E (pc' := 35) (st' := [pw_i k, .ref 112]) rfl (fun _ => rfl) ?_
  refine pw_ld E (pc' := 36) (st' := [pw_i mo, pw_i k, .ref 112]) rfl (fun _ => rfl) ?_
  refine pw_ld E (pc' := 38) (st' := [pw_i x6, pw_i mo, pw_i k, .ref 112]) rfl (fun _ => rfl) ?_
  obtain ⟨f7l, f7h, -⟩ := pw_obj (c := 96) h2I rfl
  refine pw_call (m' := 115) (As := [.ref 112, pw_i k, pw_i mo, pw_i x6]) (rest := []) (ls'' := [some (.ref 112), some (pw_i k), some (pw_i mo), some (pw_i x6), none, none, none]) (Nat.le_trans (by decide) hd) E rfl (fun _ => pw_iV rfl rfl rfl rfl (pw_cellI f7h rfl)) (rfl : pm_ent 115 = some (4, 7, 10, 4, pmc_115)) rfl rfl (cm_115 (pw_dp hd (by decide)) h2I (k) (by omega) (by omega) (mo) (by omega) (by omega) (x6) (by omega) (by omega)) ?_
  rintro h8 v9 ⟨h8I, h8E, rfl⟩
  refine ⟨_, rfl, ?_⟩
  have h8F := h2F.tr (h8E.wk (W' := [96, 98, 99, c + 5]) (by first | rfl | simp))
  show pw X d h8 114 41 [some (.ref 112), some (.ref (16 + c)), some (pw_i k), some (pw_i mo), some (pw_i x6), none, none, none, none] [] _
  refine pw_ld E (pc' := 43) (st' := [pw_i x6]) rfl (fun _ => rfl) ?_
  refine pw_if E (pc' := 63) rfl (by decide) (by omega) (by omega) ?_ ?_
  · intro hc10
    change x6 = (0 : Int) at hc10
    refine pw_ld E (pc' := 64) (st' := [pw_i 0]) rfl (fun _ => rfl) ?_
    refine pw_ist E (pc' := 66) (ls' := [some (.ref 112), some (.ref (16 + c)), some (pw_i k), some (pw_i mo), some (pw_i x6), some (pw_i 0), none, none, none]) rfl rfl rfl rfl ?_
    refine pw_ld E (pc' := 68) (st' := [pw_i x6]) rfl (fun _ => rfl) ?_
    refine pw_if E (pc' := 88) rfl (by decide) (by omega) (by omega) ?_ ?_
    · intro hc11
      change x6 ≠ (0 : Int) at hc11
      exfalso; omega
    · intro hc12
      change ¬ (x6 ≠ (0 : Int)) at hc12
      refine pw_ld E (pc' := 72) (st' := [.ref (16 + c)]) rfl (fun _ => rfl) ?_
      refine pw_ld E (pc' := 73) (st' := [pw_i 2, .ref (16 + c)]) rfl (fun _ => rfl) ?_
      refine pw_ld E (pc' := 74) (st' := [.ref 112, pw_i 2, .ref (16 + c)]) rfl (fun _ => rfl) ?_
      refine pw_getR (b := 115) h8I E (c := 96) (k := 4) (pc' := 77) rfl rfl rfl rfl rfl rfl rfl ?_
      refine pw_ld E (pc' := 78) (st' := [pw_i 0, .ref 115, pw_i 2, .ref (16 + c)]) rfl (fun _ => rfl) ?_
      obtain ⟨f13l, f13h, -⟩ := pw_obj (c := c) h8I (pw_Sc_o hc)
      refine pw_call (m' := 74) (As := [.ref (16 + c), pw_i 2, .ref 115, pw_i 0]) (rest := []) (ls'' := [some (.ref (16 + c)), some (pw_i 2), some (.ref 115), some (pw_i 0)]) (Nat.le_trans (by decide) hd) E rfl (fun _ => pw_iV rfl rfl rfl rfl (pw_cellI f13h rfl)) (rfl : pm_ent 74 = some (4, 4, 7, 0, pmc_74)) rfl rfl (cm_74_99 (pw_dp hd (by decide)) h8I c hc (2) (by omega) (by omega) (0) (by omega) (by omega)) ?_
      rintro h14 v15 ⟨h14I, h14E, x16, rfl, hx16a, hx16b⟩
      refine ⟨_, rfl, ?_⟩
      have h14F := h8F.tr (h14E.wk (W' := [96, 98, 99, c + 5]) (by first | rfl | simp))
      show pw X d h14 114 81 [some (.ref 112), some (.ref (16 + c)), some (pw_i k), some (pw_i mo), some (pw_i x6), some (pw_i 0), none, none, none] [pw_i x16] _
      refine pw_if E (pc' := 88) rfl (by decide) (by omega) (by omega) ?_ ?_
      · intro hc17
        change x16 ≠ (0 : Int) at hc17
        refine pw_ld E (pc' := 89) (st' := [pw_i 0]) rfl (fun _ => rfl) ?_
        refine pw_ist E (pc' := 91) (ls' := [some (.ref 112), some (.ref (16 + c)), some (pw_i k), some (pw_i mo), some (pw_i x6), some (pw_i 0), some (pw_i 0), none, none]) rfl rfl rfl rfl ?_
        refine pw_ld E (pc' := 93) (st' := [pw_i 0]) rfl (fun _ => rfl) ?_
        refine pw_if E (pc' := 101) rfl (by decide) (by decide) (by decide) ?_ ?_
        · intro hc18
          change (0 : Int) ≠ (0 : Int) at hc18
          exfalso; omega
        · intro hc19
          change ¬ ((0 : Int) ≠ (0 : Int)) at hc19
          refine pw_ld E (pc' := 98) (st' := [pw_i 0]) rfl (fun _ => rfl) ?_
          refine pw_if E (pc' := 157) rfl (by decide) (by decide) (by decide) ?_ ?_
          · intro hc20
            change (0 : Int) = (0 : Int) at hc20
            refine pw_ld E (pc' := 158) (st' := [.ref 112]) rfl (fun _ => rfl) ?_
            refine pw_getR (b := 113) h14I E (c := 96) (k := 3) (pc' := 161) rfl rfl rfl rfl rfl rfl rfl ?_
            refine pw_ld E (pc' := 162) (st' := [pw_i k, .ref 113]) rfl (fun _ => rfl) ?_
            refine pw_ld E (pc' := 163) (st' := [pw_i mo, pw_i k, .ref 113]) rfl (fun _ => rfl) ?_
            obtain ⟨f21l, f21h, -⟩ := pw_obj (c := 97) h14I rfl
            refine pw_call (m' := 16) (As := [.ref 113, pw_i k, pw_i mo]) (rest := []) (ls'' := [some (.ref 113), some (pw_i k), some (pw_i mo)]) (Nat.le_trans (by decide) hd) E rfl (fun _ => pw_iV rfl rfl rfl rfl (pw_cellI f21h rfl)) (rfl : pm_ent 16 = some (3, 3, 2, 4, pmc_16)) rfl rfl (cm_16 (pw_dp hd (by decide)) h14I 97 (by unfold pw_Lg; omega) (k) (by omega) (by omega) (mo) (by omega) (by omega)) ?_
            rintro h22 v23 ⟨h22I, h22E, rfl⟩
            refine ⟨_, rfl, ?_⟩
            have h22F := h14F.tr (h22E.wk (W' := [96, 98, 99, c + 5]) (by first | rfl | simp))
            show pw X d h22 114 166 [some (.ref 112), some (.ref (16 + c)), some (pw_i k), some (pw_i mo), some (pw_i x6), some (pw_i 0), some (pw_i 0), none, none] [] _
            refine pw_vret E rfl ?_
            exact ⟨h22I, h22F, rfl⟩
          · intro hc24
            change ¬ ((0 : Int) = (0 : Int)) at hc24
            exfalso; omega
      · intro hc25
        change ¬ (x16 ≠ (0 : Int)) at hc25
        refine pw_ld E (pc' := 85) (st' := [pw_i 1]) rfl (fun _ => rfl) ?_
        refine pw_goto E (pc' := 89) rfl (by decide) ?_
        refine pw_ist E (pc' := 91) (ls' := [some (.ref 112), some (.ref (16 + c)), some (pw_i k), some (pw_i mo), some (pw_i x6), some (pw_i 0), some (pw_i 1), none, none]) rfl rfl rfl rfl ?_
        refine pw_ld E (pc' := 93) (st' := [pw_i 0]) rfl (fun _ => rfl) ?_
        refine pw_if E (pc' := 101) rfl (by decide) (by decide) (by decide) ?_ ?_
        · intro hc26
          change (0 : Int) ≠ (0 : Int) at hc26
          exfalso; omega
        · intro hc27
          change ¬ ((0 : Int) ≠ (0 : Int)) at hc27
          refine pw_ld E (pc' := 98) (st' := [pw_i 1]) rfl (fun _ => rfl) ?_
          refine pw_if E (pc' := 157) rfl (by decide) (by decide) (by decide) ?_ ?_
          · intro hc28
            change (1 : Int) = (0 : Int) at hc28
            exfalso; omega
          · intro hc29
            change ¬ ((1 : Int) = (0 : Int)) at hc29
            refine pw_ld E (pc' := 102) (st' := [.ref (16 + c)]) rfl (fun _ => rfl) ?_
            refine pw_ld E (pc' := 103) (st' := [pw_i 0, .ref (16 + c)]) rfl (fun _ => rfl) ?_
            refine pw_ld E (pc' := 104) (st' := [.ref 112, pw_i 0, .ref (16 + c)]) rfl (fun _ => rfl) ?_
            refine pw_getR (b := 115) h14I E (c := 96) (k := 4) (pc' := 107) rfl rfl rfl rfl rfl rfl rfl ?_
            refine pw_ld E (pc' := 108) (st' := [.ref 112, .ref 115, pw_i 0, .ref (16 + c)]) rfl (fun _ => rfl) ?_
            refine pw_getR (b := 115) h14I E (c := 96) (k := 4) (pc' := 111) rfl rfl rfl rfl rfl rfl rfl ?_
            refine pw_ld E (pc' := 112) (st' := [pw_i 0, .ref 115, .ref 115, pw_i 0, .ref (16 + c)]) rfl (fun _ => rfl) ?_
            refine pw_ald2 h14I E (c := 99) (pc' := 113) rfl rfl rfl (by decide) rfl (by decide) (by omega) (by omega) rfl (fun hf30a hf30b => ?_)
            obtain ⟨f31l, f31h, -⟩ := pw_obj (c := c) h14I (pw_Sc_o hc)
            refine pw_call (m' := 74) (As := [.ref (16 + c), pw_i 0, .ref 115, pw_i (pw_g h14 99 (Int.toNat 0))]) (rest := []) (ls'' := [some (.ref (16 + c)), some (pw_i 0), some (.ref 115), some (pw_i (pw_g h14 99 (Int.toNat 0)))]) (Nat.le_trans (by decide) hd) E rfl (fun _ => pw_iV rfl rfl rfl rfl (pw_cellI f31h rfl)) (rfl : pm_ent 74 = some (4, 4, 7, 0, pmc_74)) rfl rfl (cm_74_99 (pw_dp hd (by decide)) h14I c hc (0) (by omega) (by omega) (pw_g h14 99 (Int.toNat 0)) (by omega) (by omega)) ?_
            rintro h32 v33 ⟨h32I, h32E, x34, rfl, hx34a, hx34b⟩
            refine ⟨_, rfl, ?_⟩
            have h32F := h14F.tr (h32E.wk (W' := [96, 98, 99, c + 5]) (by first | rfl | simp))
            show pw X d h32 114 116 [some (.ref 112), some (.ref (16 + c)), some (pw_i k), some (pw_i mo), some (pw_i x6), some (pw_i 0), some (pw_i 1), none, none] [pw_i x34] _
            refine pw_ist E (pc' := 118) (ls' := [some (.ref 112), some (.ref (16 + c)), some (pw_i k), some (pw_i mo), some (pw_i x6), some (pw_i 0), some (pw_i 1), some (pw_i x34), none]) rfl rfl rfl rfl ?_
            refine pw_ld E (pc' := 119) (st' := [.ref (16 + c)]) rfl (fun _ => rfl) ?_
            refine pw_ld E (pc' := 120) (st' := [pw_i 1, .ref (16 + c)]) rfl (fun _ => rfl) ?_
            refine pw_ld E (pc' := 121) (st' := [.ref 112, pw_i 1, .ref (16 + c)]) rfl (fun _ => rfl) ?_
            refine pw_getR (b := 115) h32I E (c := 96) (k := 4) (pc' := 124) rfl rfl rfl rfl rfl rfl rfl ?_
            refine pw_ld E (pc' := 125) (st' := [.ref 112, .ref 115, pw_i 1, .ref (16 + c)]) rfl (fun _ => rfl) ?_
            refine pw_getR (b := 115) h32I E (c := 96) (k := 4) (pc' := 128) rfl rfl rfl rfl rfl rfl rfl ?_
            refine pw_ld E (pc' := 129) (st' := [pw_i 1, .ref 115, .ref 115, pw_i 1, .ref (16 + c)]) rfl (fun _ => rfl) ?_
            refine pw_ald2 h32I E (c := 99) (pc' := 130) rfl rfl rfl (by decide) rfl (by decide) (by omega) (by omega) rfl (fun hf35a hf35b => ?_)
            obtain ⟨f36l, f36h, -⟩ := pw_obj (c := c) h32I (pw_Sc_o hc)
            refine pw_call (m' := 74) (As := [.ref (16 + c), pw_i 1, .ref 115, pw_i (pw_g h32 99 (Int.toNat 1))]) (rest := []) (ls'' := [some (.ref (16 + c)), some (pw_i 1), some (.ref 115), some (pw_i (pw_g h32 99 (Int.toNat 1)))]) (Nat.le_trans (by decide) hd) E rfl (fun _ => pw_iV rfl rfl rfl rfl (pw_cellI f36h rfl)) (rfl : pm_ent 74 = some (4, 4, 7, 0, pmc_74)) rfl rfl (cm_74_99 (pw_dp hd (by decide)) h32I c hc (1) (by omega) (by omega) (pw_g h32 99 (Int.toNat 1)) (by omega) (by omega)) ?_
            rintro h37 v38 ⟨h37I, h37E, x39, rfl, hx39a, hx39b⟩
            refine ⟨_, rfl, ?_⟩
            have h37F := h32F.tr (h37E.wk (W' := [96, 98, 99, c + 5]) (by first | rfl | simp))
            show pw X d h37 114 133 [some (.ref 112), some (.ref (16 + c)), some (pw_i k), some (pw_i mo), some (pw_i x6), some (pw_i 0), some (pw_i 1), some (pw_i x34), none] [pw_i x39] _
            refine pw_ist E (pc' := 135) (ls' := [some (.ref 112), some (.ref (16 + c)), some (pw_i k), some (pw_i mo), some (pw_i x6), some (pw_i 0), some (pw_i 1), some (pw_i x34), some (pw_i x39)]) rfl rfl rfl rfl ?_
            refine pw_ld E (pc' := 136) (st' := [.ref 112]) rfl (fun _ => rfl) ?_
            refine pw_getR (b := 113) h37I E (c := 96) (k := 3) (pc' := 139) rfl rfl rfl rfl rfl rfl rfl ?_
            refine pw_ld E (pc' := 140) (st' := [pw_i k, .ref 113]) rfl (fun _ => rfl) ?_
            refine pw_ld E (pc' := 141) (st' := [pw_i mo, pw_i k, .ref 113]) rfl (fun _ => rfl) ?_
            refine pw_ld E (pc' := 143) (st' := [pw_i x34, pw_i mo, pw_i k, .ref 113]) rfl (fun _ => rfl) ?_
            refine pw_call (m' := 116) (As := [pw_i x34]) (rest := [pw_i mo, pw_i k, .ref 113]) (ls'' := [some (pw_i x34)]) (Nat.le_trans (by decide) hd) E rfl (fun _ => pw_iS rfl rfl rfl) (rfl : pm_ent 116 = some (1, 1, 10, 0, pmc_116)) rfl rfl (cm_116 (pw_dp hd (by decide)) h37I (x34) (by omega) (by omega)) ?_
            rintro u41 v40 ⟨rfl, x42, rfl, hx42a, hx42b⟩
            refine ⟨_, rfl, ?_⟩
            show pw X d h37 114 146 [some (.ref 112), some (.ref (16 + c)), some (pw_i k), some (pw_i mo), some (pw_i x6), some (pw_i 0), some (pw_i 1), some (pw_i x34), some (pw_i x39)] [pw_i x42, pw_i mo, pw_i k, .ref 113] _
            refine pw_ld E (pc' := 148) (st' := [pw_i x39, pw_i x42, pw_i mo, pw_i k, .ref 113]) rfl (fun _ => rfl) ?_
            refine pw_call (m' := 116) (As := [pw_i x39]) (rest := [pw_i x42, pw_i mo, pw_i k, .ref 113]) (ls'' := [some (pw_i x39)]) (Nat.le_trans (by decide) hd) E rfl (fun _ => pw_iS rfl rfl rfl) (rfl : pm_ent 116 = some (1, 1, 10, 0, pmc_116)) rfl rfl (cm_116 (pw_dp hd (by decide)) h37I (x39) (by omega) (by omega)) ?_
            rintro u44 v43 ⟨rfl, x45, rfl, hx45a, hx45b⟩
            refine ⟨_, rfl, ?_⟩
            show pw X d h37 114 151 [some (.ref 112), some (.ref (16 + c)), some (pw_i k), some (pw_i mo), some (pw_i x6), some (pw_i 0), some (pw_i 1), some (pw_i x34), some (pw_i x39)] [pw_i x45, pw_i x42, pw_i mo, pw_i k, .ref 113] _
            obtain ⟨f46l, f46h, -⟩ := pw_obj (c := 97) h37I rfl
            refine pw_call (m' := 18) (As := [.ref 113, pw_i k, pw_i mo, pw_i x42, pw_i x45]) (rest := []) (ls'' := [some (.ref 113), some (pw_i k), some (pw_i mo), some (pw_i x42), some (pw_i x45)]) (Nat.le_trans (by decide) hd) E rfl (fun _ => pw_iV rfl rfl rfl rfl (pw_cellI f46h rfl)) (rfl : pm_ent 18 = some (5, 5, 2, 4, pmc_18)) rfl rfl (cm_18 (pw_dp hd (by decide)) h37I 97 (by unfold pw_Lg; omega) (k) (by omega) (by omega) (mo) (by omega) (by omega) (x42) (by omega) (by omega) (x45) (by omega) (by omega)) ?_
            rintro h47 v48 ⟨h47I, h47E, rfl⟩
            refine ⟨_, rfl, ?_⟩
            have h47F := h37F.tr (h47E.wk (W' := [96, 98, 99, c + 5]) (by first | rfl | simp))
            show pw X d h47 114 154 [some (.ref 112), some (.ref (16 + c)), some (pw_i k), some (pw_i mo), some (pw_i x6), some (pw_i 0), some (pw_i 1), some (pw_i x34), some (pw_i x39)] [] _
            refine pw_goto E (pc' := 166) rfl (by decide) ?_
            refine pw_vret E rfl ?_
            exact ⟨h47I, h47F, rfl⟩
  · intro hc49
    change ¬ (x6 = (0 : Int)) at hc49
    refine pw_ld E (pc' := 47) (st' := [.ref (16 + c)]) rfl (fun _ => rfl) ?_
    refine pw_ld E (pc' := 48) (st' := [pw_i 3, .ref (16 + c)]) rfl (fun _ => rfl) ?_
    refine pw_ld E (pc' := 49) (st' := [.ref 112, pw_i 3, .ref (16 + c)]) rfl (fun _ => rfl) ?_
    refine pw_getR (b := 115) h8I E (c := 96) (k := 4) (pc' := 52) rfl rfl rfl rfl rfl rfl rfl ?_
    refine pw_ld E (pc' := 53) (st' := [pw_i 0, .ref 115, pw_i 3, .ref (16 + c)]) rfl (fun _ => rfl) ?_
    obtain ⟨f50l, f50h, -⟩ := pw_obj (c := c) h8I (pw_Sc_o hc)
    refine pw_call (m' := 74) (As := [.ref (16 + c), pw_i 3, .ref 115, pw_i 0]) (rest := []) (ls'' := [some (.ref (16 + c)), some (pw_i 3), some (.ref 115), some (pw_i 0)]) (Nat.le_trans (by decide) hd) E rfl (fun _ => pw_iV rfl rfl rfl rfl (pw_cellI f50h rfl)) (rfl : pm_ent 74 = some (4, 4, 7, 0, pmc_74)) rfl rfl (cm_74_99 (pw_dp hd (by decide)) h8I c hc (3) (by omega) (by omega) (0) (by omega) (by omega)) ?_
    rintro h51 v52 ⟨h51I, h51E, x53, rfl, hx53a, hx53b⟩
    refine ⟨_, rfl, ?_⟩
    have h51F := h8F.tr (h51E.wk (W' := [96, 98, 99, c + 5]) (by first | rfl | simp))
    show pw X d h51 114 56 [some (.ref 112), some (.ref (16 + c)), some (pw_i k), some (pw_i mo), some (pw_i x6), none, none, none, none] [pw_i x53] _
    refine pw_if E (pc' := 63) rfl (by decide) (by omega) (by omega) ?_ ?_
    · intro hc54
      change x53 = (0 : Int) at hc54
      refine pw_ld E (pc' := 64) (st' := [pw_i 0]) rfl (fun _ => rfl) ?_
      refine pw_ist E (pc' := 66) (ls' := [some (.ref 112), some (.ref (16 + c)), some (pw_i k), some (pw_i mo), some (pw_i x6), some (pw_i 0), none, none, none]) rfl rfl rfl rfl ?_
      refine pw_ld E (pc' := 68) (st' := [pw_i x6]) rfl (fun _ => rfl) ?_
      refine pw_if E (pc' := 88) rfl (by decide) (by omega) (by omega) ?_ ?_
      · intro hc55
        change x6 ≠ (0 : Int) at hc55
        refine pw_ld E (pc' := 89) (st' := [pw_i 0]) rfl (fun _ => rfl) ?_
        refine pw_ist E (pc' := 91) (ls' := [some (.ref 112), some (.ref (16 + c)), some (pw_i k), some (pw_i mo), some (pw_i x6), some (pw_i 0), some (pw_i 0), none, none]) rfl rfl rfl rfl ?_
        refine pw_ld E (pc' := 93) (st' := [pw_i 0]) rfl (fun _ => rfl) ?_
        refine pw_if E (pc' := 101) rfl (by decide) (by decide) (by decide) ?_ ?_
        · intro hc56
          change (0 : Int) ≠ (0 : Int) at hc56
          exfalso; omega
        · intro hc57
          change ¬ ((0 : Int) ≠ (0 : Int)) at hc57
          refine pw_ld E (pc' := 98) (st' := [pw_i 0]) rfl (fun _ => rfl) ?_
          refine pw_if E (pc' := 157) rfl (by decide) (by decide) (by decide) ?_ ?_
          · intro hc58
            change (0 : Int) = (0 : Int) at hc58
            refine pw_ld E (pc' := 158) (st' := [.ref 112]) rfl (fun _ => rfl) ?_
            refine pw_getR (b := 113) h51I E (c := 96) (k := 3) (pc' := 161) rfl rfl rfl rfl rfl rfl rfl ?_
            refine pw_ld E (pc' := 162) (st' := [pw_i k, .ref 113]) rfl (fun _ => rfl) ?_
            refine pw_ld E (pc' := 163) (st' := [pw_i mo, pw_i k, .ref 113]) rfl (fun _ => rfl) ?_
            obtain ⟨f59l, f59h, -⟩ := pw_obj (c := 97) h51I rfl
            refine pw_call (m' := 16) (As := [.ref 113, pw_i k, pw_i mo]) (rest := []) (ls'' := [some (.ref 113), some (pw_i k), some (pw_i mo)]) (Nat.le_trans (by decide) hd) E rfl (fun _ => pw_iV rfl rfl rfl rfl (pw_cellI f59h rfl)) (rfl : pm_ent 16 = some (3, 3, 2, 4, pmc_16)) rfl rfl (cm_16 (pw_dp hd (by decide)) h51I 97 (by unfold pw_Lg; omega) (k) (by omega) (by omega) (mo) (by omega) (by omega)) ?_
            rintro h60 v61 ⟨h60I, h60E, rfl⟩
            refine ⟨_, rfl, ?_⟩
            have h60F := h51F.tr (h60E.wk (W' := [96, 98, 99, c + 5]) (by first | rfl | simp))
            show pw X d h60 114 166 [some (.ref 112), some (.ref (16 + c)), some (pw_i k), some (pw_i mo), some (pw_i x6), some (pw_i 0), some (pw_i 0), none, none] [] _
            refine pw_vret E rfl ?_
            exact ⟨h60I, h60F, rfl⟩
          · intro hc62
            change ¬ ((0 : Int) = (0 : Int)) at hc62
            exfalso; omega
      · intro hc63
        change ¬ (x6 ≠ (0 : Int)) at hc63
        exfalso; omega
    · intro hc64
      change ¬ (x53 = (0 : Int)) at hc64
      refine pw_ld E (pc' := 60) (st' := [pw_i 1]) rfl (fun _ => rfl) ?_
      refine pw_goto E (pc' := 64) rfl (by decide) ?_
      refine pw_ist E (pc' := 66) (ls' := [some (.ref 112), some (.ref (16 + c)), some (pw_i k), some (pw_i mo), some (pw_i x6), some (pw_i 1), none, none, none]) rfl rfl rfl rfl ?_
      refine pw_ld E (pc' := 68) (st' := [pw_i x6]) rfl (fun _ => rfl) ?_
      refine pw_if E (pc' := 88) rfl (by decide) (by omega) (by omega) ?_ ?_
      · intro hc65
        change x6 ≠ (0 : Int) at hc65
        refine pw_ld E (pc' := 89) (st' := [pw_i 0]) rfl (fun _ => rfl) ?_
        refine pw_ist E (pc' := 91) (ls' := [some (.ref 112), some (.ref (16 + c)), some (pw_i k), some (pw_i mo), some (pw_i x6), some (pw_i 1), some (pw_i 0), none, none]) rfl rfl rfl rfl ?_
        refine pw_ld E (pc' := 93) (st' := [pw_i 1]) rfl (fun _ => rfl) ?_
        refine pw_if E (pc' := 101) rfl (by decide) (by decide) (by decide) ?_ ?_
        · intro hc66
          change (1 : Int) ≠ (0 : Int) at hc66
          refine pw_ld E (pc' := 102) (st' := [.ref (16 + c)]) rfl (fun _ => rfl) ?_
          refine pw_ld E (pc' := 103) (st' := [pw_i 0, .ref (16 + c)]) rfl (fun _ => rfl) ?_
          refine pw_ld E (pc' := 104) (st' := [.ref 112, pw_i 0, .ref (16 + c)]) rfl (fun _ => rfl) ?_
          refine pw_getR (b := 115) h51I E (c := 96) (k := 4) (pc' := 107) rfl rfl rfl rfl rfl rfl rfl ?_
          refine pw_ld E (pc' := 108) (st' := [.ref 112, .ref 115, pw_i 0, .ref (16 + c)]) rfl (fun _ => rfl) ?_
          refine pw_getR (b := 115) h51I E (c := 96) (k := 4) (pc' := 111) rfl rfl rfl rfl rfl rfl rfl ?_
          refine pw_ld E (pc' := 112) (st' := [pw_i 0, .ref 115, .ref 115, pw_i 0, .ref (16 + c)]) rfl (fun _ => rfl) ?_
          refine pw_ald2 h51I E (c := 99) (pc' := 113) rfl rfl rfl (by decide) rfl (by decide) (by omega) (by omega) rfl (fun hf67a hf67b => ?_)
          obtain ⟨f68l, f68h, -⟩ := pw_obj (c := c) h51I (pw_Sc_o hc)
          refine pw_call (m' := 74) (As := [.ref (16 + c), pw_i 0, .ref 115, pw_i (pw_g h51 99 (Int.toNat 0))]) (rest := []) (ls'' := [some (.ref (16 + c)), some (pw_i 0), some (.ref 115), some (pw_i (pw_g h51 99 (Int.toNat 0)))]) (Nat.le_trans (by decide) hd) E rfl (fun _ => pw_iV rfl rfl rfl rfl (pw_cellI f68h rfl)) (rfl : pm_ent 74 = some (4, 4, 7, 0, pmc_74)) rfl rfl (cm_74_99 (pw_dp hd (by decide)) h51I c hc (0) (by omega) (by omega) (pw_g h51 99 (Int.toNat 0)) (by omega) (by omega)) ?_
          rintro h69 v70 ⟨h69I, h69E, x71, rfl, hx71a, hx71b⟩
          refine ⟨_, rfl, ?_⟩
          have h69F := h51F.tr (h69E.wk (W' := [96, 98, 99, c + 5]) (by first | rfl | simp))
          show pw X d h69 114 116 [some (.ref 112), some (.ref (16 + c)), some (pw_i k), some (pw_i mo), some (pw_i x6), some (pw_i 1), some (pw_i 0), none, none] [pw_i x71] _
          refine pw_ist E (pc' := 118) (ls' := [some (.ref 112), some (.ref (16 + c)), some (pw_i k), some (pw_i mo), some (pw_i x6), some (pw_i 1), some (pw_i 0), some (pw_i x71), none]) rfl rfl rfl rfl ?_
          refine pw_ld E (pc' := 119) (st' := [.ref (16 + c)]) rfl (fun _ => rfl) ?_
          refine pw_ld E (pc' := 120) (st' := [pw_i 1, .ref (16 + c)]) rfl (fun _ => rfl) ?_
          refine pw_ld E (pc' := 121) (st' := [.ref 112, pw_i 1, .ref (16 + c)]) rfl (fun _ => rfl) ?_
          refine pw_getR (b := 115) h69I E (c := 96) (k := 4) (pc' := 124) rfl rfl rfl rfl rfl rfl rfl ?_
          refine pw_ld E (pc' := 125) (st' := [.ref 112, .ref 115, pw_i 1, .ref (16 + c)]) rfl (fun _ => rfl) ?_
          refine pw_getR (b := 115) h69I E (c := 96) (k := 4) (pc' := 128) rfl rfl rfl rfl rfl rfl rfl ?_
          refine pw_ld E (pc' := 129) (st' := [pw_i 1, .ref 115, .ref 115, pw_i 1, .ref (16 + c)]) rfl (fun _ => rfl) ?_
          refine pw_ald2 h69I E (c := 99) (pc' := 130) rfl rfl rfl (by decide) rfl (by decide) (by omega) (by omega) rfl (fun hf72a hf72b => ?_)
          obtain ⟨f73l, f73h, -⟩ := pw_obj (c := c) h69I (pw_Sc_o hc)
          refine pw_call (m' := 74) (As := [.ref (16 + c), pw_i 1, .ref 115, pw_i (pw_g h69 99 (Int.toNat 1))]) (rest := []) (ls'' := [some (.ref (16 + c)), some (pw_i 1), some (.ref 115), some (pw_i (pw_g h69 99 (Int.toNat 1)))]) (Nat.le_trans (by decide) hd) E rfl (fun _ => pw_iV rfl rfl rfl rfl (pw_cellI f73h rfl)) (rfl : pm_ent 74 = some (4, 4, 7, 0, pmc_74)) rfl rfl (cm_74_99 (pw_dp hd (by decide)) h69I c hc (1) (by omega) (by omega) (pw_g h69 99 (Int.toNat 1)) (by omega) (by omega)) ?_
          rintro h74 v75 ⟨h74I, h74E, x76, rfl, hx76a, hx76b⟩
          refine ⟨_, rfl, ?_⟩
          have h74F := h69F.tr (h74E.wk (W' := [96, 98, 99, c + 5]) (by first | rfl | simp))
          show pw X d h74 114 133 [some (.ref 112), some (.ref (16 + c)), some (pw_i k), some (pw_i mo), some (pw_i x6), some (pw_i 1), some (pw_i 0), some (pw_i x71), none] [pw_i x76] _
          refine pw_ist E (pc' := 135) (ls' := [some (.ref 112), some (.ref (16 + c)), some (pw_i k), some (pw_i mo), some (pw_i x6), some (pw_i 1), some (pw_i 0), some (pw_i x71), some (pw_i x76)]) rfl rfl rfl rfl ?_
          refine pw_ld E (pc' := 136) (st' := [.ref 112]) rfl (fun _ => rfl) ?_
          refine pw_getR (b := 113) h74I E (c := 96) (k := 3) (pc' := 139) rfl rfl rfl rfl rfl rfl rfl ?_
          refine pw_ld E (pc' := 140) (st' := [pw_i k, .ref 113]) rfl (fun _ => rfl) ?_
          refine pw_ld E (pc' := 141) (st' := [pw_i mo, pw_i k, .ref 113]) rfl (fun _ => rfl) ?_
          refine pw_ld E (pc' := 143) (st' := [pw_i x71, pw_i mo, pw_i k, .ref 113]) rfl (fun _ => rfl) ?_
          refine pw_call (m' := 116) (As := [pw_i x71]) (rest := [pw_i mo, pw_i k, .ref 113]) (ls'' := [some (pw_i x71)]) (Nat.le_trans (by decide) hd) E rfl (fun _ => pw_iS rfl rfl rfl) (rfl : pm_ent 116 = some (1, 1, 10, 0, pmc_116)) rfl rfl (cm_116 (pw_dp hd (by decide)) h74I (x71) (by omega) (by omega)) ?_
          rintro u78 v77 ⟨rfl, x79, rfl, hx79a, hx79b⟩
          refine ⟨_, rfl, ?_⟩
          show pw X d h74 114 146 [some (.ref 112), some (.ref (16 + c)), some (pw_i k), some (pw_i mo), some (pw_i x6), some (pw_i 1), some (pw_i 0), some (pw_i x71), some (pw_i x76)] [pw_i x79, pw_i mo, pw_i k, .ref 113] _
          refine pw_ld E (pc' := 148) (st' := [pw_i x76, pw_i x79, pw_i mo, pw_i k, .ref 113]) rfl (fun _ => rfl) ?_
          refine pw_call (m' := 116) (As := [pw_i x76]) (rest := [pw_i x79, pw_i mo, pw_i k, .ref 113]) (ls'' := [some (pw_i x76)]) (Nat.le_trans (by decide) hd) E rfl (fun _ => pw_iS rfl rfl rfl) (rfl : pm_ent 116 = some (1, 1, 10, 0, pmc_116)) rfl rfl (cm_116 (pw_dp hd (by decide)) h74I (x76) (by omega) (by omega)) ?_
          rintro u81 v80 ⟨rfl, x82, rfl, hx82a, hx82b⟩
          refine ⟨_, rfl, ?_⟩
          show pw X d h74 114 151 [some (.ref 112), some (.ref (16 + c)), some (pw_i k), some (pw_i mo), some (pw_i x6), some (pw_i 1), some (pw_i 0), some (pw_i x71), some (pw_i x76)] [pw_i x82, pw_i x79, pw_i mo, pw_i k, .ref 113] _
          obtain ⟨f83l, f83h, -⟩ := pw_obj (c := 97) h74I rfl
          refine pw_call (m' := 18) (As := [.ref 113, pw_i k, pw_i mo, pw_i x79, pw_i x82]) (rest := []) (ls'' := [some (.ref 113), some (pw_i k), some (pw_i mo), some (pw_i x79), some (pw_i x82)]) (Nat.le_trans (by decide) hd) E rfl (fun _ => pw_iV rfl rfl rfl rfl (pw_cellI f83h rfl)) (rfl : pm_ent 18 = some (5, 5, 2, 4, pmc_18)) rfl rfl (cm_18 (pw_dp hd (by decide)) h74I 97 (by unfold pw_Lg; omega) (k) (by omega) (by omega) (mo) (by omega) (by omega) (x79) (by omega) (by omega) (x82) (by omega) (by omega)) ?_
          rintro h84 v85 ⟨h84I, h84E, rfl⟩
          refine ⟨_, rfl, ?_⟩
          have h84F := h74F.tr (h84E.wk (W' := [96, 98, 99, c + 5]) (by first | rfl | simp))
          show pw X d h84 114 154 [some (.ref 112), some (.ref (16 + c)), some (pw_i k), some (pw_i mo), some (pw_i x6), some (pw_i 1), some (pw_i 0), some (pw_i x71), some (pw_i x76)] [] _
          refine pw_goto E (pc' := 166) rfl (by decide) ?_
          refine pw_vret E rfl ?_
          exact ⟨h84I, h84F, rfl⟩
        · intro hc86
          change ¬ ((1 : Int) ≠ (0 : Int)) at hc86
          exfalso; omega
      · intro hc87
        change ¬ (x6 ≠ (0 : Int)) at hc87
        exfalso; omega
set_option maxHeartbeats 4000000 in
theorem cm_113 {X : List (Nat × List Value)} {d : Nat} {h : pm_H} (hd : 6 ≤ d) (I : pw_I h) (c : Nat) (hc : pw_Sc c) (sd : Int) (hsd1 : (-2147483648) ≤ sd) (hsd2 : sd ≤ 2147483647) (la : Int) (hla1 : (-2147483648) ≤ la) (hla2 : la ≤ 2147483647) : pw X d h 113 0 [some (.ref 112), some (.ref (16 + c)), some (pw_i sd), some (pw_i la), none, none] [] (fun h' v => pw_I h' ∧ pw_E [96, 98, 99, c + 5] h h' ∧ v = .inl none) := by
  have E : pm_ent 113 = some (4, 6, 10, 4, pmc_113) := rfl
  have E0 : pw_E [96, 98, 99, c + 5] h h := pw_E.rf _ _
  refine pw_ld E (pc' := 1) (st' := [.ref 112]) rfl (fun _ => rfl) ?_
  refine pw_ld E (pc' := 2) (st' := [pw_i sd, .ref 112]) rfl (fun _ => rfl) ?_
  refine pw_ld E (pc' := 3) (st' := [.long ((Int32.ofInt sd).toInt64), .ref 112]) rfl (fun _ => rfl) ?_
  refine pw_putL I E (c := 96) (k := 5) (pc' := 6) rfl rfl rfl rfl rfl rfl ?_
  intro h1I h1E
  generalize h1w : pw_w h 96 5 (.long ((Int32.ofInt sd).toInt64)) = h1 at h1I h1E ⊢
  have h1F := E0.tr (h1E.wk (W' := [96, 98, 99, c + 5]) (by first | rfl | simp))
  refine pw_ld E (pc' := 7) (st' := [.ref 112]) rfl (fun _ => rfl) ?_
  refine pw_getR (b := 113) h1I E (c := 96) (k := 3) (pc' := 10) rfl rfl rfl rfl rfl rfl rfl ?_
  refine pw_ld E (pc' := 11) (st' := [.ref 112, .ref 113]) rfl (fun _ => rfl) ?_
  refine pw_getR (b := 26) h1I E (c := 96) (k := 1) (pc' := 14) rfl rfl rfl rfl rfl rfl rfl ?_
  obtain ⟨f2l, f2h, -⟩ := pw_obj (c := 97) h1I rfl
  refine pw_call (m' := 25) (As := [.ref 113, .ref 26]) (rest := []) (ls'' := [some (.ref 113), some (.ref 26)]) (Nat.le_trans (by decide) hd) E rfl (fun _ => pw_iV rfl rfl rfl rfl (pw_cellI f2h rfl)) (rfl : pm_ent 25 = some (2, 2, 2, 4, pmc_25)) rfl rfl (cm_25 (pw_dp hd (by decide)) h1I 97 (by unfold pw_Lg; omega) 10 (by unfold pw_Lg; omega)) ?_
  rintro h3 v4 ⟨h3I, h3E, rfl⟩
  refine ⟨_, rfl, ?_⟩
  have h3F := h1F.tr (h3E.wk (W' := [96, 98, 99, c + 5]) (by first | rfl | simp))
  show pw X d h3 113 17 [some (.ref 112), some (.ref (16 + c)), some (pw_i sd), some (pw_i la), none, none] [] _
  refine pw_ld E (pc' := 18) (st' := [pw_i 0]) rfl (fun _ => rfl) ?_
  refine pw_ist E (pc' := 20) (ls' := [some (.ref 112), some (.ref (16 + c)), some (pw_i sd), some (pw_i la), some (pw_i 0), none]) rfl rfl rfl rfl ?_
  have L20 : ∀ (n20 : Nat) (k20_4 : Int) (h20 : pm_H), pw_I h20 → pw_E [96, 98, 99, c + 5] h h20 → 0 ≤ k20_4 → k20_4 ≤ 24 → (24 - k20_4).toNat = n20 → pw X d h20 113 20 [some (.ref 112), some (.ref (16 + c)), some (pw_i sd), some (pw_i la), some (pw_i k20_4), none] [] (fun h' v => pw_I h' ∧ pw_E [96, 98, 99, c + 5] h h' ∧ v = .inl none) := by
    intro n20
    induction n20 using Nat.strongRecOn with
    | ind n20 ih20 =>
      intro k20_4 h20 I20 E20 k20_4a k20_4b hm20
      refine pw_ld E (pc' := 22) (st' := [pw_i k20_4]) rfl (fun _ => rfl) ?_
      refine pw_bip E (pc' := 24) rfl rfl (by decide) ?_
      refine pw_if2 E (pc' := 58) rfl (by decide) (by omega) (by omega) (by decide) (by decide) ?_ ?_
      · intro hc5
        change (24 : Int) ≤ k20_4 at hc5
        refine pw_ld E (pc' := 59) (st' := [pw_i 1]) rfl (fun _ => rfl) ?_
        refine pw_ist E (pc' := 61) (ls' := [some (.ref 112), some (.ref (16 + c)), some (pw_i sd), some (pw_i la), some (pw_i 1), none]) rfl rfl rfl rfl ?_
        have L61 : ∀ (n61 : Nat) (k61_4 : Int) (k61_5 : Option Value) (h61 : pm_H), pw_I h61 → pw_E [96, 98, 99, c + 5] h h61 → 1 ≤ k61_4 → k61_4 ≤ 12 → (12 - k61_4).toNat = n61 → pw X d h61 113 61 [some (.ref 112), some (.ref (16 + c)), some (pw_i sd), some (pw_i la), some (pw_i k61_4), k61_5] [] (fun h' v => pw_I h' ∧ pw_E [96, 98, 99, c + 5] h h' ∧ v = .inl none) := by
          intro n61
          induction n61 using Nat.strongRecOn with
          | ind n61 ih61 =>
            intro k61_4 k61_5 h61 I61 E61 k61_4a k61_4b hm61
            refine pw_ld E (pc' := 63) (st' := [pw_i k61_4]) rfl (fun _ => rfl) ?_
            refine pw_ld E (pc' := 64) (st' := [pw_i la, pw_i k61_4]) rfl (fun _ => rfl) ?_
            refine pw_if2 E (pc' := 117) rfl (by decide) (by omega) (by omega) (by omega) (by omega) ?_ ?_
            · intro hc6
              change la < k61_4 at hc6
              refine pw_vret E rfl ?_
              exact ⟨I61, E61, rfl⟩
            · intro hc7
              change ¬ (la < k61_4) at hc7
              refine pw_ld E (pc' := 69) (st' := [pw_i k61_4]) rfl (fun _ => rfl) ?_
              refine pw_bip E (pc' := 71) rfl rfl (by decide) ?_
              refine pw_if2 E (pc' := 117) rfl (by decide) (by omega) (by omega) (by decide) (by decide) ?_ ?_
              · intro hc8
                change (12 : Int) ≤ k61_4 at hc8
                refine pw_vret E rfl ?_
                exact ⟨I61, E61, rfl⟩
              · intro hc9
                change ¬ ((12 : Int) ≤ k61_4) at hc9
                refine pw_ld E (pc' := 75) (st' := [pw_i 0]) rfl (fun _ => rfl) ?_
                refine pw_ist E (pc' := 77) (ls' := [some (.ref 112), some (.ref (16 + c)), some (pw_i sd), some (pw_i la), some (pw_i k61_4), some (pw_i 0)]) rfl rfl rfl rfl ?_
                have L77 : ∀ (n77 : Nat) (k77_5 : Int) (h77 : pm_H), pw_I h77 → pw_E [96, 98, 99, c + 5] h h77 → 0 ≤ k77_5 → k77_5 ≤ 24 → (24 - k77_5).toNat = n77 → pw X d h77 113 77 [some (.ref 112), some (.ref (16 + c)), some (pw_i sd), some (pw_i la), some (pw_i k61_4), some (pw_i k77_5)] [] (fun h' v => pw_I h' ∧ pw_E [96, 98, 99, c + 5] h h' ∧ v = .inl none) := by
                  intro n77
                  induction n77 using Nat.strongRecOn with
                  | ind n77 ih77 =>
                    intro k77_5 h77 I77 E77 k77_5a k77_5b hm77
                    refine pw_ld E (pc' := 79) (st' := [pw_i k77_5]) rfl (fun _ => rfl) ?_
                    refine pw_bip E (pc' := 81) rfl rfl (by decide) ?_
                    refine pw_if2 E (pc' := 111) rfl (by decide) (by omega) (by omega) (by decide) (by decide) ?_ ?_
                    · intro hc10
                      change (24 : Int) ≤ k77_5 at hc10
                      refine pw_inc E (pc' := 114) (ls' := [some (.ref 112), some (.ref (16 + c)), some (pw_i sd), some (pw_i la), some (pw_i (k61_4 + 1)), some (pw_i k77_5)]) rfl rfl rfl rfl ?_
                      refine pw_goto E (pc' := 61) rfl (by decide) ?_
                      exact ih61 _ (by omega) (k61_4 + 1) (some (pw_i k77_5)) h77 I77 E77 (by omega) (by omega)  rfl
                    · intro hc11
                      change ¬ ((24 : Int) ≤ k77_5) at hc11
                      refine pw_ld E (pc' := 85) (st' := [.ref 112]) rfl (fun _ => rfl) ?_
                      refine pw_getR (b := 17) I77 E (c := 96) (k := 0) (pc' := 88) rfl rfl rfl rfl rfl rfl rfl ?_
                      refine pw_ld E (pc' := 90) (st' := [pw_i k77_5, .ref 17]) rfl (fun _ => rfl) ?_
                      obtain ⟨f12l, f12h, -⟩ := pw_obj (c := 1) I77 rfl
                      refine pw_call (m' := 59) (As := [.ref 17, pw_i k77_5]) (rest := []) (ls'' := [some (.ref 17), some (pw_i k77_5)]) (Nat.le_trans (by decide) hd) E rfl (fun _ => pw_iV rfl rfl rfl rfl (pw_cellI f12h rfl)) (rfl : pm_ent 59 = some (2, 2, 6, 1, pmc_59)) rfl rfl (cm_59 (pw_dp hd (by decide)) I77 (k77_5) (by omega) (by omega)) ?_
                      rintro u14 v13 ⟨rfl, x15, rfl, hx15a, hx15b, hx15r⟩
                      refine ⟨_, rfl, ?_⟩
                      show pw X d h77 113 93 [some (.ref 112), some (.ref (16 + c)), some (pw_i sd), some (pw_i la), some (pw_i k61_4), some (pw_i k77_5)] [pw_i x15] _
                      change x15 = pw_g h77 2 k77_5.toNat at hx15r
                      rcases (by omega : x15 = 1 ∨ x15 = 0) with hb16 | hb16
                      · skip
                        refine pw_if E (pc' := 105) rfl (by decide) (by omega) (by omega) ?_ ?_
                        · intro hc17
                          change x15 = (0 : Int) at hc17
                          exfalso; omega
                        · intro hc18
                          change ¬ (x15 = (0 : Int)) at hc18
                          refine pw_ld E (pc' := 97) (st' := [.ref 112]) rfl (fun _ => rfl) ?_
                          refine pw_ld E (pc' := 98) (st' := [.ref (16 + c), .ref 112]) rfl (fun _ => rfl) ?_
                          refine pw_ld E (pc' := 100) (st' := [pw_i k77_5, .ref (16 + c), .ref 112]) rfl (fun _ => rfl) ?_
                          refine pw_ld E (pc' := 102) (st' := [pw_i k61_4, pw_i k77_5, .ref (16 + c), .ref 112]) rfl (fun _ => rfl) ?_
                          obtain ⟨f19l, f19h, -⟩ := pw_obj (c := 96) I77 rfl
                          refine pw_call (m' := 114) (As := [.ref 112, .ref (16 + c), pw_i k77_5, pw_i k61_4]) (rest := []) (ls'' := [some (.ref 112), some (.ref (16 + c)), some (pw_i k77_5), some (pw_i k61_4), none, none, none, none, none]) (Nat.le_trans (by decide) hd) E rfl (fun _ => pw_iV rfl rfl rfl rfl (pw_cellI f19h rfl)) (rfl : pm_ent 114 = some (4, 9, 10, 4, pmc_114)) rfl rfl (cm_114 (pw_dp hd (by decide)) I77 c hc (k77_5) (by omega) (by omega) (k61_4) (by omega) (by omega)) ?_
                          rintro h20 v21 ⟨h20I, h20E, rfl⟩
                          refine ⟨_, rfl, ?_⟩
                          have h20F := E77.tr (h20E.wk (W' := [96, 98, 99, c + 5]) (by first | rfl | simp))
                          show pw X d h20 113 105 [some (.ref 112), some (.ref (16 + c)), some (pw_i sd), some (pw_i la), some (pw_i k61_4), some (pw_i k77_5)] [] _
                          refine pw_inc E (pc' := 108) (ls' := [some (.ref 112), some (.ref (16 + c)), some (pw_i sd), some (pw_i la), some (pw_i k61_4), some (pw_i (k77_5 + 1))]) rfl rfl rfl rfl ?_
                          refine pw_goto E (pc' := 77) rfl (by decide) ?_
                          exact ih77 _ (by omega) (k77_5 + 1) h20 h20I h20F (by omega) (by omega)  rfl
                      · skip
                        refine pw_if E (pc' := 105) rfl (by decide) (by omega) (by omega) ?_ ?_
                        · intro hc23
                          change x15 = (0 : Int) at hc23
                          refine pw_inc E (pc' := 108) (ls' := [some (.ref 112), some (.ref (16 + c)), some (pw_i sd), some (pw_i la), some (pw_i k61_4), some (pw_i (k77_5 + 1))]) rfl rfl rfl rfl ?_
                          refine pw_goto E (pc' := 77) rfl (by decide) ?_
                          exact ih77 _ (by omega) (k77_5 + 1) h77 I77 E77 (by omega) (by omega)  rfl
                        · intro hc24
                          change ¬ (x15 = (0 : Int)) at hc24
                          exfalso; omega
                exact L77 _ (0) h61 I61 E61 (by omega) (by omega)  rfl
        exact L61 _ (1) (none) h20 I20 E20 (by omega) (by omega)  rfl
      · intro hc25
        change ¬ ((24 : Int) ≤ k20_4) at hc25
        refine pw_ld E (pc' := 28) (st' := [.ref 112]) rfl (fun _ => rfl) ?_
        refine pw_getR (b := 113) I20 E (c := 96) (k := 3) (pc' := 31) rfl rfl rfl rfl rfl rfl rfl ?_
        refine pw_ld E (pc' := 33) (st' := [pw_i k20_4, .ref 113]) rfl (fun _ => rfl) ?_
        refine pw_ld E (pc' := 34) (st' := [pw_i 0, pw_i k20_4, .ref 113]) rfl (fun _ => rfl) ?_
        obtain ⟨f26l, f26h, -⟩ := pw_obj (c := 97) I20 rfl
        refine pw_call (m' := 19) (As := [.ref 113, pw_i k20_4, pw_i 0]) (rest := []) (ls'' := [some (.ref 113), some (pw_i k20_4), some (pw_i 0)]) (Nat.le_trans (by decide) hd) E rfl (fun _ => pw_iV rfl rfl rfl rfl (pw_cellI f26h rfl)) (rfl : pm_ent 19 = some (3, 3, 2, 1, pmc_19)) rfl rfl (cm_19 (pw_dp hd (by decide)) I20 97 (by unfold pw_Lg; omega) (k20_4) (by omega) (by omega) (0) (by omega) (by omega)) ?_
        rintro u28 v27 ⟨rfl, x29, rfl, hx29a, hx29b⟩
        refine ⟨_, rfl, ?_⟩
        show pw X d h20 113 37 [some (.ref 112), some (.ref (16 + c)), some (pw_i sd), some (pw_i la), some (pw_i k20_4), none] [pw_i x29] _
        refine pw_if E (pc' := 52) rfl (by decide) (by omega) (by omega) ?_ ?_
        · intro hc30
          change x29 = (0 : Int) at hc30
          refine pw_inc E (pc' := 55) (ls' := [some (.ref 112), some (.ref (16 + c)), some (pw_i sd), some (pw_i la), some (pw_i (k20_4 + 1)), none]) rfl rfl rfl rfl ?_
          refine pw_goto E (pc' := 20) rfl (by decide) ?_
          exact ih20 _ (by omega) (k20_4 + 1) h20 I20 E20 (by omega) (by omega)  rfl
        · intro hc31
          change ¬ (x29 = (0 : Int)) at hc31
          refine pw_ld E (pc' := 41) (st' := [.ref 112]) rfl (fun _ => rfl) ?_
          refine pw_getR (b := 113) I20 E (c := 96) (k := 3) (pc' := 44) rfl rfl rfl rfl rfl rfl rfl ?_
          refine pw_ld E (pc' := 46) (st' := [pw_i k20_4, .ref 113]) rfl (fun _ => rfl) ?_
          refine pw_ld E (pc' := 47) (st' := [pw_i 0, pw_i k20_4, .ref 113]) rfl (fun _ => rfl) ?_
          refine pw_ld E (pc' := 48) (st' := [pw_i 0, pw_i 0, pw_i k20_4, .ref 113]) rfl (fun _ => rfl) ?_
          refine pw_ld E (pc' := 49) (st' := [pw_i 0, pw_i 0, pw_i 0, pw_i k20_4, .ref 113]) rfl (fun _ => rfl) ?_
          obtain ⟨f32l, f32h, -⟩ := pw_obj (c := 97) I20 rfl
          refine pw_call (m' := 18) (As := [.ref 113, pw_i k20_4, pw_i 0, pw_i 0, pw_i 0]) (rest := []) (ls'' := [some (.ref 113), some (pw_i k20_4), some (pw_i 0), some (pw_i 0), some (pw_i 0)]) (Nat.le_trans (by decide) hd) E rfl (fun _ => pw_iV rfl rfl rfl rfl (pw_cellI f32h rfl)) (rfl : pm_ent 18 = some (5, 5, 2, 4, pmc_18)) rfl rfl (cm_18 (pw_dp hd (by decide)) I20 97 (by unfold pw_Lg; omega) (k20_4) (by omega) (by omega) (0) (by omega) (by omega) (0) (by omega) (by omega) (0) (by omega) (by omega)) ?_
          rintro h33 v34 ⟨h33I, h33E, rfl⟩
          refine ⟨_, rfl, ?_⟩
          have h33F := E20.tr (h33E.wk (W' := [96, 98, 99, c + 5]) (by first | rfl | simp))
          show pw X d h33 113 52 [some (.ref 112), some (.ref (16 + c)), some (pw_i sd), some (pw_i la), some (pw_i k20_4), none] [] _
          refine pw_inc E (pc' := 55) (ls' := [some (.ref 112), some (.ref (16 + c)), some (pw_i sd), some (pw_i la), some (pw_i (k20_4 + 1)), none]) rfl rfl rfl rfl ?_
          refine pw_goto E (pc' := 20) rfl (by decide) ?_
          exact ih20 _ (by omega) (k20_4 + 1) h33 h33I h33F (by omega) (by omega)  rfl
  exact L20 _ (0) h3 h3I h3F (by omega) (by omega)  rfl
