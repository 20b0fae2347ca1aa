/-! the model (printed by wip/tool/mall.py) -/
set_option maxHeartbeats 4000000 in
theorem cm_282 {X : List (Nat × List Value)} {d : Nat} {h : pm_H} (hd : 3 ≤ d) (I : pw_I h) (ix : Int) (hix1 : 0 ≤ ix) (hix2 : ix ≤ 3) (k : Int) (hk1 : 0 ≤ k) (hk2 : k ≤ 23) (tn : Int) (htn1 : (-2147483648) ≤ tn) (htn2 : tn ≤ 2147483647) (hp0 : pw_K h) : pw X d h 282 0 [some (.ref 141), some (pw_i ix), some (pw_i k), some (pw_i tn), none] [] (fun h' v => pw_I h' ∧ pw_E [149, 150] h h' ∧ ∃ a : Int, v = .inl (some (pw_i a)) ∧ 0 ≤ a ∧ a ≤ 1) := by
  have E : pm_ent 282 = some (4, 5, 12, 1, pmc_282) := rfl
  have E0 : pw_E [149, 150] h h := pw_E.rf _ _
  refine pw_ld E (pc' := 1) (st' := [.ref 141]) rfl (fun _ => rfl) ?_
  refine pw_getR (b := 173) I E (c := 125) (k := 46) (pc' := 4) rfl rfl rfl rfl rfl rfl rfl ?_
  refine pw_ld E (pc' := 5) (st' := [pw_i ix, .ref 173]) rfl (fun _ => rfl) ?_
  refine pw_ald2 I E (c := 157) (pc' := 6) rfl rfl rfl (by decide) rfl (by decide) (by omega) (by omega) rfl (fun hf1a hf1b => ?_)
  refine pw_if E (pc' := 11) rfl (by decide) (by omega) (by omega) ?_ ?_
  · intro hc2
    change (0 : Int) ≤ pw_g h 157 (ix.toNat) at hc2
    refine pw_bip E (pc' := 13) rfl rfl (by decide) ?_
    refine pw_ld E (pc' := 14) (st' := [pw_i k, pw_i 12]) rfl (fun _ => rfl) ?_
    refine pw_mul E (pc' := 15) rfl rfl ?_
    refine pw_ld E (pc' := 16) (st' := [.ref 141, pw_i (12 * k)]) rfl (fun _ => rfl) ?_
    refine pw_getR (b := 174) I E (c := 125) (k := 47) (pc' := 19) rfl rfl rfl rfl rfl rfl rfl ?_
    refine pw_ld E (pc' := 20) (st' := [pw_i ix, .ref 174, pw_i (12 * k)]) rfl (fun _ => rfl) ?_
    refine pw_ald2 I E (c := 158) (pc' := 21) rfl rfl rfl (by decide) rfl (by decide) (by omega) (by omega) rfl (fun hf3a hf3b => ?_)
    refine pw_add E (pc' := 22) rfl rfl ?_
    refine pw_ist E (pc' := 24) (ls' := [some (.ref 141), some (pw_i ix), some (pw_i k), some (pw_i tn), some (pw_i ((12 * k) + (pw_g h 158 (ix.toNat))))]) rfl rfl rfl rfl ?_
    refine pw_ld E (pc' := 25) (st' := [.ref 141]) rfl (fun _ => rfl) ?_
    refine pw_getR (b := 165) I E (c := 125) (k := 36) (pc' := 28) rfl rfl rfl rfl rfl rfl rfl ?_
    refine pw_ld E (pc' := 29) (st' := [pw_i 0, .ref 165]) rfl (fun _ => rfl) ?_
    refine pw_ld E (pc' := 30) (st' := [.ref 141, pw_i 0, .ref 165]) rfl (fun _ => rfl) ?_
    refine pw_getR (b := 148) I E (c := 125) (k := 11) (pc' := 33) rfl rfl rfl rfl rfl rfl rfl ?_
    refine pw_ld E (pc' := 34) (st' := [pw_i k, .ref 148, pw_i 0, .ref 165]) rfl (fun _ => rfl) ?_
    refine pw_ald2 I E (c := 132) (pc' := 35) rfl rfl rfl (by decide) rfl (by decide) (by omega) (by omega) rfl (fun hf4a hf4b => ?_)
    refine pw_ast0 I E (c := 149) (pc' := 36) rfl rfl rfl (by decide) rfl (by decide) (by omega) (by omega) rfl (by omega) (by omega) (by omega) (by omega) rfl ?_
    intro h5I h5E
    generalize h5w : pw_w h 149 (Int.toNat 0) (pw_i (pw_g h 132 (k.toNat))) = h5 at h5I h5E ⊢
    have h5F := E0.tr (h5E.wk (W' := [149, 150]) (by first | rfl | simp))
    refine pw_ld E (pc' := 37) (st' := [.ref 141]) rfl (fun _ => rfl) ?_
    refine pw_getR (b := 165) h5I E (c := 125) (k := 36) (pc' := 40) rfl rfl rfl rfl rfl rfl rfl ?_
    refine pw_ld E (pc' := 41) (st' := [pw_i 1, .ref 165]) rfl (fun _ => rfl) ?_
    refine pw_ld E (pc' := 42) (st' := [.ref 141, pw_i 1, .ref 165]) rfl (fun _ => rfl) ?_
    refine pw_getR (b := 149) h5I E (c := 125) (k := 12) (pc' := 45) rfl rfl rfl rfl rfl rfl rfl ?_
    refine pw_ld E (pc' := 46) (st' := [pw_i k, .ref 149, pw_i 1, .ref 165]) rfl (fun _ => rfl) ?_
    refine pw_ald2 h5I E (c := 133) (pc' := 47) rfl rfl rfl (by decide) rfl (by decide) (by omega) (by omega) rfl (fun hf6a hf6b => ?_)
    refine pw_ast0 h5I E (c := 149) (pc' := 48) rfl rfl rfl (by decide) rfl (by decide) (by omega) (by omega) rfl (by omega) (by omega) (by omega) (by omega) rfl ?_
    intro h7I h7E
    generalize h7w : pw_w h5 149 (Int.toNat 1) (pw_i (pw_g h5 133 (k.toNat))) = h7 at h7I h7E ⊢
    have h7F := h5F.tr (h7E.wk (W' := [149, 150]) (by first | rfl | simp))
    refine pw_ld E (pc' := 49) (st' := [.ref 141]) rfl (fun _ => rfl) ?_
    refine pw_getR (b := 165) h7I E (c := 125) (k := 36) (pc' := 52) rfl rfl rfl rfl rfl rfl rfl ?_
    refine pw_ld E (pc' := 53) (st' := [pw_i 2, .ref 165]) rfl (fun _ => rfl) ?_
    refine pw_ld E (pc' := 54) (st' := [.ref 141, pw_i 2, .ref 165]) rfl (fun _ => rfl) ?_
    refine pw_getR (b := 150) h7I E (c := 125) (k := 13) (pc' := 57) rfl rfl rfl rfl rfl rfl rfl ?_
    refine pw_ld E (pc' := 58) (st' := [pw_i k, .ref 150, pw_i 2, .ref 165]) rfl (fun _ => rfl) ?_
    refine pw_ald2 h7I E (c := 134) (pc' := 59) rfl rfl rfl (by decide) rfl (by decide) (by omega) (by omega) rfl (fun hf8a hf8b => ?_)
    refine pw_ast0 h7I E (c := 149) (pc' := 60) rfl rfl rfl (by decide) rfl (by decide) (by omega) (by omega) rfl (by omega) (by omega) (by omega) (by omega) rfl ?_
    intro h9I h9E
    generalize h9w : pw_w h7 149 (Int.toNat 2) (pw_i (pw_g h7 134 (k.toNat))) = h9 at h9I h9E ⊢
    have h9F := h7F.tr (h9E.wk (W' := [149, 150]) (by first | rfl | simp))
    refine pw_ld E (pc' := 61) (st' := [.ref 141]) rfl (fun _ => rfl) ?_
    refine pw_getR (b := 165) h9I E (c := 125) (k := 36) (pc' := 64) rfl rfl rfl rfl rfl rfl rfl ?_
    refine pw_ld E (pc' := 65) (st' := [pw_i 3, .ref 165]) rfl (fun _ => rfl) ?_
    refine pw_ld E (pc' := 66) (st' := [.ref 141, pw_i 3, .ref 165]) rfl (fun _ => rfl) ?_
    refine pw_getR (b := 151) h9I E (c := 125) (k := 14) (pc' := 69) rfl rfl rfl rfl rfl rfl rfl ?_
    refine pw_ld E (pc' := 70) (st' := [pw_i k, .ref 151, pw_i 3, .ref 165]) rfl (fun _ => rfl) ?_
    refine pw_ald2 h9I E (c := 135) (pc' := 71) rfl rfl rfl (by decide) rfl (by decide) (by omega) (by omega) rfl (fun hf10a hf10b => ?_)
    refine pw_if E (pc' := 78) rfl (by decide) (by omega) (by omega) ?_ ?_
    · intro hc11
      change pw_g h9 135 (k.toNat) = (0 : Int) at hc11
      refine pw_ld E (pc' := 79) (st' := [pw_i 0, pw_i 3, .ref 165]) rfl (fun _ => rfl) ?_
      refine pw_ast0 h9I E (c := 149) (pc' := 80) rfl rfl rfl (by decide) rfl (by decide) (by omega) (by omega) rfl (by omega) (by omega) (by omega) (by omega) rfl ?_
      intro h12I h12E
      generalize h12w : pw_w h9 149 (Int.toNat 3) (pw_i 0) = h12 at h12I h12E ⊢
      have h12F := h9F.tr (h12E.wk (W' := [149, 150]) (by first | rfl | simp))
      refine pw_ld E (pc' := 81) (st' := [.ref 141]) rfl (fun _ => rfl) ?_
      refine pw_getR (b := 165) h12I E (c := 125) (k := 36) (pc' := 84) rfl rfl rfl rfl rfl rfl rfl ?_
      refine pw_ld E (pc' := 85) (st' := [pw_i 4, .ref 165]) rfl (fun _ => rfl) ?_
      refine pw_ld E (pc' := 86) (st' := [.ref 141, pw_i 4, .ref 165]) rfl (fun _ => rfl) ?_
      refine pw_ld E (pc' := 87) (st' := [pw_i k, .ref 141, pw_i 4, .ref 165]) rfl (fun _ => rfl) ?_
      refine pw_ld E (pc' := 88) (st' := [pw_i 0, pw_i k, .ref 141, pw_i 4, .ref 165]) rfl (fun _ => rfl) ?_
      obtain ⟨f13l, f13h, -⟩ := pw_obj (c := 125) h12I rfl
      refine pw_call (m' := 283) (As := [.ref 141, pw_i k, pw_i 0]) (rest := [pw_i 4, .ref 165]) (ls'' := [some (.ref 141), some (pw_i k), some (pw_i 0), none, none]) (Nat.le_trans (by decide) hd) E rfl (fun _ => pw_iV rfl rfl rfl rfl (pw_cellI f13h rfl)) (rfl : pm_ent 283 = some (3, 5, 12, 0, pmc_283)) rfl rfl (cm_283 (pw_dp hd (by decide)) h12I (k) (by omega) (by omega) (0) (by omega) (by omega)) ?_
      rintro u15 v14 ⟨rfl, x16, rfl, hx16a, hx16b⟩
      refine ⟨_, rfl, ?_⟩
      show pw X d h12 282 91 [some (.ref 141), some (pw_i ix), some (pw_i k), some (pw_i tn), some (pw_i ((12 * k) + (pw_g h 158 (ix.toNat))))] [pw_i x16, pw_i 4, .ref 165] _
      refine pw_ast0 h12I E (c := 149) (pc' := 92) rfl rfl rfl (by decide) rfl (by decide) (by omega) (by omega) rfl (by omega) (by omega) (by omega) (by omega) rfl ?_
      intro h17I h17E
      generalize h17w : pw_w h12 149 (Int.toNat 4) (pw_i x16) = h17 at h17I h17E ⊢
      have h17F := h12F.tr (h17E.wk (W' := [149, 150]) (by first | rfl | simp))
      refine pw_ld E (pc' := 93) (st' := [.ref 141]) rfl (fun _ => rfl) ?_
      refine pw_getR (b := 165) h17I E (c := 125) (k := 36) (pc' := 96) rfl rfl rfl rfl rfl rfl rfl ?_
      refine pw_ld E (pc' := 97) (st' := [pw_i 5, .ref 165]) rfl (fun _ => rfl) ?_
      refine pw_ld E (pc' := 98) (st' := [.ref 141, pw_i 5, .ref 165]) rfl (fun _ => rfl) ?_
      refine pw_ld E (pc' := 99) (st' := [pw_i k, .ref 141, pw_i 5, .ref 165]) rfl (fun _ => rfl) ?_
      refine pw_ld E (pc' := 100) (st' := [pw_i 2, pw_i k, .ref 141, pw_i 5, .ref 165]) rfl (fun _ => rfl) ?_
      obtain ⟨f18l, f18h, -⟩ := pw_obj (c := 125) h17I rfl
      refine pw_call (m' := 283) (As := [.ref 141, pw_i k, pw_i 2]) (rest := [pw_i 5, .ref 165]) (ls'' := [some (.ref 141), some (pw_i k), some (pw_i 2), none, none]) (Nat.le_trans (by decide) hd) E rfl (fun _ => pw_iV rfl rfl rfl rfl (pw_cellI f18h rfl)) (rfl : pm_ent 283 = some (3, 5, 12, 0, pmc_283)) rfl rfl (cm_283 (pw_dp hd (by decide)) h17I (k) (by omega) (by omega) (2) (by omega) (by omega)) ?_
      rintro u20 v19 ⟨rfl, x21, rfl, hx21a, hx21b⟩
      refine ⟨_, rfl, ?_⟩
      show pw X d h17 282 103 [some (.ref 141), some (pw_i ix), some (pw_i k), some (pw_i tn), some (pw_i ((12 * k) + (pw_g h 158 (ix.toNat))))] [pw_i x21, pw_i 5, .ref 165] _
      refine pw_ast0 h17I E (c := 149) (pc' := 104) rfl rfl rfl (by decide) rfl (by decide) (by omega) (by omega) rfl (by omega) (by omega) (by omega) (by omega) rfl ?_
      intro h22I h22E
      generalize h22w : pw_w h17 149 (Int.toNat 5) (pw_i x21) = h22 at h22I h22E ⊢
      have h22F := h17F.tr (h22E.wk (W' := [149, 150]) (by first | rfl | simp))
      refine pw_ld E (pc' := 105) (st' := [.ref 141]) rfl (fun _ => rfl) ?_
      refine pw_getR (b := 165) h22I E (c := 125) (k := 36) (pc' := 108) rfl rfl rfl rfl rfl rfl rfl ?_
      refine pw_bip E (pc' := 110) rfl rfl (by decide) ?_
      refine pw_ld E (pc' := 111) (st' := [.ref 141, pw_i 6, .ref 165]) rfl (fun _ => rfl) ?_
      refine pw_getR (b := 149) h22I E (c := 125) (k := 12) (pc' := 114) rfl rfl rfl rfl rfl rfl rfl ?_
      refine pw_ld E (pc' := 115) (st' := [pw_i k, .ref 149, pw_i 6, .ref 165]) rfl (fun _ => rfl) ?_
      refine pw_ald2 h22I E (c := 133) (pc' := 116) rfl rfl rfl (by decide) rfl (by decide) (by omega) (by omega) rfl (fun hf23a hf23b => ?_)
      refine pw_ld E (pc' := 117) (st' := [.ref 141, pw_i (pw_g h22 133 (k.toNat)), pw_i 6, .ref 165]) rfl (fun _ => rfl) ?_
      refine pw_getR (b := 152) h22I E (c := 125) (k := 16) (pc' := 120) rfl rfl rfl rfl rfl rfl rfl ?_
      refine pw_bip E (pc' := 122) rfl rfl (by decide) ?_
      refine pw_ld E (pc' := 123) (st' := [.ref 141, pw_i 12, .ref 152, pw_i (pw_g h22 133 (k.toNat)), pw_i 6, .ref 165]) rfl (fun _ => rfl) ?_
      refine pw_getR (b := 148) h22I E (c := 125) (k := 11) (pc' := 126) rfl rfl rfl rfl rfl rfl rfl ?_
      refine pw_ld E (pc' := 127) (st' := [pw_i k, .ref 148, pw_i 12, .ref 152, pw_i (pw_g h22 133 (k.toNat)), pw_i 6, .ref 165]) rfl (fun _ => rfl) ?_
      refine pw_ald2 h22I E (c := 132) (pc' := 128) rfl rfl rfl (by decide) rfl (by decide) (by omega) (by omega) rfl (fun hf24a hf24b => ?_)
      refine pw_mul E (pc' := 129) rfl rfl ?_
      refine pw_ld E (pc' := 130) (st' := [.ref 141, pw_i (12 * (pw_g h22 132 (k.toNat))), .ref 152, pw_i (pw_g h22 133 (k.toNat)), pw_i 6, .ref 165]) rfl (fun _ => rfl) ?_
      refine pw_getR (b := 175) h22I E (c := 125) (k := 48) (pc' := 133) rfl rfl rfl rfl rfl rfl rfl ?_
      refine pw_ld E (pc' := 134) (st' := [pw_i ix, .ref 175, pw_i (12 * (pw_g h22 132 (k.toNat))), .ref 152, pw_i (pw_g h22 133 (k.toNat)), pw_i 6, .ref 165]) rfl (fun _ => rfl) ?_
      refine pw_ald2 h22I E (c := 159) (pc' := 135) rfl rfl rfl (by decide) rfl (by decide) (by omega) (by omega) rfl (fun hf25a hf25b => ?_)
      refine pw_add E (pc' := 136) rfl rfl ?_
      refine pw_ald2 h22I E (c := 136) (pc' := 137) rfl rfl rfl (by decide) rfl (by decide) (by omega) (by omega) rfl (fun hf26a hf26b => ?_)
      refine pw_if2 E (pc' := 144) rfl (by decide) (by omega) (by omega) (by omega) (by omega) ?_ ?_
      · intro hc27
        change pw_g h22 136 (((12 * (pw_g h22 132 (k.toNat))) + (pw_g h22 159 (ix.toNat))).toNat) ≤ pw_g h22 133 (k.toNat) at hc27
        refine pw_ld E (pc' := 145) (st' := [pw_i 0, pw_i 6, .ref 165]) rfl (fun _ => rfl) ?_
        refine pw_ast0 h22I E (c := 149) (pc' := 146) rfl rfl rfl (by decide) rfl (by decide) (by omega) (by omega) rfl (by omega) (by omega) (by omega) (by omega) rfl ?_
        intro h28I h28E
        generalize h28w : pw_w h22 149 (Int.toNat 6) (pw_i 0) = h28 at h28I h28E ⊢
        have h28F := h22F.tr (h28E.wk (W' := [149, 150]) (by first | rfl | simp))
        refine pw_ld E (pc' := 147) (st' := [.ref 141]) rfl (fun _ => rfl) ?_
        refine pw_getR (b := 165) h28I E (c := 125) (k := 36) (pc' := 150) rfl rfl rfl rfl rfl rfl rfl ?_
        refine pw_bip E (pc' := 152) rfl rfl (by decide) ?_
        refine pw_bip E (pc' := 154) rfl rfl (by decide) ?_
        refine pw_ld E (pc' := 155) (st' := [.ref 141, pw_i 10, pw_i 7, .ref 165]) rfl (fun _ => rfl) ?_
        refine pw_getR (b := 155) h28I E (c := 125) (k := 19) (pc' := 158) rfl rfl rfl rfl rfl rfl rfl ?_
        refine pw_ld E (pc' := 160) (st' := [pw_i ((12 * k) + (pw_g h 158 (ix.toNat))), .ref 155, pw_i 10, pw_i 7, .ref 165]) rfl (fun _ => rfl) ?_
        refine pw_ald2 h28I E (c := 139) (pc' := 161) rfl rfl rfl (by decide) rfl (by decide) (by omega) (by omega) rfl (fun hf29a hf29b => ?_)
        refine pw_mul E (pc' := 162) rfl rfl ?_
        refine pw_ld E (pc' := 163) (st' := [pw_i tn, pw_i (10 * (pw_g h28 139 (((12 * k) + (pw_g h 158 (ix.toNat))).toNat))), pw_i 7, .ref 165]) rfl (fun _ => rfl) ?_
        refine pw_ld E (pc' := 164) (st' := [.ref 141, pw_i tn, pw_i (10 * (pw_g h28 139 (((12 * k) + (pw_g h 158 (ix.toNat))).toNat))), pw_i 7, .ref 165]) rfl (fun _ => rfl) ?_
        refine pw_getR (b := 156) h28I E (c := 125) (k := 20) (pc' := 167) rfl rfl rfl rfl rfl rfl rfl ?_
        refine pw_ld E (pc' := 169) (st' := [pw_i ((12 * k) + (pw_g h 158 (ix.toNat))), .ref 156, pw_i tn, pw_i (10 * (pw_g h28 139 (((12 * k) + (pw_g h 158 (ix.toNat))).toNat))), pw_i 7, .ref 165]) rfl (fun _ => rfl) ?_
        refine pw_ald2 h28I E (c := 140) (pc' := 170) rfl rfl rfl (by decide) rfl (by decide) (by omega) (by omega) rfl (fun hf30a hf30b => ?_)
        refine pw_mul E (pc' := 171) rfl rfl ?_
        refine pw_nm (fun x31 hx31a hx31b => ?_)
        refine pw_add E (pc' := 172) rfl rfl ?_
        refine pw_nm (fun x32 hx32a hx32b => ?_)
        refine pw_ast0 h28I E (c := 149) (pc' := 173) rfl rfl rfl (by decide) rfl (by decide) (by omega) (by omega) rfl (by omega) (by omega) (by omega) (by omega) rfl ?_
        intro h33I h33E
        generalize h33w : pw_w h28 149 (Int.toNat 7) (pw_i x32) = h33 at h33I h33E ⊢
        have h33F := h28F.tr (h33E.wk (W' := [149, 150]) (by first | rfl | simp))
        refine pw_ld E (pc' := 174) (st' := [.ref 141]) rfl (fun _ => rfl) ?_
        refine pw_getR (b := 165) h33I E (c := 125) (k := 36) (pc' := 177) rfl rfl rfl rfl rfl rfl rfl ?_
        refine pw_bip E (pc' := 179) rfl rfl (by decide) ?_
        refine pw_ld E (pc' := 180) (st' := [pw_i k, pw_i 8, .ref 165]) rfl (fun _ => rfl) ?_
        refine pw_ast0 h33I E (c := 149) (pc' := 181) rfl rfl rfl (by decide) rfl (by decide) (by omega) (by omega) rfl (by omega) (by omega) (by omega) (by omega) rfl ?_
        intro h34I h34E
        generalize h34w : pw_w h33 149 (Int.toNat 8) (pw_i k) = h34 at h34I h34E ⊢
        have h34F := h33F.tr (h34E.wk (W' := [149, 150]) (by first | rfl | simp))
        refine pw_ld E (pc' := 182) (st' := [.ref 141]) rfl (fun _ => rfl) ?_
        refine pw_sip E (pc' := 185) rfl rfl (by decide) ?_
        refine pw_ld E (pc' := 186) (st' := [pw_i 5, pw_i 1100, .ref 141]) rfl (fun _ => rfl) ?_
        refine pw_ld E (pc' := 187) (st' := [pw_i ix, pw_i 5, pw_i 1100, .ref 141]) rfl (fun _ => rfl) ?_
        refine pw_add E (pc' := 188) rfl rfl ?_
        refine pw_mul E (pc' := 189) rfl rfl ?_
        refine pw_ld E (pc' := 190) (st' := [.ref 141, pw_i (1100 * (5 + ix)), .ref 141]) rfl (fun _ => rfl) ?_
        refine pw_getR (b := 173) h34I E (c := 125) (k := 46) (pc' := 193) rfl rfl rfl rfl rfl rfl rfl ?_
        refine pw_ld E (pc' := 194) (st' := [pw_i ix, .ref 173, pw_i (1100 * (5 + ix)), .ref 141]) rfl (fun _ => rfl) ?_
        refine pw_ald2 h34I E (c := 157) (pc' := 195) rfl rfl rfl (by decide) rfl (by decide) (by omega) (by omega) rfl (fun hf35a hf35b => ?_)
        refine pw_add E (pc' := 196) rfl rfl ?_
        obtain ⟨f36l, f36h, -⟩ := pw_obj (c := 125) h34I rfl
        refine pw_call (m' := 264) (As := [.ref 141, pw_i ((1100 * (5 + ix)) + (pw_g h34 157 (ix.toNat)))]) (rest := []) (ls'' := [some (.ref 141), some (pw_i ((1100 * (5 + ix)) + (pw_g h34 157 (ix.toNat)))), none, none, none]) (Nat.le_trans (by decide) hd) E rfl (fun _ => pw_iV rfl rfl rfl rfl (pw_cellI f36h rfl)) (rfl : pm_ent 264 = some (2, 5, 12, 0, pmc_264)) rfl rfl (cm_264 (pw_dp hd (by decide)) h34I ((1100 * (5 + ix)) + (pw_g h34 157 (ix.toNat))) (by omega) (by omega) (pw_Wk.of2 I h34F hp0 rfl (by omega) (by omega) (by omega))) ?_
        rintro h37 v38 ⟨h37I, h37E, x39, rfl, hx39a, hx39b⟩
        refine ⟨_, rfl, ?_⟩
        have h37F := h34F.tr (h37E.wk (W' := [149, 150]) (by first | rfl | simp))
        show pw X d h37 282 199 [some (.ref 141), some (pw_i ix), some (pw_i k), some (pw_i tn), some (pw_i ((12 * k) + (pw_g h 158 (ix.toNat))))] [pw_i x39] _
        refine pw_if E (pc' := 206) rfl (by decide) (by omega) (by omega) ?_ ?_
        · intro hc40
          change x39 = (0 : Int) at hc40
          refine pw_ld E (pc' := 207) (st' := [pw_i 0]) rfl (fun _ => rfl) ?_
          refine pw_zret E rfl (by omega) ?_
          exact ⟨h37I, h37F, ⟨_, rfl, by omega, by omega⟩⟩
        · intro hc41
          change ¬ (x39 = (0 : Int)) at hc41
          refine pw_ld E (pc' := 203) (st' := [pw_i 1]) rfl (fun _ => rfl) ?_
          refine pw_goto E (pc' := 207) rfl (by decide) ?_
          refine pw_zret E rfl (by omega) ?_
          exact ⟨h37I, h37F, ⟨_, rfl, by omega, by omega⟩⟩
      · intro hc42
        change ¬ (pw_g h22 136 (((12 * (pw_g h22 132 (k.toNat))) + (pw_g h22 159 (ix.toNat))).toNat) ≤ pw_g h22 133 (k.toNat)) at hc42
        refine pw_ld E (pc' := 141) (st' := [pw_i 1, pw_i 6, .ref 165]) rfl (fun _ => rfl) ?_
        refine pw_goto E (pc' := 145) rfl (by decide) ?_
        refine pw_ast0 h22I E (c := 149) (pc' := 146) rfl rfl rfl (by decide) rfl (by decide) (by omega) (by omega) rfl (by omega) (by omega) (by omega) (by omega) rfl ?_
        intro h43I h43E
        generalize h43w : pw_w h22 149 (Int.toNat 6) (pw_i 1) = h43 at h43I h43E ⊢
        have h43F := h22F.tr (h43E.wk (W' := [149, 150]) (by first | rfl | simp))
        refine pw_ld E (pc' := 147) (st' := [.ref 141]) rfl (fun _ => rfl) ?_
        refine pw_getR (b := 165) h43I E (c := 125) (k := 36) (pc' := 150) rfl rfl rfl rfl rfl rfl rfl ?_
        refine pw_bip E (pc' := 152) rfl rfl (by decide) ?_
        refine pw_bip E (pc' := 154) rfl rfl (by decide) ?_
        refine pw_ld E (pc' := 155) (st' := [.ref 141, pw_i 10, pw_i 7, .ref 165]) rfl (fun _ => rfl) ?_
        refine pw_getR (b := 155) h43I E (c := 125) (k := 19) (pc' := 158) rfl rfl rfl rfl rfl rfl rfl ?_
        refine pw_ld E (pc' := 160) (st' := [pw_i ((12 * k) + (pw_g h 158 (ix.toNat))), .ref 155, pw_i 10, pw_i 7, .ref 165]) rfl (fun _ => rfl) ?_
        refine pw_ald2 h43I E (c := 139) (pc' := 161) rfl rfl rfl (by decide) rfl (by decide) (by omega) (by omega) rfl (fun hf44a hf44b => ?_)
        refine pw_mul E (pc' := 162) rfl rfl ?_
        refine pw_ld E (pc' := 163) (st' := [pw_i tn, pw_i (10 * (pw_g h43 139 (((12 * k) + (pw_g h 158 (ix.toNat))).toNat))), pw_i 7, .ref 165]) rfl (fun _ => rfl) ?_
        refine pw_ld E (pc' := 164) (st' := [.ref 141, pw_i tn, pw_i (10 * (pw_g h43 139 (((12 * k) + (pw_g h 158 (ix.toNat))).toNat))), pw_i 7, .ref 165]) rfl (fun _ => rfl) ?_
        refine pw_getR (b := 156) h43I E (c := 125) (k := 20) (pc' := 167) rfl rfl rfl rfl rfl rfl rfl ?_
        refine pw_ld E (pc' := 169) (st' := [pw_i ((12 * k) + (pw_g h 158 (ix.toNat))), .ref 156, pw_i tn, pw_i (10 * (pw_g h43 139 (((12 * k) + (pw_g h 158 (ix.toNat))).toNat))), pw_i 7, .ref 165]) rfl (fun _ => rfl) ?_
        refine pw_ald2 h43I E (c := 140) (pc' := 170) rfl rfl rfl (by decide) rfl (by decide) (by omega) (by omega) rfl (fun hf45a hf45b => ?_)
        refine pw_mul E (pc' := 171) rfl rfl ?_
        refine pw_nm (fun x46 hx46a hx46b => ?_)
        refine pw_add E (pc' := 172) rfl rfl ?_
        refine pw_nm (fun x47 hx47a hx47b => ?_)
        refine pw_ast0 h43I E (c := 149) (pc' := 173) rfl rfl rfl (by decide) rfl (by decide) (by omega) (by omega) rfl (by omega) (by omega) (by omega) (by omega) rfl ?_
        intro h48I h48E
        generalize h48w : pw_w h43 149 (Int.toNat 7) (pw_i x47) = h48 at h48I h48E ⊢
        have h48F := h43F.tr (h48E.wk (W' := [149, 150]) (by first | rfl | simp))
        refine pw_ld E (pc' := 174) (st' := [.ref 141]) rfl (fun _ => rfl) ?_
        refine pw_getR (b := 165) h48I E (c := 125) (k := 36) (pc' := 177) rfl rfl rfl rfl rfl rfl rfl ?_
        refine pw_bip E (pc' := 179) rfl rfl (by decide) ?_
        refine pw_ld E (pc' := 180) (st' := [pw_i k, pw_i 8, .ref 165]) rfl (fun _ => rfl) ?_
        refine pw_ast0 h48I E (c := 149) (pc' := 181) rfl rfl rfl (by decide) rfl (by decide) (by omega) (by omega) rfl (by omega) (by omega) (by omega) (by omega) rfl ?_
        intro h49I h49E
        generalize h49w : pw_w h48 149 (Int.toNat 8) (pw_i k) = h49 at h49I h49E ⊢
        have h49F := h48F.tr (h49E.wk (W' := [149, 150]) (by first | rfl | simp))
        refine pw_ld E (pc' := 182) (st' := [.ref 141]) rfl (fun _ => rfl) ?_
        refine pw_sip E (pc' := 185) rfl rfl (by decide) ?_
        refine pw_ld E (pc' := 186) (st' := [pw_i 5, pw_i 1100, .ref 141]) rfl (fun _ => rfl) ?_
        refine pw_ld E (pc' := 187) (st' := [pw_i ix, pw_i 5, pw_i 1100, .ref 141]) rfl (fun _ => rfl) ?_
        refine pw_add E (pc' := 188) rfl rfl ?_
        refine pw_mul E (pc' := 189) rfl rfl ?_
        refine pw_ld E (pc' := 190) (st' := [.ref 141, pw_i (1100 * (5 + ix)), .ref 141]) rfl (fun _ => rfl) ?_
        refine pw_getR (b := 173) h49I E (c := 125) (k := 46) (pc' := 193) rfl rfl rfl rfl rfl rfl rfl ?_
        refine pw_ld E (pc' := 194) (st' := [pw_i ix, .ref 173, pw_i (1100 * (5 + ix)), .ref 141]) rfl (fun _ => rfl) ?_
        refine pw_ald2 h49I E (c := 157) (pc' := 195) rfl rfl rfl (by decide) rfl (by decide) (by omega) (by omega) rfl (fun hf50a hf50b => ?_)
        refine pw_add E (pc' := 196) rfl rfl ?_
        obtain ⟨f51l, f51h, -⟩ := pw_obj (c := 125) h49I rfl
        refine pw_call (m' := 264) (As := [.ref 141, pw_i ((1100 * (5 + ix)) + (pw_g h49 157 (ix.toNat)))]) (rest := []) (ls'' := [some (.ref 141), some (pw_i ((1100 * (5 + ix)) + (pw_g h49 157 (ix.toNat)))), none, none, none]) (Nat.le_trans (by decide) hd) E rfl (fun _ => pw_iV rfl rfl rfl rfl (pw_cellI f51h rfl)) (rfl : pm_ent 264 = some (2, 5, 12, 0, pmc_264)) rfl rfl (cm_264 (pw_dp hd (by decide)) h49I ((1100 * (5 + ix)) + (pw_g h49 157 (ix.toNat))) (by omega) (by omega) (pw_Wk.of2 I h49F hp0 rfl (by omega) (by omega) (by omega))) ?_
        rintro h52 v53 ⟨h52I, h52E, x54, rfl, hx54a, hx54b⟩
        refine ⟨_, rfl, ?_⟩
        have h52F := h49F.tr (h52E.wk (W' := [149, 150]) (by first | rfl | simp))
        show pw X d h52 282 199 [some (.ref 141), some (pw_i ix), some (pw_i k), some (pw_i tn), some (pw_i ((12 * k) + (pw_g h 158 (ix.toNat))))] [pw_i x54] _
        refine pw_if E (pc' := 206) rfl (by decide) (by omega) (by omega) ?_ ?_
        · intro hc55
          change x54 = (0 : Int) at hc55
          refine pw_ld E (pc' := 207) (st' := [pw_i 0]) rfl (fun _ => rfl) ?_
          refine pw_zret E rfl (by omega) ?_
          exact ⟨h52I, h52F, ⟨_, rfl, by omega, by omega⟩⟩
        · intro hc56
          change ¬ (x54 = (0 : Int)) at hc56
          refine pw_ld E (pc' := 203) (st' := [pw_i 1]) rfl (fun _ => rfl) ?_
          refine pw_goto E (pc' := 207) rfl (by decide) ?_
          refine pw_zret E rfl (by omega) ?_
          exact ⟨h52I, h52F, ⟨_, rfl, by omega, by omega⟩⟩
    · intro hc57
      change ¬ (pw_g h9 135 (k.toNat) = (0 : Int)) at hc57
      refine pw_ld E (pc' := 75) (st' := [pw_i 1, pw_i 3, .ref 165]) rfl (fun _ => rfl) ?_
      refine pw_goto E (pc' := 79) rfl (by decide) ?_
      refine pw_ast0 h9I E (c := 149) (pc' := 80) rfl rfl rfl (by decide) rfl (by decide) (by omega) (by omega) rfl (by omega) (by omega) (by omega) (by omega) rfl ?_
      intro h58I h58E
      generalize h58w : pw_w h9 149 (Int.toNat 3) (pw_i 1) = h58 at h58I h58E ⊢
      have h58F := h9F.tr (h58E.wk (W' := [149, 150]) (by first | rfl | simp))
      refine pw_ld E (pc' := 81) (st' := [.ref 141]) rfl (fun _ => rfl) ?_
      refine pw_getR (b := 165) h58I E (c := 125) (k := 36) (pc' := 84) rfl rfl rfl rfl rfl rfl rfl ?_
      refine pw_ld E (pc' := 85) (st' := [pw_i 4, .ref 165]) rfl (fun _ => rfl) ?_
      refine pw_ld E (pc' := 86) (st' := [.ref 141, pw_i 4, .ref 165]) rfl (fun _ => rfl) ?_
      refine pw_ld E (pc' := 87) (st' := [pw_i k, .ref 141, pw_i 4, .ref 165]) rfl (fun _ => rfl) ?_
      refine pw_ld E (pc' := 88) (st' := [pw_i 0, pw_i k, .ref 141, pw_i 4, .ref 165]) rfl (fun _ => rfl) ?_
      obtain ⟨f59l, f59h, -⟩ := pw_obj (c := 125) h58I rfl
      refine pw_call (m' := 283) (As := [.ref 141, pw_i k, pw_i 0]) (rest := [pw_i 4, .ref 165]) (ls'' := [some (.ref 141), some (pw_i k), some (pw_i 0), none, none]) (Nat.le_trans (by decide) hd) E rfl (fun _ => pw_iV rfl rfl rfl rfl (pw_cellI f59h rfl)) (rfl : pm_ent 283 = some (3, 5, 12, 0, pmc_283)) rfl rfl (cm_283 (pw_dp hd (by decide)) h58I (k) (by omega) (by omega) (0) (by omega) (by omega)) ?_
      rintro u61 v60 ⟨rfl, x62, rfl, hx62a, hx62b⟩
      refine ⟨_, rfl, ?_⟩
      show pw X d h58 282 91 [some (.ref 141), some (pw_i ix), some (pw_i k), some (pw_i tn), some (pw_i ((12 * k) + (pw_g h 158 (ix.toNat))))] [pw_i x62, pw_i 4, .ref 165] _
      refine pw_ast0 h58I E (c := 149) (pc' := 92) rfl rfl rfl (by decide) rfl (by decide) (by omega) (by omega) rfl (by omega) (by omega) (by omega) (by omega) rfl ?_
      intro h63I h63E
      generalize h63w : pw_w h58 149 (Int.toNat 4) (pw_i x62) = h63 at h63I h63E ⊢
      have h63F := h58F.tr (h63E.wk (W' := [149, 150]) (by first | rfl | simp))
      refine pw_ld E (pc' := 93) (st' := [.ref 141]) rfl (fun _ => rfl) ?_
      refine pw_getR (b := 165) h63I E (c := 125) (k := 36) (pc' := 96) rfl rfl rfl rfl rfl rfl rfl ?_
      refine pw_ld E (pc' := 97) (st' := [pw_i 5, .ref 165]) rfl (fun _ => rfl) ?_
      refine pw_ld E (pc' := 98) (st' := [.ref 141, pw_i 5, .ref 165]) rfl (fun _ => rfl) ?_
      refine pw_ld E (pc' := 99) (st' := [pw_i k, .ref 141, pw_i 5, .ref 165]) rfl (fun _ => rfl) ?_
      refine pw_ld E (pc' := 100) (st' := [pw_i 2, pw_i k, .ref 141, pw_i 5, .ref 165]) rfl (fun _ => rfl) ?_
      obtain ⟨f64l, f64h, -⟩ := pw_obj (c := 125) h63I rfl
      refine pw_call (m' := 283) (As := [.ref 141, pw_i k, pw_i 2]) (rest := [pw_i 5, .ref 165]) (ls'' := [some (.ref 141), some (pw_i k), some (pw_i 2), none, none]) (Nat.le_trans (by decide) hd) E rfl (fun _ => pw_iV rfl rfl rfl rfl (pw_cellI f64h rfl)) (rfl : pm_ent 283 = some (3, 5, 12, 0, pmc_283)) rfl rfl (cm_283 (pw_dp hd (by decide)) h63I (k) (by omega) (by omega) (2) (by omega) (by omega)) ?_
      rintro u66 v65 ⟨rfl, x67, rfl, hx67a, hx67b⟩
      refine ⟨_, rfl, ?_⟩
      show pw X d h63 282 103 [some (.ref 141), some (pw_i ix), some (pw_i k), some (pw_i tn), some (pw_i ((12 * k) + (pw_g h 158 (ix.toNat))))] [pw_i x67, pw_i 5, .ref 165] _
      refine pw_ast0 h63I E (c := 149) (pc' := 104) rfl rfl rfl (by decide) rfl (by decide) (by omega) (by omega) rfl (by omega) (by omega) (by omega) (by omega) rfl ?_
      intro h68I h68E
      generalize h68w : pw_w h63 149 (Int.toNat 5) (pw_i x67) = h68 at h68I h68E ⊢
      have h68F := h63F.tr (h68E.wk (W' := [149, 150]) (by first | rfl | simp))
      refine pw_ld E (pc' := 105) (st' := [.ref 141]) rfl (fun _ => rfl) ?_
      refine pw_getR (b := 165) h68I E (c := 125) (k := 36) (pc' := 108) rfl rfl rfl rfl rfl rfl rfl ?_
      refine pw_bip E (pc' := 110) rfl rfl (by decide) ?_
      refine pw_ld E (pc' := 111) (st' := [.ref 141, pw_i 6, .ref 165]) rfl (fun _ => rfl) ?_
      refine pw_getR (b := 149) h68I E (c := 125) (k := 12) (pc' := 114) rfl rfl rfl rfl rfl rfl rfl ?_
      refine pw_ld E (pc' := 115) (st' := [pw_i k, .ref 149, pw_i 6, .ref 165]) rfl (fun _ => rfl) ?_
      refine pw_ald2 h68I E (c := 133) (pc' := 116) rfl rfl rfl (by decide) rfl (by decide) (by omega) (by omega) rfl (fun hf69a hf69b => ?_)
      refine pw_ld E (pc' := 117) (st' := [.ref 141, pw_i (pw_g h68 133 (k.toNat)), pw_i 6, .ref 165]) rfl (fun _ => rfl) ?_
      refine pw_getR (b := 152) h68I E (c := 125) (k := 16) (pc' := 120) rfl rfl rfl rfl rfl rfl rfl ?_
      refine pw_bip E (pc' := 122) rfl rfl (by decide) ?_
      refine pw_ld E (pc' := 123) (st' := [.ref 141, pw_i 12, .ref 152, pw_i (pw_g h68 133 (k.toNat)), pw_i 6, .ref 165]) rfl (fun _ => rfl) ?_
      refine pw_getR (b := 148) h68I E (c := 125) (k := 11) (pc' := 126) rfl rfl rfl rfl rfl rfl rfl ?_
      refine pw_ld E (pc' := 127) (st' := [pw_i k, .ref 148, pw_i 12, .ref 152, pw_i (pw_g h68 133 (k.toNat)), pw_i 6, .ref 165]) rfl (fun _ => rfl) ?_
      refine pw_ald2 h68I E (c := 132) (pc' := 128) rfl rfl rfl (by decide) rfl (by decide) (by omega) (by omega) rfl (fun hf70a hf70b => ?_)
      refine pw_mul E (pc' := 129) rfl rfl ?_
      refine pw_ld E (pc' := 130) (st' := [.ref 141, pw_i (12 * (pw_g h68 132 (k.toNat))), .ref 152, pw_i (pw_g h68 133 (k.toNat)), pw_i 6, .ref 165]) rfl (fun _ => rfl) ?_
      refine pw_getR (b := 175) h68I E (c := 125) (k := 48) (pc' := 133) rfl rfl rfl rfl rfl rfl rfl ?_
      refine pw_ld E (pc' := 134) (st' := [pw_i ix, .ref 175, pw_i (12 * (pw_g h68 132 (k.toNat))), .ref 152, pw_i (pw_g h68 133 (k.toNat)), pw_i 6, .ref 165]) rfl (fun _ => rfl) ?_
      refine pw_ald2 h68I E (c := 159) (pc' := 135) rfl rfl rfl (by decide) rfl (by decide) (by omega) (by omega) rfl (fun hf71a hf71b => ?_)
      refine pw_add E (pc' := 136) rfl rfl ?_
      refine pw_ald2 h68I E (c := 136) (pc' := 137) rfl rfl rfl (by decide) rfl (by decide) (by omega) (by omega) rfl (fun hf72a hf72b => ?_)
      refine pw_if2 E (pc' := 144) rfl (by decide) (by omega) (by omega) (by omega) (by omega) ?_ ?_
      · intro hc73
        change pw_g h68 136 (((12 * (pw_g h68 132 (k.toNat))) + (pw_g h68 159 (ix.toNat))).toNat) ≤ pw_g h68 133 (k.toNat) at hc73
        refine pw_ld E (pc' := 145) (st' := [pw_i 0, pw_i 6, .ref 165]) rfl (fun _ => rfl) ?_
        refine pw_ast0 h68I E (c := 149) (pc' := 146) rfl rfl rfl (by decide) rfl (by decide) (by omega) (by omega) rfl (by omega) (by omega) (by omega) (by omega) rfl ?_
        intro h74I h74E
        generalize h74w : pw_w h68 149 (Int.toNat 6) (pw_i 0) = h74 at h74I h74E ⊢
        have h74F := h68F.tr (h74E.wk (W' := [149, 150]) (by first | rfl | simp))
        refine pw_ld E (pc' := 147) (st' := [.ref 141]) rfl (fun _ => rfl) ?_
        refine pw_getR (b := 165) h74I E (c := 125) (k := 36) (pc' := 150) rfl rfl rfl rfl rfl rfl rfl ?_
        refine pw_bip E (pc' := 152) rfl rfl (by decide) ?_
        refine pw_bip E (pc' := 154) rfl rfl (by decide) ?_
        refine pw_ld E (pc' := 155) (st' := [.ref 141, pw_i 10, pw_i 7, .ref 165]) rfl (fun _ => rfl) ?_
        refine pw_getR (b := 155) h74I E (c := 125) (k := 19) (pc' := 158) rfl rfl rfl rfl rfl rfl rfl ?_
        refine pw_ld E (pc' := 160) (st' := [pw_i ((12 * k) + (pw_g h 158 (ix.toNat))), .ref 155, pw_i 10, pw_i 7, .ref 165]) rfl (fun _ => rfl) ?_
        refine pw_ald2 h74I E (c := 139) (pc' := 161) rfl rfl rfl (by decide) rfl (by decide) (by omega) (by omega) rfl (fun hf75a hf75b => ?_)
        refine pw_mul E (pc' := 162) rfl rfl ?_
        refine pw_ld E (pc' := 163) (st' := [pw_i tn, pw_i (10 * (pw_g h74 139 (((12 * k) + (pw_g h 158 (ix.toNat))).toNat))), pw_i 7, .ref 165]) rfl (fun _ => rfl) ?_
        refine pw_ld E (pc' := 164) (st' := [.ref 141, pw_i tn, pw_i (10 * (pw_g h74 139 (((12 * k) + (pw_g h 158 (ix.toNat))).toNat))), pw_i 7, .ref 165]) rfl (fun _ => rfl) ?_
        refine pw_getR (b := 156) h74I E (c := 125) (k := 20) (pc' := 167) rfl rfl rfl rfl rfl rfl rfl ?_
        refine pw_ld E (pc' := 169) (st' := [pw_i ((12 * k) + (pw_g h 158 (ix.toNat))), .ref 156, pw_i tn, pw_i (10 * (pw_g h74 139 (((12 * k) + (pw_g h 158 (ix.toNat))).toNat))), pw_i 7, .ref 165]) rfl (fun _ => rfl) ?_
        refine pw_ald2 h74I E (c := 140) (pc' := 170) rfl rfl rfl (by decide) rfl (by decide) (by omega) (by omega) rfl (fun hf76a hf76b => ?_)
        refine pw_mul E (pc' := 171) rfl rfl ?_
        refine pw_nm (fun x77 hx77a hx77b => ?_)
        refine pw_add E (pc' := 172) rfl rfl ?_
        refine pw_nm (fun x78 hx78a hx78b => ?_)
        refine pw_ast0 h74I E (c := 149) (pc' := 173) rfl rfl rfl (by decide) rfl (by decide) (by omega) (by omega) rfl (by omega) (by omega) (by omega) (by omega) rfl ?_
        intro h79I h79E
        generalize h79w : pw_w h74 149 (Int.toNat 7) (pw_i x78) = h79 at h79I h79E ⊢
        have h79F := h74F.tr (h79E.wk (W' := [149, 150]) (by first | rfl | simp))
        refine pw_ld E (pc' := 174) (st' := [.ref 141]) rfl (fun _ => rfl) ?_
        refine pw_getR (b := 165) h79I E (c := 125) (k := 36) (pc' := 177) rfl rfl rfl rfl rfl rfl rfl ?_
        refine pw_bip E (pc' := 179) rfl rfl (by decide) ?_
        refine pw_ld E (pc' := 180) (st' := [pw_i k, pw_i 8, .ref 165]) rfl (fun _ => rfl) ?_
        refine pw_ast0 h79I E (c := 149) (pc' := 181) rfl rfl rfl (by decide) rfl (by decide) (by omega) (by omega) rfl (by omega) (by omega) (by omega) (by omega) rfl ?_
        intro h80I h80E
        generalize h80w : pw_w h79 149 (Int.toNat 8) (pw_i k) = h80 at h80I h80E ⊢
        have h80F := h79F.tr (h80E.wk (W' := [149, 150]) (by first | rfl | simp))
        refine pw_ld E (pc' := 182) (st' := [.ref 141]) rfl (fun _ => rfl) ?_
        refine pw_sip E (pc' := 185) rfl rfl (by decide) ?_
        refine pw_ld E (pc' := 186) (st' := [pw_i 5, pw_i 1100, .ref 141]) rfl (fun _ => rfl) ?_
        refine pw_ld E (pc' := 187) (st' := [pw_i ix, pw_i 5, pw_i 1100, .ref 141]) rfl (fun _ => rfl) ?_
        refine pw_add E (pc' := 188) rfl rfl ?_
        refine pw_mul E (pc' := 189) rfl rfl ?_
        refine pw_ld E (pc' := 190) (st' := [.ref 141, pw_i (1100 * (5 + ix)), .ref 141]) rfl (fun _ => rfl) ?_
        refine pw_getR (b := 173) h80I E (c := 125) (k := 46) (pc' := 193) rfl rfl rfl rfl rfl rfl rfl ?_
        refine pw_ld E (pc' := 194) (st' := [pw_i ix, .ref 173, pw_i (1100 * (5 + ix)), .ref 141]) rfl (fun _ => rfl) ?_
        refine pw_ald2 h80I E (c := 157) (pc' := 195) rfl rfl rfl (by decide) rfl (by decide) (by omega) (by omega) rfl (fun hf81a hf81b => ?_)
        refine pw_add E (pc' := 196) rfl rfl ?_
        obtain ⟨f82l, f82h, -⟩ := pw_obj (c := 125) h80I rfl
        refine pw_call (m' := 264) (As := [.ref 141, pw_i ((1100 * (5 + ix)) + (pw_g h80 157 (ix.toNat)))]) (rest := []) (ls'' := [some (.ref 141), some (pw_i ((1100 * (5 + ix)) + (pw_g h80 157 (ix.toNat)))), none, none, none]) (Nat.le_trans (by decide) hd) E rfl (fun _ => pw_iV rfl rfl rfl rfl (pw_cellI f82h rfl)) (rfl : pm_ent 264 = some (2, 5, 12, 0, pmc_264)) rfl rfl (cm_264 (pw_dp hd (by decide)) h80I ((1100 * (5 + ix)) + (pw_g h80 157 (ix.toNat))) (by omega) (by omega) (pw_Wk.of2 I h80F hp0 rfl (by omega) (by omega) (by omega))) ?_
        rintro h83 v84 ⟨h83I, h83E, x85, rfl, hx85a, hx85b⟩
        refine ⟨_, rfl, ?_⟩
        have h83F := h80F.tr (h83E.wk (W' := [149, 150]) (by first | rfl | simp))
        show pw X d h83 282 199 [some (.ref 141), some (pw_i ix), some (pw_i k), some (pw_i tn), some (pw_i ((12 * k) + (pw_g h 158 (ix.toNat))))] [pw_i x85] _
        refine pw_if E (pc' := 206) rfl (by decide) (by omega) (by omega) ?_ ?_
        · intro hc86
          change x85 = (0 : Int) at hc86
          refine pw_ld E (pc' := 207) (st' := [pw_i 0]) rfl (fun _ => rfl) ?_
          refine pw_zret E rfl (by omega) ?_
          exact ⟨h83I, h83F, ⟨_, rfl, by omega, by omega⟩⟩
        · intro hc87
          change ¬ (x85 = (0 : Int)) at hc87
          refine pw_ld E (pc' := 203) (st' := [pw_i 1]) rfl (fun _ => rfl) ?_
          refine pw_goto E (pc' := 207) rfl (by decide) ?_
          refine pw_zret E rfl (by omega) ?_
          exact ⟨h83I, h83F, ⟨_, rfl, by omega, by omega⟩⟩
      · intro hc88
        change ¬ (pw_g h68 136 (((12 * (pw_g h68 132 (k.toNat))) + (pw_g h68 159 (ix.toNat))).toNat) ≤ pw_g h68 133 (k.toNat)) at hc88
        refine pw_ld E (pc' := 141) (st' := [pw_i 1, pw_i 6, .ref 165]) rfl (fun _ => rfl) ?_
        refine pw_goto E (pc' := 145) rfl (by decide) ?_
        refine pw_ast0 h68I E (c := 149) (pc' := 146) rfl rfl rfl (by decide) rfl (by decide) (by omega) (by omega) rfl (by omega) (by omega) (by omega) (by omega) rfl ?_
        intro h89I h89E
        generalize h89w : pw_w h68 149 (Int.toNat 6) (pw_i 1) = h89 at h89I h89E ⊢
        have h89F := h68F.tr (h89E.wk (W' := [149, 150]) (by first | rfl | simp))
        refine pw_ld E (pc' := 147) (st' := [.ref 141]) rfl (fun _ => rfl) ?_
        refine pw_getR (b := 165) h89I E (c := 125) (k := 36) (pc' := 150) rfl rfl rfl rfl rfl rfl rfl ?_
        refine pw_bip E (pc' := 152) rfl rfl (by decide) ?_
        refine pw_bip E (pc' := 154) rfl rfl (by decide) ?_
        refine pw_ld E (pc' := 155) (st' := [.ref 141, pw_i 10, pw_i 7, .ref 165]) rfl (fun _ => rfl) ?_
        refine pw_getR (b := 155) h89I E (c := 125) (k := 19) (pc' := 158) rfl rfl rfl rfl rfl rfl rfl ?_
        refine pw_ld E (pc' := 160) (st' := [pw_i ((12 * k) + (pw_g h 158 (ix.toNat))), .ref 155, pw_i 10, pw_i 7, .ref 165]) rfl (fun _ => rfl) ?_
        refine pw_ald2 h89I E (c := 139) (pc' := 161) rfl rfl rfl (by decide) rfl (by decide) (by omega) (by omega) rfl (fun hf90a hf90b => ?_)
        refine pw_mul E (pc' := 162) rfl rfl ?_
        refine pw_ld E (pc' := 163) (st' := [pw_i tn, pw_i (10 * (pw_g h89 139 (((12 * k) + (pw_g h 158 (ix.toNat))).toNat))), pw_i 7, .ref 165]) rfl (fun _ => rfl) ?_
        refine pw_ld E (pc' := 164) (st' := [.ref 141, pw_i tn, pw_i (10 * (pw_g h89 139 (((12 * k) + (pw_g h 158 (ix.toNat))).toNat))), pw_i 7, .ref 165]) rfl (fun _ => rfl) ?_
        refine pw_getR (b := 156) h89I E (c := 125) (k := 20) (pc' := 167) rfl rfl rfl rfl rfl rfl rfl ?_
        refine pw_ld E (pc' := 169) (st' := [pw_i ((12 * k) + (pw_g h 158 (ix.toNat))), .ref 156, pw_i tn, pw_i (10 * (pw_g h89 139 (((12 * k) + (pw_g h 158 (ix.toNat))).toNat))), pw_i 7, .ref 165]) rfl (fun _ => rfl) ?_
        refine pw_ald2 h89I E (c := 140) (pc' := 170) rfl rfl rfl (by decide) rfl (by decide) (by omega) (by omega) rfl (fun hf91a hf91b => ?_)
        refine pw_mul E (pc' := 171) rfl rfl ?_
        refine pw_nm (fun x92 hx92a hx92b => ?_)
        refine pw_add E (pc' := 172) rfl rfl ?_
        refine pw_nm (fun x93 hx93a hx93b => ?_)
        refine pw_ast0 h89I E (c := 149) (pc' := 173) rfl rfl rfl (by decide) rfl (by decide) (by omega) (by omega) rfl (by omega) (by omega) (by omega) (by omega) rfl ?_
        intro h94I h94E
        generalize h94w : pw_w h89 149 (Int.toNat 7) (pw_i x93) = h94 at h94I h94E ⊢
        have h94F := h89F.tr (h94E.wk (W' := [149, 150]) (by first | rfl | simp))
        refine pw_ld E (pc' := 174) (st' := [.ref 141]) rfl (fun _ => rfl) ?_
        refine pw_getR (b := 165) h94I E (c := 125) (k := 36) (pc' := 177) rfl rfl rfl rfl rfl rfl rfl ?_
        refine pw_bip E (pc' := 179) rfl rfl (by decide) ?_
        refine pw_ld E (pc' := 180) (st' := [pw_i k, pw_i 8, .ref 165]) rfl (fun _ => rfl) ?_
        refine pw_ast0 h94I E (c := 149) (pc' := 181) rfl rfl rfl (by decide) rfl (by decide) (by omega) (by omega) rfl (by omega) (by omega) (by omega) (by omega) rfl ?_
        intro h95I h95E
        generalize h95w : pw_w h94 149 (Int.toNat 8) (pw_i k) = h95 at h95I h95E ⊢
        have h95F := h94F.tr (h95E.wk (W' := [149, 150]) (by first | rfl | simp))
        refine pw_ld E (pc' := 182) (st' := [.ref 141]) rfl (fun _ => rfl) ?_
        refine pw_sip E (pc' := 185) rfl rfl (by decide) ?_
        refine pw_ld E (pc' := 186) (st' := [pw_i 5, pw_i 1100, .ref 141]) rfl (fun _ => rfl) ?_
        refine pw_ld E (pc' := 187) (st' := [pw_i ix, pw_i 5, pw_i 1100, .ref 141]) rfl (fun _ => rfl) ?_
        refine pw_add E (pc' := 188) rfl rfl ?_
        refine pw_mul E (pc' := 189) rfl rfl ?_
        refine pw_ld E (pc' := 190) (st' := [.ref 141, pw_i (1100 * (5 + ix)), .ref 141]) rfl (fun _ => rfl) ?_
        refine pw_getR (b := 173) h95I E (c := 125) (k := 46) (pc' := 193) rfl rfl rfl rfl rfl rfl rfl ?_
        refine pw_ld E (pc' := 194) (st' := [pw_i ix, .ref 173, pw_i (1100 * (5 + ix)), .ref 141]) rfl (fun _ => rfl) ?_
        refine pw_ald2 h95I E (c := 157) (pc' := 195) rfl rfl rfl (by decide) rfl (by decide) (by omega) (by omega) rfl (fun hf96a hf96b => ?_)
        refine pw_add E (pc' := 196) rfl rfl ?_
        obtain ⟨f97l, f97h, -⟩ := pw_obj (c := 125) h95I rfl
        refine pw_call (m' := 264) (As := [.ref 141, pw_i ((1100 * (5 + ix)) + (pw_g h95 157 (ix.toNat)))]) (rest := []) (ls'' := [some (.ref 141), some (pw_i ((1100 * (5 + ix)) + (pw_g h95 157 (ix.toNat)))), none, none, none]) (Nat.le_trans (by decide) hd) E rfl (fun _ => pw_iV rfl rfl rfl rfl (pw_cellI f97h rfl)) (rfl : pm_ent 264 = some (2, 5, 12, 0, pmc_264)) rfl rfl (cm_264 (pw_dp hd (by decide)) h95I ((1100 * (5 + ix)) + (pw_g h95 157 (ix.toNat))) (by omega) (by omega) (pw_Wk.of2 I h95F hp0 rfl (by omega) (by omega) (by omega))) ?_
        rintro h98 v99 ⟨h98I, h98E, x100, rfl, hx100a, hx100b⟩
        refine ⟨_, rfl, ?_⟩
        have h98F := h95F.tr (h98E.wk (W' := [149, 150]) (by first | rfl | simp))
        show pw X d h98 282 199 [some (.ref 141), some (pw_i ix), some (pw_i k), some (pw_i tn), some (pw_i ((12 * k) + (pw_g h 158 (ix.toNat))))] [pw_i x100] _
        refine pw_if E (pc' := 206) rfl (by decide) (by omega) (by omega) ?_ ?_
        · intro hc101
          change x100 = (0 : Int) at hc101
          refine pw_ld E (pc' := 207) (st' := [pw_i 0]) rfl (fun _ => rfl) ?_
          refine pw_zret E rfl (by omega) ?_
          exact ⟨h98I, h98F, ⟨_, rfl, by omega, by omega⟩⟩
        · intro hc102
          change ¬ (x100 = (0 : Int)) at hc102
          refine pw_ld E (pc' := 203) (st' := [pw_i 1]) rfl (fun _ => rfl) ?_
          refine pw_goto E (pc' := 207) rfl (by decide) ?_
          refine pw_zret E rfl (by omega) ?_
          exact ⟨h98I, h98F, ⟨_, rfl, by omega, by omega⟩⟩
  · intro hc103
    change ¬ ((0 : Int) ≤ pw_g h 157 (ix.toNat)) at hc103
    refine pw_ld E (pc' := 10) (st' := [pw_i 1]) rfl (fun _ => rfl) ?_
    refine pw_zret E rfl (by omega) ?_
    exact ⟨I, E0, ⟨_, rfl, by omega, by omega⟩⟩
set_option maxHeartbeats 4000000 in
theorem cm_280 {X : List (Nat × List Value)} {d : Nat} {h : pm_H} (hd : 4 ≤ d) (I : pw_I h) (ix : Int) (hix1 : (-2147483648) ≤ ix) (hix2 : ix ≤ 2147483647) (k : Int) (hk1 : (-2147483648) ≤ k) (hk2 : k ≤ 2147483647) (hp0 : pw_K h) : pw X d h 280 0 [some (.ref 141), some (pw_i ix), some (pw_i k)] [] (fun h' v => pw_I h' ∧ pw_E [125, 149, 150] h h' ∧ ∃ a : Int, v = .inl (some (pw_i a)) ∧ (-2147483648) ≤ a ∧ a ≤ 2147483647) := by
  have E : pm_ent 280 = some (3, 3, 12, 0, pmc_280) := rfl
  have E0 : pw_E [125, 149, 150] h h := pw_E.rf _ _
  refine pw_ld E (pc' := 1) (st' := [.ref 141]) rfl (fun _ => rfl) ?_
  refine pw_ld E (pc' := 2) (st' := [pw_i 0, .ref 141]) rfl (fun _ => rfl) ?_
  refine pw_putI I E (c := 125) (k := 0) (pc' := 5) rfl rfl rfl rfl (by omega) (by omega) (by omega) (by omega) rfl rfl ?_
  intro h1I h1E
  generalize h1w : pw_w h 125 0 (pw_i 0) = h1 at h1I h1E ⊢
  have h1F := E0.tr (h1E.wk (W' := [125, 149, 150]) (by first | rfl | simp))
  refine pw_ld E (pc' := 6) (st' := [pw_i ix]) rfl (fun _ => rfl) ?_
  refine pw_call (m' := 278) (As := [pw_i ix]) (rest := []) (ls'' := [some (pw_i ix)]) (Nat.le_trans (by decide) hd) E rfl (fun _ => pw_iS rfl rfl rfl) (rfl : pm_ent 278 = some (1, 1, 12, 1, pmc_278)) rfl rfl (cm_278 (pw_dp hd (by decide)) h1I (ix) (by omega) (by omega)) ?_
  rintro u3 v2 ⟨rfl, x4, rfl, hx4a, hx4b, hx4r⟩
  refine ⟨_, rfl, ?_⟩
  show pw X d h1 280 9 [some (.ref 141), some (pw_i ix), some (pw_i k)] [pw_i x4] _
  change (x4 = 1 ∧ 0 ≤ ix ∧ ix ≤ 3) ∨ (x4 = 0 ∧ ¬ (0 ≤ ix ∧ ix ≤ 3)) at hx4r
  rcases (by omega : x4 = 1 ∨ x4 = 0) with hb5 | hb5
  · skip
    refine pw_if E (pc' := 42) rfl (by decide) (by omega) (by omega) ?_ ?_
    · intro hc6
      change x4 = (0 : Int) at hc6
      exfalso; omega
    · intro hc7
      change ¬ (x4 = (0 : Int)) at hc7
      refine pw_ld E (pc' := 13) (st' := [.ref 141]) rfl (fun _ => rfl) ?_
      refine pw_ld E (pc' := 14) (st' := [pw_i k, .ref 141]) rfl (fun _ => rfl) ?_
      obtain ⟨f8l, f8h, -⟩ := pw_obj (c := 125) h1I rfl
      refine pw_call (m' := 204) (As := [.ref 141, pw_i k]) (rest := []) (ls'' := [some (.ref 141), some (pw_i k)]) (Nat.le_trans (by decide) hd) E rfl (fun _ => pw_iV rfl rfl rfl rfl (pw_cellI f8h rfl)) (rfl : pm_ent 204 = some (2, 2, 12, 1, pmc_204)) rfl rfl (cm_204 (pw_dp hd (by decide)) h1I (k) (by omega) (by omega)) ?_
      rintro u10 v9 ⟨rfl, x11, rfl, hx11a, hx11b, hx11r⟩
      refine ⟨_, rfl, ?_⟩
      show pw X d h1 280 17 [some (.ref 141), some (pw_i ix), some (pw_i k)] [pw_i x11] _
      change (x11 = 1 ∧ 0 ≤ k ∧ k ≤ 23) ∨ x11 = 0 at hx11r
      rcases (by omega : x11 = 1 ∨ x11 = 0) with hb12 | hb12
      · skip
        refine pw_if E (pc' := 42) rfl (by decide) (by omega) (by omega) ?_ ?_
        · intro hc13
          change x11 = (0 : Int) at hc13
          exfalso; omega
        · intro hc14
          change ¬ (x11 = (0 : Int)) at hc14
          refine pw_ld E (pc' := 21) (st' := [.ref 141]) rfl (fun _ => rfl) ?_
          refine pw_ld E (pc' := 22) (st' := [pw_i ix, .ref 141]) rfl (fun _ => rfl) ?_
          refine pw_ld E (pc' := 23) (st' := [pw_i k, pw_i ix, .ref 141]) rfl (fun _ => rfl) ?_
          refine pw_ld E (pc' := 24) (st' := [.ref 141, pw_i k, pw_i ix, .ref 141]) rfl (fun _ => rfl) ?_
          refine pw_ld E (pc' := 25) (st' := [pw_i ix, .ref 141, pw_i k, pw_i ix, .ref 141]) rfl (fun _ => rfl) ?_
          obtain ⟨f15l, f15h, -⟩ := pw_obj (c := 125) h1I rfl
          refine pw_call (m' := 281) (As := [.ref 141, pw_i ix]) (rest := [pw_i k, pw_i ix, .ref 141]) (ls'' := [some (.ref 141), some (pw_i ix)]) (Nat.le_trans (by decide) hd) E rfl (fun _ => pw_iV rfl rfl rfl rfl (pw_cellI f15h rfl)) (rfl : pm_ent 281 = some (2, 2, 12, 0, pmc_281)) rfl rfl (cm_281 (pw_dp hd (by decide)) h1I (ix) (by omega) (by omega)) ?_
          rintro u17 v16 ⟨rfl, x18, rfl, hx18a, hx18b⟩
          refine ⟨_, rfl, ?_⟩
          show pw X d h1 280 28 [some (.ref 141), some (pw_i ix), some (pw_i k)] [pw_i x18, pw_i k, pw_i ix, .ref 141] _
          obtain ⟨f19l, f19h, -⟩ := pw_obj (c := 125) h1I rfl
          refine pw_call (m' := 282) (As := [.ref 141, pw_i ix, pw_i k, pw_i x18]) (rest := []) (ls'' := [some (.ref 141), some (pw_i ix), some (pw_i k), some (pw_i x18), none]) (Nat.le_trans (by decide) hd) E rfl (fun _ => pw_iV rfl rfl rfl rfl (pw_cellI f19h rfl)) (rfl : pm_ent 282 = some (4, 5, 12, 1, pmc_282)) rfl rfl (cm_282 (pw_dp hd (by decide)) h1I (ix) (by omega) (by omega) (k) (by omega) (by omega) (x18) (by omega) (by omega) (pw_KE I h1F hp0 rfl)) ?_
          rintro h20 v21 ⟨h20I, h20E, x22, rfl, hx22a, hx22b⟩
          refine ⟨_, rfl, ?_⟩
          have h20F := h1F.tr (h20E.wk (W' := [125, 149, 150]) (by first | rfl | simp))
          show pw X d h20 280 31 [some (.ref 141), some (pw_i ix), some (pw_i k)] [pw_i x22] _
          refine pw_if E (pc' := 38) rfl (by decide) (by omega) (by omega) ?_ ?_
          · intro hc23
            change x22 = (0 : Int) at hc23
            refine pw_ld E (pc' := 39) (st' := [pw_i 0]) rfl (fun _ => rfl) ?_
            refine pw_goto E (pc' := 43) rfl (by decide) ?_
            refine pw_iret E rfl ?_
            exact ⟨h20I, h20F, ⟨_, rfl, by omega, by omega⟩⟩
          · intro hc24
            change ¬ (x22 = (0 : Int)) at hc24
            refine pw_ld E (pc' := 35) (st' := [pw_i 1]) rfl (fun _ => rfl) ?_
            refine pw_goto E (pc' := 43) rfl (by decide) ?_
            refine pw_iret E rfl ?_
            exact ⟨h20I, h20F, ⟨_, rfl, by omega, by omega⟩⟩
      · skip
        refine pw_if E (pc' := 42) rfl (by decide) (by omega) (by omega) ?_ ?_
        · intro hc26
          change x11 = (0 : Int) at hc26
          refine pw_ld E (pc' := 43) (st' := [pw_i ((-1))]) rfl (fun _ => rfl) ?_
          refine pw_iret E rfl ?_
          exact ⟨h1I, h1F, ⟨_, rfl, by omega, by omega⟩⟩
        · intro hc27
          change ¬ (x11 = (0 : Int)) at hc27
          exfalso; omega
  · skip
    refine pw_if E (pc' := 42) rfl (by decide) (by omega) (by omega) ?_ ?_
    · intro hc29
      change x4 = (0 : Int) at hc29
      refine pw_ld E (pc' := 43) (st' := [pw_i ((-1))]) rfl (fun _ => rfl) ?_
      refine pw_iret E rfl ?_
      exact ⟨h1I, h1F, ⟨_, rfl, by omega, by omega⟩⟩
    · intro hc30
      change ¬ (x4 = (0 : Int)) at hc30
      exfalso; omega
set_option maxHeartbeats 4000000 in
theorem cm_285 {X : List (Nat × List Value)} {d : Nat} {h : pm_H} (hd : 4 ≤ d) (I : pw_I h) (ix : Int) (hix1 : 0 ≤ ix) (hix2 : ix ≤ 3) (tn : Int) (htn1 : (-2147483648) ≤ tn) (htn2 : tn ≤ 2147483647) (hp0 : pw_K h) : pw X d h 285 0 [some (.ref 141), some (pw_i ix), some (pw_i tn), none, none, none] [] (fun h' v => pw_I h' ∧ pw_E [125, 149, 150] h h' ∧ ∃ a : Int, v = .inl (some (pw_i a)) ∧ 0 ≤ a ∧ a ≤ 1 ∧ ((a = 1 ∧ 1 ≤ pw_gm h' 125 25 ∧ pw_gm h' 125 25 ≤ 576) ∨ a = 0)) := by
  have E : pm_ent 285 = some (3, 6, 12, 1, pmc_285) := rfl
  have E0 : pw_E [125, 149, 150] h h := pw_E.rf _ _
  refine pw_ld E (pc' := 1) (st' := [.ref 141]) rfl (fun _ => rfl) ?_
  obtain ⟨f1l, f1h, -⟩ := pw_obj (c := 125) I rfl
  refine pw_call (m' := 219) (As := [.ref 141]) (rest := []) (ls'' := [some (.ref 141)]) (Nat.le_trans (by decide) hd) E rfl (fun _ => pw_iV rfl rfl rfl rfl (pw_cellI f1h rfl)) (rfl : pm_ent 219 = some (1, 1, 12, 4, pmc_219)) rfl rfl (cm_219 (pw_dp hd (by decide)) I ) ?_
  rintro h2 v3 ⟨h2I, h2E, hq4, rfl⟩
  refine ⟨_, rfl, ?_⟩
  have h2F := E0.tr (h2E.wk (W' := [125, 149, 150]) (by first | rfl | simp))
  show pw X d h2 285 4 [some (.ref 141), some (pw_i ix), some (pw_i tn), none, none, none] [] _
  refine pw_ld E (pc' := 5) (st' := [pw_i 0]) rfl (fun _ => rfl) ?_
  refine pw_istn E (pc' := 6) (ls' := [some (.ref 141), some (pw_i ix), some (pw_i tn), some (pw_i 0), none, none]) rfl rfl rfl rfl ?_
  have L6 : ∀ (n6 : Nat) (k6_3 : Int) (k6_4 : Option Value) (k6_5 : Option Value) (gh6 : pm_H), pw_I gh6 → pw_E [125, 149, 150] h gh6 → 0 ≤ k6_3 → k6_3 ≤ 24 → pw_gm gh6 125 27 + pw_gm gh6 125 29 ≤ k6_3 → 0 ≤ pw_gm gh6 125 27 → 0 ≤ pw_gm gh6 125 29 → (24 - k6_3).toNat = n6 → pw X d gh6 285 6 [some (.ref 141), some (pw_i ix), some (pw_i tn), some (pw_i k6_3), k6_4, k6_5] [] (fun h' v => pw_I h' ∧ pw_E [125, 149, 150] h h' ∧ ∃ a : Int, v = .inl (some (pw_i a)) ∧ 0 ≤ a ∧ a ≤ 1 ∧ ((a = 1 ∧ 1 ≤ pw_gm h' 125 25 ∧ pw_gm h' 125 25 ≤ 576) ∨ a = 0)) := by
    intro n6
    induction n6 using Nat.strongRecOn with
    | ind n6 ih6 =>
      intro k6_3 k6_4 k6_5 gh6 I6 E6 k6_3a k6_3b hx6_0 hx6_1 hx6_2 hm6
      refine pw_ld E (pc' := 7) (st' := [pw_i k6_3]) rfl (fun _ => rfl) ?_
      refine pw_bip E (pc' := 9) rfl rfl (by decide) ?_
      refine pw_if2 E (pc' := 129) rfl (by decide) (by omega) (by omega) (by decide) (by decide) ?_ ?_
      · intro hc5
        change (24 : Int) ≤ k6_3 at hc5
        refine pw_ld E (pc' := 130) (st' := [.ref 141]) rfl (fun _ => rfl) ?_
        refine pw_getR (b := 174) I6 E (c := 125) (k := 47) (pc' := 133) rfl rfl rfl rfl rfl rfl rfl ?_
        refine pw_ld E (pc' := 134) (st' := [pw_i ix, .ref 174]) rfl (fun _ => rfl) ?_
        refine pw_ald2 I6 E (c := 158) (pc' := 135) rfl rfl rfl (by decide) rfl (by decide) (by omega) (by omega) rfl (fun hf6a hf6b => ?_)
        refine pw_ld E (pc' := 136) (st' := [.ref 141, pw_i (pw_g gh6 158 (ix.toNat))]) rfl (fun _ => rfl) ?_
        refine pw_getR (b := 175) I6 E (c := 125) (k := 48) (pc' := 139) rfl rfl rfl rfl rfl rfl rfl ?_
        refine pw_ld E (pc' := 140) (st' := [pw_i ix, .ref 175, pw_i (pw_g gh6 158 (ix.toNat))]) rfl (fun _ => rfl) ?_
        refine pw_ald2 I6 E (c := 159) (pc' := 141) rfl rfl rfl (by decide) rfl (by decide) (by omega) (by omega) rfl (fun hf7a hf7b => ?_)
        refine pw_if2 E (pc' := 155) rfl (by decide) (by omega) (by omega) (by omega) (by omega) ?_ ?_
        · intro hc8
          change pw_g gh6 158 (ix.toNat) = pw_g gh6 159 (ix.toNat) at hc8
          refine pw_ld E (pc' := 156) (st' := [pw_i 0]) rfl (fun _ => rfl) ?_
          refine pw_zret E rfl (by omega) ?_
          exact ⟨I6, E6, ⟨_, rfl, by omega, by omega, by omega⟩⟩
        · intro hc9
          change ¬ (pw_g gh6 158 (ix.toNat) = pw_g gh6 159 (ix.toNat)) at hc9
          refine pw_ld E (pc' := 145) (st' := [.ref 141]) rfl (fun _ => rfl) ?_
          obtain ⟨f10l, f10h, -⟩ := pw_obj (c := 125) I6 rfl
          refine pw_call (m' := 221) (As := [.ref 141]) (rest := []) (ls'' := [some (.ref 141)]) (Nat.le_trans (by decide) hd) E rfl (fun _ => pw_iV rfl rfl rfl rfl (pw_cellI f10h rfl)) (rfl : pm_ent 221 = some (1, 1, 12, 1, pmc_221)) rfl rfl (cm_221 (pw_dp hd (by decide)) I6 ) ?_
          rintro h11 v12 ⟨h11I, h11E, x13, rfl, hx13a, hx13b, hx13r⟩
          refine ⟨_, rfl, ?_⟩
          have h11F := E6.tr (h11E.wk (W' := [125, 149, 150]) (by first | rfl | simp))
          show pw X d h11 285 148 [some (.ref 141), some (pw_i ix), some (pw_i tn), some (pw_i k6_3), k6_4, k6_5] [pw_i x13] _
          change (x13 = 1 ∧ 1 ≤ pw_gm h11 125 25 ∧ pw_gm h11 125 25 ≤ 576) ∨ x13 = 0 at hx13r
          rcases (by omega : x13 = 1 ∨ x13 = 0) with hb14 | hb14
          · skip
            refine pw_if E (pc' := 155) rfl (by decide) (by omega) (by omega) ?_ ?_
            · intro hc15
              change x13 = (0 : Int) at hc15
              exfalso; omega
            · intro hc16
              change ¬ (x13 = (0 : Int)) at hc16
              refine pw_ld E (pc' := 152) (st' := [pw_i 1]) rfl (fun _ => rfl) ?_
              refine pw_goto E (pc' := 156) rfl (by decide) ?_
              refine pw_zret E rfl (by omega) ?_
              exact ⟨h11I, h11F, ⟨_, rfl, by omega, by omega, by omega⟩⟩
          · skip
            refine pw_if E (pc' := 155) rfl (by decide) (by omega) (by omega) ?_ ?_
            · intro hc18
              change x13 = (0 : Int) at hc18
              refine pw_ld E (pc' := 156) (st' := [pw_i 0]) rfl (fun _ => rfl) ?_
              refine pw_zret E rfl (by omega) ?_
              exact ⟨h11I, h11F, ⟨_, rfl, by omega, by omega, by omega⟩⟩
            · intro hc19
              change ¬ (x13 = (0 : Int)) at hc19
              exfalso; omega
      · intro hc20
        change ¬ ((24 : Int) ≤ k6_3) at hc20
        refine pw_ld E (pc' := 13) (st' := [.ref 141]) rfl (fun _ => rfl) ?_
        refine pw_ld E (pc' := 14) (st' := [pw_i k6_3, .ref 141]) rfl (fun _ => rfl) ?_
        refine pw_ld E (pc' := 15) (st' := [.ref 141, pw_i k6_3, .ref 141]) rfl (fun _ => rfl) ?_
        refine pw_getR (b := 174) I6 E (c := 125) (k := 47) (pc' := 18) rfl rfl rfl rfl rfl rfl rfl ?_
        refine pw_ld E (pc' := 19) (st' := [pw_i ix, .ref 174, pw_i k6_3, .ref 141]) rfl (fun _ => rfl) ?_
        refine pw_ald2 I6 E (c := 158) (pc' := 20) rfl rfl rfl (by decide) rfl (by decide) (by omega) (by omega) rfl (fun hf21a hf21b => ?_)
        refine pw_ld E (pc' := 21) (st' := [.ref 141, pw_i (pw_g gh6 158 (ix.toNat)), pw_i k6_3, .ref 141]) rfl (fun _ => rfl) ?_
        refine pw_getR (b := 175) I6 E (c := 125) (k := 48) (pc' := 24) rfl rfl rfl rfl rfl rfl rfl ?_
        refine pw_ld E (pc' := 25) (st' := [pw_i ix, .ref 175, pw_i (pw_g gh6 158 (ix.toNat)), pw_i k6_3, .ref 141]) rfl (fun _ => rfl) ?_
        refine pw_ald2 I6 E (c := 159) (pc' := 26) rfl rfl rfl (by decide) rfl (by decide) (by omega) (by omega) rfl (fun hf22a hf22b => ?_)
        obtain ⟨f23l, f23h, -⟩ := pw_obj (c := 125) I6 rfl
        refine pw_call (m' := 214) (As := [.ref 141, pw_i k6_3, pw_i (pw_g gh6 158 (ix.toNat)), pw_i (pw_g gh6 159 (ix.toNat))]) (rest := []) (ls'' := [some (.ref 141), some (pw_i k6_3), some (pw_i (pw_g gh6 158 (ix.toNat))), some (pw_i (pw_g gh6 159 (ix.toNat)))]) (Nat.le_trans (by decide) hd) E rfl (fun _ => pw_iV rfl rfl rfl rfl (pw_cellI f23h rfl)) (rfl : pm_ent 214 = some (4, 4, 12, 1, pmc_214)) rfl rfl (cm_214 (pw_dp hd (by decide)) I6 (k6_3) (by omega) (by omega) (pw_g gh6 158 (ix.toNat)) (by omega) (by omega) (pw_g gh6 159 (ix.toNat)) (by omega) (by omega)) ?_
        rintro u25 v24 ⟨rfl, x26, rfl, hx26a, hx26b⟩
        refine ⟨_, rfl, ?_⟩
        show pw X d gh6 285 29 [some (.ref 141), some (pw_i ix), some (pw_i tn), some (pw_i k6_3), k6_4, k6_5] [pw_i x26] _
        refine pw_if E (pc' := 123) rfl (by decide) (by omega) (by omega) ?_ ?_
        · intro hc27
          change x26 = (0 : Int) at hc27
          refine pw_inc E (pc' := 126) (ls' := [some (.ref 141), some (pw_i ix), some (pw_i tn), some (pw_i (k6_3 + 1)), k6_4, k6_5]) rfl rfl rfl rfl ?_
          refine pw_goto E (pc' := 6) rfl (by decide) ?_
          exact ih6 _ (by omega) (k6_3 + 1) k6_4 k6_5 gh6 I6 E6 (by omega) (by omega) (by omega) (by omega) (by omega) rfl
        · intro hc28
          change ¬ (x26 = (0 : Int)) at hc28
          refine pw_ld E (pc' := 33) (st' := [.ref 141]) rfl (fun _ => rfl) ?_
          refine pw_ld E (pc' := 34) (st' := [pw_i ix, .ref 141]) rfl (fun _ => rfl) ?_
          refine pw_ld E (pc' := 35) (st' := [pw_i k6_3, pw_i ix, .ref 141]) rfl (fun _ => rfl) ?_
          refine pw_ld E (pc' := 36) (st' := [pw_i tn, pw_i k6_3, pw_i ix, .ref 141]) rfl (fun _ => rfl) ?_
          obtain ⟨f29l, f29h, -⟩ := pw_obj (c := 125) I6 rfl
          refine pw_call (m' := 282) (As := [.ref 141, pw_i ix, pw_i k6_3, pw_i tn]) (rest := []) (ls'' := [some (.ref 141), some (pw_i ix), some (pw_i k6_3), some (pw_i tn), none]) (Nat.le_trans (by decide) hd) E rfl (fun _ => pw_iV rfl rfl rfl rfl (pw_cellI f29h rfl)) (rfl : pm_ent 282 = some (4, 5, 12, 1, pmc_282)) rfl rfl (cm_282 (pw_dp hd (by decide)) I6 (ix) (by omega) (by omega) (k6_3) (by omega) (by omega) (tn) (by omega) (by omega) (pw_KE I E6 hp0 rfl)) ?_
          rintro h30 v31 ⟨h30I, h30E, x32, rfl, hx32a, hx32b⟩
          refine ⟨_, rfl, ?_⟩
          have h30F := E6.tr (h30E.wk (W' := [125, 149, 150]) (by first | rfl | simp))
          show pw X d h30 285 39 [some (.ref 141), some (pw_i ix), some (pw_i tn), some (pw_i k6_3), k6_4, k6_5] [pw_i x32] _
          refine pw_if E (pc' := 123) rfl (by decide) (by omega) (by omega) ?_ ?_
          · intro hc33
            change x32 = (0 : Int) at hc33
            refine pw_inc E (pc' := 126) (ls' := [some (.ref 141), some (pw_i ix), some (pw_i tn), some (pw_i (k6_3 + 1)), k6_4, k6_5]) rfl rfl rfl rfl ?_
            refine pw_goto E (pc' := 6) rfl (by decide) ?_
            have he34 : pw_gm h30 125 27 = pw_gm gh6 125 27 := pw_Egm (c := 125) I6 h30E rfl rfl 27
            have he35 : pw_gm h30 125 29 = pw_gm gh6 125 29 := pw_Egm (c := 125) I6 h30E rfl rfl 29
            exact ih6 _ (by omega) (k6_3 + 1) k6_4 k6_5 h30 h30I h30F (by omega) (by omega) (by omega) (by omega) (by omega) rfl
          · intro hc36
            change ¬ (x32 = (0 : Int)) at hc36
            refine pw_bip E (pc' := 44) rfl rfl (by decide) ?_
            refine pw_ld E (pc' := 45) (st' := [pw_i k6_3, pw_i 12]) rfl (fun _ => rfl) ?_
            refine pw_mul E (pc' := 46) rfl rfl ?_
            refine pw_ld E (pc' := 47) (st' := [.ref 141, pw_i (12 * k6_3)]) rfl (fun _ => rfl) ?_
            refine pw_getR (b := 174) h30I E (c := 125) (k := 47) (pc' := 50) rfl rfl rfl rfl rfl rfl rfl ?_
            refine pw_ld E (pc' := 51) (st' := [pw_i ix, .ref 174, pw_i (12 * k6_3)]) rfl (fun _ => rfl) ?_
            refine pw_ald2 h30I E (c := 158) (pc' := 52) rfl rfl rfl (by decide) rfl (by decide) (by omega) (by omega) rfl (fun hf37a hf37b => ?_)
            refine pw_add E (pc' := 53) rfl rfl ?_
            refine pw_ist E (pc' := 55) (ls' := [some (.ref 141), some (pw_i ix), some (pw_i tn), some (pw_i k6_3), some (pw_i ((12 * k6_3) + (pw_g h30 158 (ix.toNat)))), k6_5]) rfl rfl rfl rfl ?_
            refine pw_bip E (pc' := 57) rfl rfl (by decide) ?_
            refine pw_ld E (pc' := 58) (st' := [pw_i k6_3, pw_i 12]) rfl (fun _ => rfl) ?_
            refine pw_mul E (pc' := 59) rfl rfl ?_
            refine pw_ld E (pc' := 60) (st' := [.ref 141, pw_i (12 * k6_3)]) rfl (fun _ => rfl) ?_
            refine pw_getR (b := 175) h30I E (c := 125) (k := 48) (pc' := 63) rfl rfl rfl rfl rfl rfl rfl ?_
            refine pw_ld E (pc' := 64) (st' := [pw_i ix, .ref 175, pw_i (12 * k6_3)]) rfl (fun _ => rfl) ?_
            refine pw_ald2 h30I E (c := 159) (pc' := 65) rfl rfl rfl (by decide) rfl (by decide) (by omega) (by omega) rfl (fun hf38a hf38b => ?_)
            refine pw_add E (pc' := 66) rfl rfl ?_
            refine pw_ist E (pc' := 68) (ls' := [some (.ref 141), some (pw_i ix), some (pw_i tn), some (pw_i k6_3), some (pw_i ((12 * k6_3) + (pw_g h30 158 (ix.toNat)))), some (pw_i ((12 * k6_3) + (pw_g h30 159 (ix.toNat))))]) rfl rfl rfl rfl ?_
            refine pw_ld E (pc' := 69) (st' := [.ref 141]) rfl (fun _ => rfl) ?_
            refine pw_ld E (pc' := 70) (st' := [.ref 141, .ref 141]) rfl (fun _ => rfl) ?_
            refine pw_getR (b := 148) h30I E (c := 125) (k := 11) (pc' := 73) rfl rfl rfl rfl rfl rfl rfl ?_
            refine pw_ld E (pc' := 74) (st' := [pw_i k6_3, .ref 148, .ref 141]) rfl (fun _ => rfl) ?_
            refine pw_ald2 h30I E (c := 132) (pc' := 75) rfl rfl rfl (by decide) rfl (by decide) (by omega) (by omega) rfl (fun hf39a hf39b => ?_)
            refine pw_if E (pc' := 82) rfl (by decide) (by omega) (by omega) ?_ ?_
            · intro hc40
              change pw_g h30 132 (k6_3.toNat) ≠ (0 : Int) at hc40
              refine pw_ld E (pc' := 83) (st' := [pw_i 0, .ref 141]) rfl (fun _ => rfl) ?_
              refine pw_bip E (pc' := 85) rfl rfl (by decide) ?_
              refine pw_ld E (pc' := 86) (st' := [.ref 141, pw_i 10, pw_i 0, .ref 141]) rfl (fun _ => rfl) ?_
              refine pw_getR (b := 155) h30I E (c := 125) (k := 19) (pc' := 89) rfl rfl rfl rfl rfl rfl rfl ?_
              refine pw_ld E (pc' := 91) (st' := [pw_i ((12 * k6_3) + (pw_g h30 159 (ix.toNat))), .ref 155, pw_i 10, pw_i 0, .ref 141]) rfl (fun _ => rfl) ?_
              refine pw_ald2 h30I E (c := 139) (pc' := 92) rfl rfl rfl (by decide) rfl (by decide) (by omega) (by omega) rfl (fun hf41a hf41b => ?_)
              refine pw_ld E (pc' := 93) (st' := [.ref 141, pw_i (pw_g h30 139 (((12 * k6_3) + (pw_g h30 159 (ix.toNat))).toNat)), pw_i 10, pw_i 0, .ref 141]) rfl (fun _ => rfl) ?_
              refine pw_getR (b := 155) h30I E (c := 125) (k := 19) (pc' := 96) rfl rfl rfl rfl rfl rfl rfl ?_
              refine pw_ld E (pc' := 98) (st' := [pw_i ((12 * k6_3) + (pw_g h30 158 (ix.toNat))), .ref 155, pw_i (pw_g h30 139 (((12 * k6_3) + (pw_g h30 159 (ix.toNat))).toNat)), pw_i 10, pw_i 0, .ref 141]) rfl (fun _ => rfl) ?_
              refine pw_ald2 h30I E (c := 139) (pc' := 99) rfl rfl rfl (by decide) rfl (by decide) (by omega) (by omega) rfl (fun hf42a hf42b => ?_)
              refine pw_sub E (pc' := 100) rfl rfl ?_
              refine pw_mul E (pc' := 101) rfl rfl ?_
              refine pw_ld E (pc' := 102) (st' := [pw_i tn, pw_i (10 * ((pw_g h30 139 (((12 * k6_3) + (pw_g h30 159 (ix.toNat))).toNat)) - (pw_g h30 139 (((12 * k6_3) + (pw_g h30 158 (ix.toNat))).toNat)))), pw_i 0, .ref 141]) rfl (fun _ => rfl) ?_
              refine pw_ld E (pc' := 103) (st' := [.ref 141, pw_i tn, pw_i (10 * ((pw_g h30 139 (((12 * k6_3) + (pw_g h30 159 (ix.toNat))).toNat)) - (pw_g h30 139 (((12 * k6_3) + (pw_g h30 158 (ix.toNat))).toNat)))), pw_i 0, .ref 141]) rfl (fun _ => rfl) ?_
              refine pw_getR (b := 156) h30I E (c := 125) (k := 20) (pc' := 106) rfl rfl rfl rfl rfl rfl rfl ?_
              refine pw_ld E (pc' := 108) (st' := [pw_i ((12 * k6_3) + (pw_g h30 159 (ix.toNat))), .ref 156, pw_i tn, pw_i (10 * ((pw_g h30 139 (((12 * k6_3) + (pw_g h30 159 (ix.toNat))).toNat)) - (pw_g h30 139 (((12 * k6_3) + (pw_g h30 158 (ix.toNat))).toNat)))), pw_i 0, .ref 141]) rfl (fun _ => rfl) ?_
              refine pw_ald2 h30I E (c := 140) (pc' := 109) rfl rfl rfl (by decide) rfl (by decide) (by omega) (by omega) rfl (fun hf43a hf43b => ?_)
              refine pw_ld E (pc' := 110) (st' := [.ref 141, pw_i (pw_g h30 140 (((12 * k6_3) + (pw_g h30 159 (ix.toNat))).toNat)), pw_i tn, pw_i (10 * ((pw_g h30 139 (((12 * k6_3) + (pw_g h30 159 (ix.toNat))).toNat)) - (pw_g h30 139 (((12 * k6_3) + (pw_g h30 158 (ix.toNat))).toNat)))), pw_i 0, .ref 141]) rfl (fun _ => rfl) ?_
              refine pw_getR (b := 156) h30I E (c := 125) (k := 20) (pc' := 113) rfl rfl rfl rfl rfl rfl rfl ?_
              refine pw_ld E (pc' := 115) (st' := [pw_i ((12 * k6_3) + (pw_g h30 158 (ix.toNat))), .ref 156, pw_i (pw_g h30 140 (((12 * k6_3) + (pw_g h30 159 (ix.toNat))).toNat)), pw_i tn, pw_i (10 * ((pw_g h30 139 (((12 * k6_3) + (pw_g h30 159 (ix.toNat))).toNat)) - (pw_g h30 139 (((12 * k6_3) + (pw_g h30 158 (ix.toNat))).toNat)))), pw_i 0, .ref 141]) rfl (fun _ => rfl) ?_
              refine pw_ald2 h30I E (c := 140) (pc' := 116) rfl rfl rfl (by decide) rfl (by decide) (by omega) (by omega) rfl (fun hf44a hf44b => ?_)
              refine pw_sub E (pc' := 117) rfl rfl ?_
              refine pw_mul E (pc' := 118) rfl rfl ?_
              refine pw_nm (fun x45 hx45a hx45b => ?_)
              refine pw_add E (pc' := 119) rfl rfl ?_
              refine pw_nm (fun x46 hx46a hx46b => ?_)
              refine pw_i2l E (pc' := 120) rfl rfl (by omega) (by omega) ?_
              have he47 : pw_gm h30 125 27 = pw_gm gh6 125 27 := pw_Egm (c := 125) I6 h30E rfl rfl 27
              have he48 : pw_gm h30 125 29 = pw_gm gh6 125 29 := pw_Egm (c := 125) I6 h30E rfl rfl 29
              obtain ⟨f49l, f49h, -⟩ := pw_obj (c := 125) h30I rfl
              refine pw_call (m' := 220) (As := [.ref 141, pw_i 0, .long (Int64.ofInt x46)]) (rest := []) (ls'' := [some (.ref 141), some (pw_i 0), some (.long (Int64.ofInt x46)), none]) (Nat.le_trans (by decide) hd) E rfl (fun _ => pw_iV rfl rfl rfl rfl (pw_cellI f49h rfl)) (rfl : pm_ent 220 = some (3, 4, 12, 4, pmc_220)) rfl rfl (cm_220 (pw_dp hd (by decide)) h30I (0) (by omega) (by omega) (Int64.ofInt x46) (by omega) (by omega) (by omega)) ?_
              rintro h50 v51 ⟨h50I, h50E, hq52, rfl⟩
              refine ⟨_, rfl, ?_⟩
              have h50F := h30F.tr (h50E.wk (W' := [125, 149, 150]) (by first | rfl | simp))
              show pw X d h50 285 123 [some (.ref 141), some (pw_i ix), some (pw_i tn), some (pw_i k6_3), some (pw_i ((12 * k6_3) + (pw_g h30 158 (ix.toNat)))), some (pw_i ((12 * k6_3) + (pw_g h30 159 (ix.toNat))))] [] _
              refine pw_inc E (pc' := 126) (ls' := [some (.ref 141), some (pw_i ix), some (pw_i tn), some (pw_i (k6_3 + 1)), some (pw_i ((12 * k6_3) + (pw_g h30 158 (ix.toNat)))), some (pw_i ((12 * k6_3) + (pw_g h30 159 (ix.toNat))))]) rfl rfl rfl rfl ?_
              refine pw_goto E (pc' := 6) rfl (by decide) ?_
              exact ih6 _ (by omega) (k6_3 + 1) (some (pw_i ((12 * k6_3) + (pw_g h30 158 (ix.toNat))))) (some (pw_i ((12 * k6_3) + (pw_g h30 159 (ix.toNat))))) h50 h50I h50F (by omega) (by omega) (by omega) (by omega) (by omega) rfl
            · intro hc53
              change ¬ (pw_g h30 132 (k6_3.toNat) ≠ (0 : Int)) at hc53
              refine pw_ld E (pc' := 79) (st' := [pw_i 1, .ref 141]) rfl (fun _ => rfl) ?_
              refine pw_goto E (pc' := 83) rfl (by decide) ?_
              refine pw_bip E (pc' := 85) rfl rfl (by decide) ?_
              refine pw_ld E (pc' := 86) (st' := [.ref 141, pw_i 10, pw_i 1, .ref 141]) rfl (fun _ => rfl) ?_
              refine pw_getR (b := 155) h30I E (c := 125) (k := 19) (pc' := 89) rfl rfl rfl rfl rfl rfl rfl ?_
              refine pw_ld E (pc' := 91) (st' := [pw_i ((12 * k6_3) + (pw_g h30 159 (ix.toNat))), .ref 155, pw_i 10, pw_i 1, .ref 141]) rfl (fun _ => rfl) ?_
              refine pw_ald2 h30I E (c := 139) (pc' := 92) rfl rfl rfl (by decide) rfl (by decide) (by omega) (by omega) rfl (fun hf54a hf54b => ?_)
              refine pw_ld E (pc' := 93) (st' := [.ref 141, pw_i (pw_g h30 139 (((12 * k6_3) + (pw_g h30 159 (ix.toNat))).toNat)), pw_i 10, pw_i 1, .ref 141]) rfl (fun _ => rfl) ?_
              refine pw_getR (b := 155) h30I E (c := 125) (k := 19) (pc' := 96) rfl rfl rfl rfl rfl rfl rfl ?_
              refine pw_ld E (pc' := 98) (st' := [pw_i ((12 * k6_3) + (pw_g h30 158 (ix.toNat))), .ref 155, pw_i (pw_g h30 139 (((12 * k6_3) + (pw_g h30 159 (ix.toNat))).toNat)), pw_i 10, pw_i 1, .ref 141]) rfl (fun _ => rfl) ?_
              refine pw_ald2 h30I E (c := 139) (pc' := 99) rfl rfl rfl (by decide) rfl (by decide) (by omega) (by omega) rfl (fun hf55a hf55b => ?_)
              refine pw_sub E (pc' := 100) rfl rfl ?_
              refine pw_mul E (pc' := 101) rfl rfl ?_
              refine pw_ld E (pc' := 102) (st' := [pw_i tn, pw_i (10 * ((pw_g h30 139 (((12 * k6_3) + (pw_g h30 159 (ix.toNat))).toNat)) - (pw_g h30 139 (((12 * k6_3) + (pw_g h30 158 (ix.toNat))).toNat)))), pw_i 1, .ref 141]) rfl (fun _ => rfl) ?_
              refine pw_ld E (pc' := 103) (st' := [.ref 141, pw_i tn, pw_i (10 * ((pw_g h30 139 (((12 * k6_3) + (pw_g h30 159 (ix.toNat))).toNat)) - (pw_g h30 139 (((12 * k6_3) + (pw_g h30 158 (ix.toNat))).toNat)))), pw_i 1, .ref 141]) rfl (fun _ => rfl) ?_
              refine pw_getR (b := 156) h30I E (c := 125) (k := 20) (pc' := 106) rfl rfl rfl rfl rfl rfl rfl ?_
              refine pw_ld E (pc' := 108) (st' := [pw_i ((12 * k6_3) + (pw_g h30 159 (ix.toNat))), .ref 156, pw_i tn, pw_i (10 * ((pw_g h30 139 (((12 * k6_3) + (pw_g h30 159 (ix.toNat))).toNat)) - (pw_g h30 139 (((12 * k6_3) + (pw_g h30 158 (ix.toNat))).toNat)))), pw_i 1, .ref 141]) rfl (fun _ => rfl) ?_
              refine pw_ald2 h30I E (c := 140) (pc' := 109) rfl rfl rfl (by decide) rfl (by decide) (by omega) (by omega) rfl (fun hf56a hf56b => ?_)
              refine pw_ld E (pc' := 110) (st' := [.ref 141, pw_i (pw_g h30 140 (((12 * k6_3) + (pw_g h30 159 (ix.toNat))).toNat)), pw_i tn, pw_i (10 * ((pw_g h30 139 (((12 * k6_3) + (pw_g h30 159 (ix.toNat))).toNat)) - (pw_g h30 139 (((12 * k6_3) + (pw_g h30 158 (ix.toNat))).toNat)))), pw_i 1, .ref 141]) rfl (fun _ => rfl) ?_
              refine pw_getR (b := 156) h30I E (c := 125) (k := 20) (pc' := 113) rfl rfl rfl rfl rfl rfl rfl ?_
              refine pw_ld E (pc' := 115) (st' := [pw_i ((12 * k6_3) + (pw_g h30 158 (ix.toNat))), .ref 156, pw_i (pw_g h30 140 (((12 * k6_3) + (pw_g h30 159 (ix.toNat))).toNat)), pw_i tn, pw_i (10 * ((pw_g h30 139 (((12 * k6_3) + (pw_g h30 159 (ix.toNat))).toNat)) - (pw_g h30 139 (((12 * k6_3) + (pw_g h30 158 (ix.toNat))).toNat)))), pw_i 1, .ref 141]) rfl (fun _ => rfl) ?_
              refine pw_ald2 h30I E (c := 140) (pc' := 116) rfl rfl rfl (by decide) rfl (by decide) (by omega) (by omega) rfl (fun hf57a hf57b => ?_)
              refine pw_sub E (pc' := 117) rfl rfl ?_
              refine pw_mul E (pc' := 118) rfl rfl ?_
              refine pw_nm (fun x58 hx58a hx58b => ?_)
              refine pw_add E (pc' := 119) rfl rfl ?_
              refine pw_nm (fun x59 hx59a hx59b => ?_)
              refine pw_i2l E (pc' := 120) rfl rfl (by omega) (by omega) ?_
              have he60 : pw_gm h30 125 27 = pw_gm gh6 125 27 := pw_Egm (c := 125) I6 h30E rfl rfl 27
              have he61 : pw_gm h30 125 29 = pw_gm gh6 125 29 := pw_Egm (c := 125) I6 h30E rfl rfl 29
              obtain ⟨f62l, f62h, -⟩ := pw_obj (c := 125) h30I rfl
              refine pw_call (m' := 220) (As := [.ref 141, pw_i 1, .long (Int64.ofInt x59)]) (rest := []) (ls'' := [some (.ref 141), some (pw_i 1), some (.long (Int64.ofInt x59)), none]) (Nat.le_trans (by decide) hd) E rfl (fun _ => pw_iV rfl rfl rfl rfl (pw_cellI f62h rfl)) (rfl : pm_ent 220 = some (3, 4, 12, 4, pmc_220)) rfl rfl (cm_220 (pw_dp hd (by decide)) h30I (1) (by omega) (by omega) (Int64.ofInt x59) (by omega) (by omega) (by omega)) ?_
              rintro h63 v64 ⟨h63I, h63E, hq65, rfl⟩
              refine ⟨_, rfl, ?_⟩
              have h63F := h30F.tr (h63E.wk (W' := [125, 149, 150]) (by first | rfl | simp))
              show pw X d h63 285 123 [some (.ref 141), some (pw_i ix), some (pw_i tn), some (pw_i k6_3), some (pw_i ((12 * k6_3) + (pw_g h30 158 (ix.toNat)))), some (pw_i ((12 * k6_3) + (pw_g h30 159 (ix.toNat))))] [] _
              refine pw_inc E (pc' := 126) (ls' := [some (.ref 141), some (pw_i ix), some (pw_i tn), some (pw_i (k6_3 + 1)), some (pw_i ((12 * k6_3) + (pw_g h30 158 (ix.toNat)))), some (pw_i ((12 * k6_3) + (pw_g h30 159 (ix.toNat))))]) rfl rfl rfl rfl ?_
              refine pw_goto E (pc' := 6) rfl (by decide) ?_
              exact ih6 _ (by omega) (k6_3 + 1) (some (pw_i ((12 * k6_3) + (pw_g h30 158 (ix.toNat))))) (some (pw_i ((12 * k6_3) + (pw_g h30 159 (ix.toNat))))) h63 h63I h63F (by omega) (by omega) (by omega) (by omega) (by omega) rfl
  exact L6 _ (0) (none) (none) h2 h2I h2F (by omega) (by omega) (by omega) (by omega) (by omega) rfl
set_option maxHeartbeats 4000000 in
theorem cm_284 {X : List (Nat × List Value)} {d : Nat} {h : pm_H} (hd : 5 ≤ d) (I : pw_I h) (ix : Int) (hix1 : (-2147483648) ≤ ix) (hix2 : ix ≤ 2147483647) (wt : Int) (hwt1 : (-2147483648) ≤ wt) (hwt2 : wt ≤ 2147483647) (hp0 : pw_K h) : pw X d h 284 0 [some (.ref 141), some (pw_i ix), some (pw_i wt)] [] (fun h' v => pw_I h' ∧ pw_E [125, 149, 150] h h' ∧ ∃ w : Int64, v = .inl (some (.long w))) := by
  have E : pm_ent 284 = some (3, 3, 12, 2, pmc_284) := rfl
  have E0 : pw_E [125, 149, 150] h h := pw_E.rf _ _
  refine pw_ld E (pc' := 1) (st' := [.ref 141]) rfl (fun _ => rfl) ?_
  refine pw_ld E (pc' := 2) (st' := [pw_i ix, .ref 141]) rfl (fun _ => rfl) ?_
  refine pw_call (m' := 278) (As := [pw_i ix]) (rest := [.ref 141]) (ls'' := [some (pw_i ix)]) (Nat.le_trans (by decide) hd) E rfl (fun _ => pw_iS rfl rfl rfl) (rfl : pm_ent 278 = some (1, 1, 12, 1, pmc_278)) rfl rfl (cm_278 (pw_dp hd (by decide)) I (ix) (by omega) (by omega)) ?_
  rintro u2 v1 ⟨rfl, x3, rfl, hx3a, hx3b, hx3r⟩
  refine ⟨_, rfl, ?_⟩
  show pw X d h 284 5 [some (.ref 141), some (pw_i ix), some (pw_i wt)] [pw_i x3, .ref 141] _
  change (x3 = 1 ∧ 0 ≤ ix ∧ ix ≤ 3) ∨ (x3 = 0 ∧ ¬ (0 ≤ ix ∧ ix ≤ 3)) at hx3r
  rcases (by omega : x3 = 1 ∨ x3 = 0) with hb4 | hb4
  · skip
    refine pw_if E (pc' := 32) rfl (by decide) (by omega) (by omega) ?_ ?_
    · intro hc5
      change x3 = (0 : Int) at hc5
      exfalso; omega
    · intro hc6
      change ¬ (x3 = (0 : Int)) at hc6
      refine pw_ld E (pc' := 9) (st' := [pw_i wt, .ref 141]) rfl (fun _ => rfl) ?_
      refine pw_call (m' := 217) (As := [pw_i wt]) (rest := [.ref 141]) (ls'' := [some (pw_i wt)]) (Nat.le_trans (by decide) hd) E rfl (fun _ => pw_iS rfl rfl rfl) (rfl : pm_ent 217 = some (1, 1, 12, 1, pmc_217)) rfl rfl (cm_217 (pw_dp hd (by decide)) I (wt) (by omega) (by omega)) ?_
      rintro u8 v7 ⟨rfl, x9, rfl, hx9a, hx9b, hx9r⟩
      refine ⟨_, rfl, ?_⟩
      show pw X d h 284 12 [some (.ref 141), some (pw_i ix), some (pw_i wt)] [pw_i x9, .ref 141] _
      change (x9 = 1 ∧ 0 ≤ wt ∧ wt ≤ 1) ∨ (x9 = 0 ∧ ¬ (0 ≤ wt ∧ wt ≤ 1)) at hx9r
      rcases (by omega : x9 = 1 ∨ x9 = 0) with hb10 | hb10
      · skip
        refine pw_if E (pc' := 32) rfl (by decide) (by omega) (by omega) ?_ ?_
        · intro hc11
          change x9 = (0 : Int) at hc11
          exfalso; omega
        · intro hc12
          change ¬ (x9 = (0 : Int)) at hc12
          refine pw_ld E (pc' := 16) (st' := [.ref 141, .ref 141]) rfl (fun _ => rfl) ?_
          refine pw_ld E (pc' := 17) (st' := [pw_i ix, .ref 141, .ref 141]) rfl (fun _ => rfl) ?_
          refine pw_ld E (pc' := 18) (st' := [.ref 141, pw_i ix, .ref 141, .ref 141]) rfl (fun _ => rfl) ?_
          refine pw_ld E (pc' := 19) (st' := [pw_i ix, .ref 141, pw_i ix, .ref 141, .ref 141]) rfl (fun _ => rfl) ?_
          obtain ⟨f13l, f13h, -⟩ := pw_obj (c := 125) I rfl
          refine pw_call (m' := 281) (As := [.ref 141, pw_i ix]) (rest := [pw_i ix, .ref 141, .ref 141]) (ls'' := [some (.ref 141), some (pw_i ix)]) (Nat.le_trans (by decide) hd) E rfl (fun _ => pw_iV rfl rfl rfl rfl (pw_cellI f13h rfl)) (rfl : pm_ent 281 = some (2, 2, 12, 0, pmc_281)) rfl rfl (cm_281 (pw_dp hd (by decide)) I (ix) (by omega) (by omega)) ?_
          rintro u15 v14 ⟨rfl, x16, rfl, hx16a, hx16b⟩
          refine ⟨_, rfl, ?_⟩
          show pw X d h 284 22 [some (.ref 141), some (pw_i ix), some (pw_i wt)] [pw_i x16, pw_i ix, .ref 141, .ref 141] _
          obtain ⟨f17l, f17h, -⟩ := pw_obj (c := 125) I rfl
          refine pw_call (m' := 285) (As := [.ref 141, pw_i ix, pw_i x16]) (rest := [.ref 141]) (ls'' := [some (.ref 141), some (pw_i ix), some (pw_i x16), none, none, none]) (Nat.le_trans (by decide) hd) E rfl (fun _ => pw_iV rfl rfl rfl rfl (pw_cellI f17h rfl)) (rfl : pm_ent 285 = some (3, 6, 12, 1, pmc_285)) rfl rfl (cm_285 (pw_dp hd (by decide)) I (ix) (by omega) (by omega) (x16) (by omega) (by omega) (pw_KE I E0 hp0 rfl)) ?_
          rintro h18 v19 ⟨h18I, h18E, x20, rfl, hx20a, hx20b, hx20r⟩
          refine ⟨_, rfl, ?_⟩
          have h18F := E0.tr (h18E.wk (W' := [125, 149, 150]) (by first | rfl | simp))
          show pw X d h18 284 25 [some (.ref 141), some (pw_i ix), some (pw_i wt)] [pw_i x20, .ref 141] _
          change (x20 = 1 ∧ 1 ≤ pw_gm h18 125 25 ∧ pw_gm h18 125 25 ≤ 576) ∨ x20 = 0 at hx20r
          rcases (by omega : x20 = 1 ∨ x20 = 0) with hb21 | hb21
          · skip
            refine pw_if E (pc' := 32) rfl (by decide) (by omega) (by omega) ?_ ?_
            · intro hc22
              change x20 = (0 : Int) at hc22
              exfalso; omega
            · intro hc23
              change ¬ (x20 = (0 : Int)) at hc23
              refine pw_ld E (pc' := 29) (st' := [pw_i 0, .ref 141]) rfl (fun _ => rfl) ?_
              refine pw_goto E (pc' := 33) rfl (by decide) ?_
              refine pw_putI h18I E (c := 125) (k := 0) (pc' := 36) rfl rfl rfl rfl (by omega) (by omega) (by omega) (by omega) rfl rfl ?_
              intro h24I h24E
              generalize h24w : pw_w h18 125 0 (pw_i 0) = h24 at h24I h24E ⊢
              have h24F := h18F.tr (h24E.wk (W' := [125, 149, 150]) (by first | rfl | simp))
              refine pw_ld E (pc' := 37) (st' := [.ref 141]) rfl (fun _ => rfl) ?_
              have he26 : pw_g h24 125 0 = 0 := by rw [← h24w]; exact pw_g_eq (c := 125) (k := 0) h18I rfl rfl (by omega) (by omega)
              refine pw_getI2 h24I E (c := 125) (k := 0) (pc' := 40) rfl rfl rfl rfl rfl rfl (fun hf25a hf25b => ?_)
              refine pw_if E (pc' := 47) rfl (by decide) (by omega) (by omega) ?_ ?_
              · intro hc27
                change pw_g h24 125 0 ≤ (0 : Int) at hc27
                refine pw_ld E (pc' := 48) (st' := [.ref 141]) rfl (fun _ => rfl) ?_
                refine pw_ld E (pc' := 49) (st' := [pw_i wt, .ref 141]) rfl (fun _ => rfl) ?_
                have he28 : pw_gm h24 125 25 = pw_gm h18 125 25 := by rw [← h24w]; exact pw_gm_ne (by omega)
                obtain ⟨f29l, f29h, -⟩ := pw_obj (c := 125) h24I rfl
                refine pw_call (m' := 222) (As := [.ref 141, pw_i wt]) (rest := []) (ls'' := [some (.ref 141), some (pw_i wt), none, none]) (Nat.le_trans (by decide) hd) E rfl (fun _ => pw_iV rfl rfl rfl rfl (pw_cellI f29h rfl)) (rfl : pm_ent 222 = some (2, 4, 12, 2, pmc_222)) rfl rfl (cm_222 (pw_dp hd (by decide)) h24I (wt) (by omega) (by omega) (by omega)) ?_
                rintro u31 v30 ⟨rfl, w32, rfl⟩
                refine ⟨_, rfl, ?_⟩
                show pw X d h24 284 52 [some (.ref 141), some (pw_i ix), some (pw_i wt)] [.long w32] _
                refine pw_lret E rfl ?_
                exact ⟨h24I, h24F, ⟨_, rfl⟩⟩
              · intro hc33
                change ¬ (pw_g h24 125 0 ≤ (0 : Int)) at hc33
                exfalso; omega
          · skip
            refine pw_if E (pc' := 32) rfl (by decide) (by omega) (by omega) ?_ ?_
            · intro hc35
              change x20 = (0 : Int) at hc35
              refine pw_ld E (pc' := 33) (st' := [pw_i 1, .ref 141]) rfl (fun _ => rfl) ?_
              refine pw_putI h18I E (c := 125) (k := 0) (pc' := 36) rfl rfl rfl rfl (by omega) (by omega) (by omega) (by omega) rfl rfl ?_
              intro h36I h36E
              generalize h36w : pw_w h18 125 0 (pw_i 1) = h36 at h36I h36E ⊢
              have h36F := h18F.tr (h36E.wk (W' := [125, 149, 150]) (by first | rfl | simp))
              refine pw_ld E (pc' := 37) (st' := [.ref 141]) rfl (fun _ => rfl) ?_
              have he38 : pw_g h36 125 0 = 1 := by rw [← h36w]; exact pw_g_eq (c := 125) (k := 0) h18I rfl rfl (by omega) (by omega)
              refine pw_getI2 h36I E (c := 125) (k := 0) (pc' := 40) rfl rfl rfl rfl rfl rfl (fun hf37a hf37b => ?_)
              refine pw_if E (pc' := 47) rfl (by decide) (by omega) (by omega) ?_ ?_
              · intro hc39
                change pw_g h36 125 0 ≤ (0 : Int) at hc39
                exfalso; omega
              · intro hc40
                change ¬ (pw_g h36 125 0 ≤ (0 : Int)) at hc40
                refine pw_ld E (pc' := 44) (st' := [.long (Int64.ofInt 0)]) rfl (fun _ => rfl) ?_
                refine pw_goto E (pc' := 52) rfl (by decide) ?_
                refine pw_lret E rfl ?_
                exact ⟨h36I, h36F, ⟨_, rfl⟩⟩
            · intro hc41
              change ¬ (x20 = (0 : Int)) at hc41
              exfalso; omega
      · skip
        refine pw_if E (pc' := 32) rfl (by decide) (by omega) (by omega) ?_ ?_
        · intro hc43
          change x9 = (0 : Int) at hc43
          refine pw_ld E (pc' := 33) (st' := [pw_i 1, .ref 141]) rfl (fun _ => rfl) ?_
          refine pw_putI I E (c := 125) (k := 0) (pc' := 36) rfl rfl rfl rfl (by omega) (by omega) (by omega) (by omega) rfl rfl ?_
          intro h44I h44E
          generalize h44w : pw_w h 125 0 (pw_i 1) = h44 at h44I h44E ⊢
          have h44F := E0.tr (h44E.wk (W' := [125, 149, 150]) (by first | rfl | simp))
          refine pw_ld E (pc' := 37) (st' := [.ref 141]) rfl (fun _ => rfl) ?_
          have he46 : pw_g h44 125 0 = 1 := by rw [← h44w]; exact pw_g_eq (c := 125) (k := 0) I rfl rfl (by omega) (by omega)
          refine pw_getI2 h44I E (c := 125) (k := 0) (pc' := 40) rfl rfl rfl rfl rfl rfl (fun hf45a hf45b => ?_)
          refine pw_if E (pc' := 47) rfl (by decide) (by omega) (by omega) ?_ ?_
          · intro hc47
            change pw_g h44 125 0 ≤ (0 : Int) at hc47
            exfalso; omega
          · intro hc48
            change ¬ (pw_g h44 125 0 ≤ (0 : Int)) at hc48
            refine pw_ld E (pc' := 44) (st' := [.long (Int64.ofInt 0)]) rfl (fun _ => rfl) ?_
            refine pw_goto E (pc' := 52) rfl (by decide) ?_
            refine pw_lret E rfl ?_
            exact ⟨h44I, h44F, ⟨_, rfl⟩⟩
        · intro hc49
          change ¬ (x9 = (0 : Int)) at hc49
          exfalso; omega
  · skip
    refine pw_if E (pc' := 32) rfl (by decide) (by omega) (by omega) ?_ ?_
    · intro hc51
      change x3 = (0 : Int) at hc51
      refine pw_ld E (pc' := 33) (st' := [pw_i 1, .ref 141]) rfl (fun _ => rfl) ?_
      refine pw_putI I E (c := 125) (k := 0) (pc' := 36) rfl rfl rfl rfl (by omega) (by omega) (by omega) (by omega) rfl rfl ?_
      intro h52I h52E
      generalize h52w : pw_w h 125 0 (pw_i 1) = h52 at h52I h52E ⊢
      have h52F := E0.tr (h52E.wk (W' := [125, 149, 150]) (by first | rfl | simp))
      refine pw_ld E (pc' := 37) (st' := [.ref 141]) rfl (fun _ => rfl) ?_
      have he54 : pw_g h52 125 0 = 1 := by rw [← h52w]; exact pw_g_eq (c := 125) (k := 0) I rfl rfl (by omega) (by omega)
      refine pw_getI2 h52I E (c := 125) (k := 0) (pc' := 40) rfl rfl rfl rfl rfl rfl (fun hf53a hf53b => ?_)
      refine pw_if E (pc' := 47) rfl (by decide) (by omega) (by omega) ?_ ?_
      · intro hc55
        change pw_g h52 125 0 ≤ (0 : Int) at hc55
        exfalso; omega
      · intro hc56
        change ¬ (pw_g h52 125 0 ≤ (0 : Int)) at hc56
        refine pw_ld E (pc' := 44) (st' := [.long (Int64.ofInt 0)]) rfl (fun _ => rfl) ?_
        refine pw_goto E (pc' := 52) rfl (by decide) ?_
        refine pw_lret E rfl ?_
        exact ⟨h52I, h52F, ⟨_, rfl⟩⟩
    · intro hc57
      change ¬ (x3 = (0 : Int)) at hc57
      exfalso; omega
