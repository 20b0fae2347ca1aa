section
/-! a kitchen's month in the model's world, exactly -/
set_option maxHeartbeats 4000000 in
theorem cm_261_x {X : List (Nat × List Value)} {d : Nat} {h : pm_H} (hd : 5 ≤ d) (I : pw_I h) (l : Int) (hl1 : 0 ≤ l) (hl2 : l ≤ 3) (k : Int) (hk1 : 0 ≤ k) (hk2 : k ≤ 23) (mo : Int) (hmo1 : 1 ≤ mo) (hmo2 : mo ≤ 11) (dr : Int) (hdr1 : 0 ≤ dr) (hdr2 : dr ≤ 9) (p : Int) (th : Int → Int) (C : Int → List Int) (hp0 : pu_Wr p (pw_g h 153 (12 * k + mo - 1).toNat) (pw_g h 151 (12 * k + mo - 1).toNat) (pw_g h 152 (12 * k + mo - 1).toNat)) (hp1 : pt_MS h l th C) (hp2 : pe_good 0 th C) : pw X d h 261 0 [some (.ref 141), some (pw_i l), some (pw_i k), some (pw_i mo), some (pw_i dr), none, none, none, none] [] (fun h' v => pw_I h' ∧ pw_E [149, 150, 151, 152, 153] h h' ∧ (pu_Wr (pu_lv th C (pu_ft p (pw_g h 133 k.toNat) (pw_g h 136 (12 * (pw_g h 132 k.toNat) + mo).toNat) (pw_g h 132 k.toNat) mo (pw_g h 137 (12 * (pw_g h 132 k.toNat) + mo).toNat) dr) p) (pw_g h' 153 (12 * k + mo).toNat) (pw_g h' 151 (12 * k + mo).toNat) (pw_g h' 152 (12 * k + mo).toNat) ∧ ∀ j : Nat, j ≠ (12 * k + mo).toNat → pw_g h' 153 j = pw_g h 153 j ∧ pw_g h' 151 j = pw_g h 151 j ∧ pw_g h' 152 j = pw_g h 152 j) ∧ (v = .inl none)) := by
  have E : pm_ent 261 = some (5, 9, 12, 4, pmc_261) := rfl
  have E0 : pw_E [149, 150, 151, 152, 153] h h := pw_E.rf _ _
  have hWr := hp0
  unfold pu_Wr at hWr
  refine pw_bip E (pc' := 2) rfl rfl (by decide) ?_
  refine pw_ld E (pc' := 3) (st' := [pw_i k, pw_i 12]) rfl (fun _ => rfl) ?_
  refine pw_mul E (pc' := 4) rfl rfl ?_
  refine pw_ld E (pc' := 5) (st' := [pw_i mo, pw_i (12 * k)]) rfl (fun _ => rfl) ?_
  refine pw_add E (pc' := 6) rfl rfl ?_
  refine pw_ist E (pc' := 8) (ls' := [some (.ref 141), some (pw_i l), some (pw_i k), some (pw_i mo), some (pw_i dr), some (pw_i ((12 * k) + mo)), none, none, none]) rfl rfl rfl rfl ?_
  refine pw_ld E (pc' := 9) (st' := [.ref 141]) rfl (fun _ => rfl) ?_
  refine pw_getR (b := 152) I E (c := 125) (k := 16) (pc' := 12) rfl rfl rfl rfl rfl rfl rfl ?_
  refine pw_bip E (pc' := 14) rfl rfl (by decide) ?_
  refine pw_ld E (pc' := 15) (st' := [.ref 141, pw_i 12, .ref 152]) rfl (fun _ => rfl) ?_
  refine pw_getR (b := 148) I E (c := 125) (k := 11) (pc' := 18) rfl rfl rfl rfl rfl rfl rfl ?_
  refine pw_ld E (pc' := 19) (st' := [pw_i k, .ref 148, pw_i 12, .ref 152]) rfl (fun _ => rfl) ?_
  refine pw_ald2 I E (c := 132) (pc' := 20) rfl rfl rfl (by decide) rfl (by decide) (by omega) (by omega) rfl (fun hf1a hf1b => ?_)
  refine pw_mul E (pc' := 21) rfl rfl ?_
  refine pw_ld E (pc' := 22) (st' := [pw_i mo, pw_i (12 * (pw_g h 132 (k.toNat))), .ref 152]) rfl (fun _ => rfl) ?_
  refine pw_add E (pc' := 23) rfl rfl ?_
  refine pw_ald2 I E (c := 136) (pc' := 24) rfl rfl rfl (by decide) rfl (by decide) (by omega) (by omega) rfl (fun hf2a hf2b => ?_)
  refine pw_ist E (pc' := 26) (ls' := [some (.ref 141), some (pw_i l), some (pw_i k), some (pw_i mo), some (pw_i dr), some (pw_i ((12 * k) + mo)), some (pw_i (pw_g h 136 (((12 * (pw_g h 132 (k.toNat))) + mo).toNat))), none, none]) rfl rfl rfl rfl ?_
  refine pw_ld E (pc' := 27) (st' := [.ref 141]) rfl (fun _ => rfl) ?_
  refine pw_getR (b := 169) I E (c := 125) (k := 40) (pc' := 30) rfl rfl rfl rfl rfl rfl rfl ?_
  refine pw_ld E (pc' := 32) (st' := [pw_i ((12 * k) + mo), .ref 169]) rfl (fun _ => rfl) ?_
  refine pw_ld E (pc' := 33) (st' := [pw_i 1, pw_i ((12 * k) + mo), .ref 169]) rfl (fun _ => rfl) ?_
  refine pw_sub E (pc' := 34) rfl rfl ?_
  refine pw_ald2 I E (c := 153) (pc' := 35) rfl rfl rfl (by decide) rfl (by decide) (by omega) (by omega) rfl (fun hf3a hf3b => ?_)
  refine pw_ist E (pc' := 37) (ls' := [some (.ref 141), some (pw_i l), some (pw_i k), some (pw_i mo), some (pw_i dr), some (pw_i ((12 * k) + mo)), some (pw_i (pw_g h 136 (((12 * (pw_g h 132 (k.toNat))) + mo).toNat))), some (pw_i (pw_g h 153 ((((12 * k) + mo) - 1).toNat))), none]) rfl rfl rfl rfl ?_
  refine pw_ld E (pc' := 38) (st' := [.ref 141]) rfl (fun _ => rfl) ?_
  refine pw_getR (b := 165) I E (c := 125) (k := 36) (pc' := 41) rfl rfl rfl rfl rfl rfl rfl ?_
  refine pw_ld E (pc' := 42) (st' := [pw_i 0, .ref 165]) rfl (fun _ => rfl) ?_
  refine pw_ld E (pc' := 43) (st' := [.ref 141, pw_i 0, .ref 165]) rfl (fun _ => rfl) ?_
  refine pw_getR (b := 167) I E (c := 125) (k := 38) (pc' := 46) rfl rfl rfl rfl rfl rfl rfl ?_
  refine pw_ld E (pc' := 48) (st' := [pw_i ((12 * k) + mo), .ref 167, pw_i 0, .ref 165]) rfl (fun _ => rfl) ?_
  refine pw_ld E (pc' := 49) (st' := [pw_i 1, pw_i ((12 * k) + mo), .ref 167, pw_i 0, .ref 165]) rfl (fun _ => rfl) ?_
  refine pw_sub E (pc' := 50) rfl rfl ?_
  refine pw_ald2 I E (c := 151) (pc' := 51) rfl rfl rfl (by decide) rfl (by decide) (by omega) (by omega) rfl (fun hf4a hf4b => ?_)
  refine pw_ast0 I E (c := 149) (pc' := 52) rfl rfl rfl (by decide) rfl (by decide) (by omega) (by omega) rfl (by omega) (by omega) (by omega) (by omega) rfl ?_
  intro h5I h5E
  generalize h5w : pw_w h 149 (Int.toNat 0) (pw_i (pw_g h 151 ((((12 * k) + mo) - 1).toNat))) = h5 at h5I h5E ⊢
  have h5F := E0.tr (h5E.wk (W' := [149, 150, 151, 152, 153]) (by first | rfl | simp))
  refine pw_ld E (pc' := 53) (st' := [.ref 141]) rfl (fun _ => rfl) ?_
  refine pw_getR (b := 165) h5I E (c := 125) (k := 36) (pc' := 56) rfl rfl rfl rfl rfl rfl rfl ?_
  refine pw_ld E (pc' := 57) (st' := [pw_i 1, .ref 165]) rfl (fun _ => rfl) ?_
  refine pw_ld E (pc' := 58) (st' := [.ref 141, pw_i 1, .ref 165]) rfl (fun _ => rfl) ?_
  refine pw_getR (b := 168) h5I E (c := 125) (k := 39) (pc' := 61) rfl rfl rfl rfl rfl rfl rfl ?_
  refine pw_ld E (pc' := 63) (st' := [pw_i ((12 * k) + mo), .ref 168, pw_i 1, .ref 165]) rfl (fun _ => rfl) ?_
  refine pw_ld E (pc' := 64) (st' := [pw_i 1, pw_i ((12 * k) + mo), .ref 168, pw_i 1, .ref 165]) rfl (fun _ => rfl) ?_
  refine pw_sub E (pc' := 65) rfl rfl ?_
  refine pw_ald2 h5I E (c := 152) (pc' := 66) rfl rfl rfl (by decide) rfl (by decide) (by omega) (by omega) rfl (fun hf6a hf6b => ?_)
  refine pw_ast0 h5I E (c := 149) (pc' := 67) rfl rfl rfl (by decide) rfl (by decide) (by omega) (by omega) rfl (by omega) (by omega) (by omega) (by omega) rfl ?_
  intro h7I h7E
  generalize h7w : pw_w h5 149 (Int.toNat 1) (pw_i (pw_g h5 152 ((((12 * k) + mo) - 1).toNat))) = h7 at h7I h7E ⊢
  have h7F := h5F.tr (h7E.wk (W' := [149, 150, 151, 152, 153]) (by first | rfl | simp))
  refine pw_ld E (pc' := 68) (st' := [.ref 141]) rfl (fun _ => rfl) ?_
  refine pw_getR (b := 165) h7I E (c := 125) (k := 36) (pc' := 71) rfl rfl rfl rfl rfl rfl rfl ?_
  refine pw_ld E (pc' := 72) (st' := [pw_i 2, .ref 165]) rfl (fun _ => rfl) ?_
  refine pw_ld E (pc' := 73) (st' := [.ref 141, pw_i 2, .ref 165]) rfl (fun _ => rfl) ?_
  refine pw_getR (b := 149) h7I E (c := 125) (k := 12) (pc' := 76) rfl rfl rfl rfl rfl rfl rfl ?_
  refine pw_ld E (pc' := 77) (st' := [pw_i k, .ref 149, pw_i 2, .ref 165]) rfl (fun _ => rfl) ?_
  refine pw_ald2 h7I E (c := 133) (pc' := 78) rfl rfl rfl (by decide) rfl (by decide) (by omega) (by omega) rfl (fun hf8a hf8b => ?_)
  refine pw_ast0 h7I E (c := 149) (pc' := 79) rfl rfl rfl (by decide) rfl (by decide) (by omega) (by omega) rfl (by omega) (by omega) (by omega) (by omega) rfl ?_
  intro h9I h9E
  generalize h9w : pw_w h7 149 (Int.toNat 2) (pw_i (pw_g h7 133 (k.toNat))) = h9 at h9I h9E ⊢
  have h9F := h7F.tr (h9E.wk (W' := [149, 150, 151, 152, 153]) (by first | rfl | simp))
  refine pw_ld E (pc' := 80) (st' := [.ref 141]) rfl (fun _ => rfl) ?_
  refine pw_getR (b := 165) h9I E (c := 125) (k := 36) (pc' := 83) rfl rfl rfl rfl rfl rfl rfl ?_
  refine pw_ld E (pc' := 84) (st' := [pw_i 3, .ref 165]) rfl (fun _ => rfl) ?_
  refine pw_ld E (pc' := 86) (st' := [pw_i (pw_g h 136 (((12 * (pw_g h 132 (k.toNat))) + mo).toNat)), pw_i 3, .ref 165]) rfl (fun _ => rfl) ?_
  refine pw_ast0 h9I E (c := 149) (pc' := 87) rfl rfl rfl (by decide) rfl (by decide) (by omega) (by omega) rfl (by omega) (by omega) (by omega) (by omega) rfl ?_
  intro h10I h10E
  generalize h10w : pw_w h9 149 (Int.toNat 3) (pw_i (pw_g h 136 (((12 * (pw_g h 132 (k.toNat))) + mo).toNat))) = h10 at h10I h10E ⊢
  have h10F := h9F.tr (h10E.wk (W' := [149, 150, 151, 152, 153]) (by first | rfl | simp))
  refine pw_ld E (pc' := 88) (st' := [.ref 141]) rfl (fun _ => rfl) ?_
  refine pw_getR (b := 165) h10I E (c := 125) (k := 36) (pc' := 91) rfl rfl rfl rfl rfl rfl rfl ?_
  refine pw_ld E (pc' := 92) (st' := [pw_i 4, .ref 165]) rfl (fun _ => rfl) ?_
  refine pw_ld E (pc' := 94) (st' := [pw_i (pw_g h 136 (((12 * (pw_g h 132 (k.toNat))) + mo).toNat)), pw_i 4, .ref 165]) rfl (fun _ => rfl) ?_
  refine pw_ld E (pc' := 95) (st' := [.ref 141, pw_i (pw_g h 136 (((12 * (pw_g h 132 (k.toNat))) + mo).toNat)), pw_i 4, .ref 165]) rfl (fun _ => rfl) ?_
  refine pw_getR (b := 149) h10I E (c := 125) (k := 12) (pc' := 98) rfl rfl rfl rfl rfl rfl rfl ?_
  refine pw_ld E (pc' := 99) (st' := [pw_i k, .ref 149, pw_i (pw_g h 136 (((12 * (pw_g h 132 (k.toNat))) + mo).toNat)), pw_i 4, .ref 165]) rfl (fun _ => rfl) ?_
  refine pw_ald2 h10I E (c := 133) (pc' := 100) rfl rfl rfl (by decide) rfl (by decide) (by omega) (by omega) rfl (fun hf11a hf11b => ?_)
  have h133 : pw_g h10 133 k.toNat = pw_g h 133 k.toNat := by rw [← h10w, pw_g_ne (by omega), ← h9w, pw_g_ne (by omega), ← h7w, pw_g_ne (by omega), ← h5w, pw_g_ne (by omega)]
  refine pw_if2 E (pc' := 115) rfl (by decide) (by omega) (by omega) (by omega) (by omega) ?_ ?_
  · intro hc12
    change pw_g h 136 (((12 * (pw_g h 132 (k.toNat))) + mo).toNat) ≤ pw_g h10 133 (k.toNat) at hc12
    refine pw_ld E (pc' := 116) (st' := [pw_i 0, pw_i 4, .ref 165]) rfl (fun _ => rfl) ?_
    refine pw_ast0 h10I E (c := 149) (pc' := 117) rfl rfl rfl (by decide) rfl (by decide) (by omega) (by omega) rfl (by omega) (by omega) (by omega) (by omega) rfl ?_
    intro h13I h13E
    generalize h13w : pw_w h10 149 (Int.toNat 4) (pw_i 0) = h13 at h13I h13E ⊢
    have h13F := h10F.tr (h13E.wk (W' := [149, 150, 151, 152, 153]) (by first | rfl | simp))
    refine pw_ld E (pc' := 118) (st' := [.ref 141]) rfl (fun _ => rfl) ?_
    refine pw_getR (b := 165) h13I E (c := 125) (k := 36) (pc' := 121) rfl rfl rfl rfl rfl rfl rfl ?_
    refine pw_ld E (pc' := 122) (st' := [pw_i 5, .ref 165]) rfl (fun _ => rfl) ?_
    refine pw_ld E (pc' := 123) (st' := [.ref 141, pw_i 5, .ref 165]) rfl (fun _ => rfl) ?_
    refine pw_getR (b := 148) h13I E (c := 125) (k := 11) (pc' := 126) rfl rfl rfl rfl rfl rfl rfl ?_
    refine pw_ld E (pc' := 127) (st' := [pw_i k, .ref 148, pw_i 5, .ref 165]) rfl (fun _ => rfl) ?_
    refine pw_ald2 h13I E (c := 132) (pc' := 128) rfl rfl rfl (by decide) rfl (by decide) (by omega) (by omega) rfl (fun hf14a hf14b => ?_)
    refine pw_ast0 h13I E (c := 149) (pc' := 129) rfl rfl rfl (by decide) rfl (by decide) (by omega) (by omega) rfl (by omega) (by omega) (by omega) (by omega) rfl ?_
    intro h15I h15E
    generalize h15w : pw_w h13 149 (Int.toNat 5) (pw_i (pw_g h13 132 (k.toNat))) = h15 at h15I h15E ⊢
    have h15F := h13F.tr (h15E.wk (W' := [149, 150, 151, 152, 153]) (by first | rfl | simp))
    refine pw_ld E (pc' := 130) (st' := [.ref 141]) rfl (fun _ => rfl) ?_
    refine pw_getR (b := 165) h15I E (c := 125) (k := 36) (pc' := 133) rfl rfl rfl rfl rfl rfl rfl ?_
    refine pw_bip E (pc' := 135) rfl rfl (by decide) ?_
    refine pw_ld E (pc' := 136) (st' := [pw_i mo, pw_i 6, .ref 165]) rfl (fun _ => rfl) ?_
    refine pw_ast0 h15I E (c := 149) (pc' := 137) rfl rfl rfl (by decide) rfl (by decide) (by omega) (by omega) rfl (by omega) (by omega) (by omega) (by omega) rfl ?_
    intro h16I h16E
    generalize h16w : pw_w h15 149 (Int.toNat 6) (pw_i mo) = h16 at h16I h16E ⊢
    have h16F := h15F.tr (h16E.wk (W' := [149, 150, 151, 152, 153]) (by first | rfl | simp))
    refine pw_ld E (pc' := 138) (st' := [.ref 141]) rfl (fun _ => rfl) ?_
    refine pw_getR (b := 165) h16I E (c := 125) (k := 36) (pc' := 141) rfl rfl rfl rfl rfl rfl rfl ?_
    refine pw_bip E (pc' := 143) rfl rfl (by decide) ?_
    refine pw_ld E (pc' := 144) (st' := [.ref 141, pw_i 7, .ref 165]) rfl (fun _ => rfl) ?_
    refine pw_getR (b := 153) h16I E (c := 125) (k := 17) (pc' := 147) rfl rfl rfl rfl rfl rfl rfl ?_
    refine pw_bip E (pc' := 149) rfl rfl (by decide) ?_
    refine pw_ld E (pc' := 150) (st' := [.ref 141, pw_i 12, .ref 153, pw_i 7, .ref 165]) rfl (fun _ => rfl) ?_
    refine pw_getR (b := 148) h16I E (c := 125) (k := 11) (pc' := 153) rfl rfl rfl rfl rfl rfl rfl ?_
    refine pw_ld E (pc' := 154) (st' := [pw_i k, .ref 148, pw_i 12, .ref 153, pw_i 7, .ref 165]) rfl (fun _ => rfl) ?_
    refine pw_ald2 h16I E (c := 132) (pc' := 155) rfl rfl rfl (by decide) rfl (by decide) (by omega) (by omega) rfl (fun hf17a hf17b => ?_)
    refine pw_mul E (pc' := 156) rfl rfl ?_
    refine pw_ld E (pc' := 157) (st' := [pw_i mo, pw_i (12 * (pw_g h16 132 (k.toNat))), .ref 153, pw_i 7, .ref 165]) rfl (fun _ => rfl) ?_
    refine pw_add E (pc' := 158) rfl rfl ?_
    refine pw_ald2 h16I E (c := 137) (pc' := 159) rfl rfl rfl (by decide) rfl (by decide) (by omega) (by omega) rfl (fun hf18a hf18b => ?_)
    refine pw_ast0 h16I E (c := 149) (pc' := 160) rfl rfl rfl (by decide) rfl (by decide) (by omega) (by omega) rfl (by omega) (by omega) (by omega) (by omega) rfl ?_
    intro h19I h19E
    generalize h19w : pw_w h16 149 (Int.toNat 7) (pw_i (pw_g h16 137 (((12 * (pw_g h16 132 (k.toNat))) + mo).toNat))) = h19 at h19I h19E ⊢
    have h19F := h16F.tr (h19E.wk (W' := [149, 150, 151, 152, 153]) (by first | rfl | simp))
    refine pw_ld E (pc' := 161) (st' := [.ref 141]) rfl (fun _ => rfl) ?_
    refine pw_getR (b := 165) h19I E (c := 125) (k := 36) (pc' := 164) rfl rfl rfl rfl rfl rfl rfl ?_
    refine pw_bip E (pc' := 166) rfl rfl (by decide) ?_
    refine pw_ld E (pc' := 168) (st' := [pw_i dr, pw_i 8, .ref 165]) rfl (fun _ => rfl) ?_
    refine pw_ast0 h19I E (c := 149) (pc' := 169) rfl rfl rfl (by decide) rfl (by decide) (by omega) (by omega) rfl (by omega) (by omega) (by omega) (by omega) rfl ?_
    intro h20I h20E
    generalize h20w : pw_w h19 149 (Int.toNat 8) (pw_i dr) = h20 at h20I h20E ⊢
    have h20F := h19F.tr (h20E.wk (W' := [149, 150, 151, 152, 153]) (by first | rfl | simp))
    refine pw_ld E (pc' := 170) (st' := [.ref 141]) rfl (fun _ => rfl) ?_
    refine pw_getR (b := 165) h20I E (c := 125) (k := 36) (pc' := 173) rfl rfl rfl rfl rfl rfl rfl ?_
    refine pw_bip E (pc' := 175) rfl rfl (by decide) ?_
    refine pw_ld E (pc' := 177) (st' := [pw_i (pw_g h 153 ((((12 * k) + mo) - 1).toNat)), pw_i 9, .ref 165]) rfl (fun _ => rfl) ?_
    refine pw_if E (pc' := 184) rfl (by decide) (by omega) (by omega) ?_ ?_
    · intro hc21
      change pw_g h 153 ((((12 * k) + mo) - 1).toNat) = (0 : Int) at hc21
      refine pw_ld E (pc' := 185) (st' := [pw_i 0, pw_i 9, .ref 165]) rfl (fun _ => rfl) ?_
      refine pw_ast0 h20I E (c := 149) (pc' := 186) rfl rfl rfl (by decide) rfl (by decide) (by omega) (by omega) rfl (by omega) (by omega) (by omega) (by omega) rfl ?_
      intro h22I h22E
      generalize h22w : pw_w h20 149 (Int.toNat 9) (pw_i 0) = h22 at h22I h22E ⊢
      have h22F := h20F.tr (h22E.wk (W' := [149, 150, 151, 152, 153]) (by first | rfl | simp))
      have f0 : pw_g h22 149 0 = pw_g h 151 ((((12 * k) + mo) - 1).toNat) := by
        rw [← h22w, pw_g_ne (by omega), ← h20w, pw_g_ne (by omega), ← h19w, pw_g_ne (by omega), ← h16w, pw_g_ne (by omega), ← h15w, pw_g_ne (by omega), ← h13w, pw_g_ne (by omega), ← h10w, pw_g_ne (by omega), ← h9w, pw_g_ne (by omega), ← h7w, pw_g_ne (by omega), ← h5w]
        exact pw_g_eqA I rfl (by decide) (by omega) (by omega)
      have r0 : pw_g h 151 ((((12 * k) + mo) - 1).toNat) = pw_g h 151 ((((12 * k) + mo) - 1).toNat) := rfl
      have t0 : pw_g h22 149 0 = max 0 p / 100 := f0.trans (r0.trans (by omega))
      have f1 : pw_g h22 149 1 = pw_g h5 152 ((((12 * k) + mo) - 1).toNat) := by
        rw [← h22w, pw_g_ne (by omega), ← h20w, pw_g_ne (by omega), ← h19w, pw_g_ne (by omega), ← h16w, pw_g_ne (by omega), ← h15w, pw_g_ne (by omega), ← h13w, pw_g_ne (by omega), ← h10w, pw_g_ne (by omega), ← h9w, pw_g_ne (by omega), ← h7w]
        exact pw_g_eqA h5I rfl (by decide) (by omega) (by omega)
      have r1 : pw_g h5 152 ((((12 * k) + mo) - 1).toNat) = pw_g h 152 ((((12 * k) + mo) - 1).toNat) := by rw [← h5w, pw_g_ne (by omega)]
      have t1 : pw_g h22 149 1 = max 0 p % 100 := f1.trans (r1.trans (by omega))
      have f2 : pw_g h22 149 2 = pw_g h7 133 (k.toNat) := by
        rw [← h22w, pw_g_ne (by omega), ← h20w, pw_g_ne (by omega), ← h19w, pw_g_ne (by omega), ← h16w, pw_g_ne (by omega), ← h15w, pw_g_ne (by omega), ← h13w, pw_g_ne (by omega), ← h10w, pw_g_ne (by omega), ← h9w]
        exact pw_g_eqA h7I rfl (by decide) (by omega) (by omega)
      have r2 : pw_g h7 133 (k.toNat) = pw_g h 133 (k.toNat) := by rw [← h7w, pw_g_ne (by omega), ← h5w, pw_g_ne (by omega)]
      have t2 : pw_g h22 149 2 = (pw_g h 133 k.toNat) := f2.trans (r2.trans rfl)
      have f3 : pw_g h22 149 3 = pw_g h 136 (((12 * (pw_g h 132 (k.toNat))) + mo).toNat) := by
        rw [← h22w, pw_g_ne (by omega), ← h20w, pw_g_ne (by omega), ← h19w, pw_g_ne (by omega), ← h16w, pw_g_ne (by omega), ← h15w, pw_g_ne (by omega), ← h13w, pw_g_ne (by omega), ← h10w]
        exact pw_g_eqA h9I rfl (by decide) (by omega) (by omega)
      have r3 : pw_g h 136 (((12 * (pw_g h 132 (k.toNat))) + mo).toNat) = pw_g h 136 (((12 * (pw_g h 132 (k.toNat))) + mo).toNat) := rfl
      have t3 : pw_g h22 149 3 = (pw_g h 136 (12 * (pw_g h 132 k.toNat) + mo).toNat) := f3.trans (r3.trans rfl)
      have f4 : pw_g h22 149 4 = 0 := by
        rw [← h22w, pw_g_ne (by omega), ← h20w, pw_g_ne (by omega), ← h19w, pw_g_ne (by omega), ← h16w, pw_g_ne (by omega), ← h15w, pw_g_ne (by omega), ← h13w]
        exact pw_g_eqA h10I rfl (by decide) (by omega) (by omega)
      have t4 : pw_g h22 149 4 = max 0 ((pw_g h 136 (12 * (pw_g h 132 k.toNat) + mo).toNat) - (pw_g h 133 k.toNat)) := f4.trans ((by omega))
      have f5 : pw_g h22 149 5 = pw_g h13 132 (k.toNat) := by
        rw [← h22w, pw_g_ne (by omega), ← h20w, pw_g_ne (by omega), ← h19w, pw_g_ne (by omega), ← h16w, pw_g_ne (by omega), ← h15w]
        exact pw_g_eqA h13I rfl (by decide) (by omega) (by omega)
      have r5 : pw_g h13 132 (k.toNat) = pw_g h 132 (k.toNat) := by rw [← h13w, pw_g_ne (by omega), ← h10w, pw_g_ne (by omega), ← h9w, pw_g_ne (by omega), ← h7w, pw_g_ne (by omega), ← h5w, pw_g_ne (by omega)]
      have t5 : pw_g h22 149 5 = (pw_g h 132 k.toNat) := f5.trans (r5.trans rfl)
      have f6 : pw_g h22 149 6 = mo := by
        rw [← h22w, pw_g_ne (by omega), ← h20w, pw_g_ne (by omega), ← h19w, pw_g_ne (by omega), ← h16w]
        exact pw_g_eqA h15I rfl (by decide) (by omega) (by omega)
      have t6 : pw_g h22 149 6 = mo := f6.trans (rfl)
      have f7 : pw_g h22 149 7 = pw_g h16 137 (((12 * (pw_g h16 132 (k.toNat))) + mo).toNat) := by
        rw [← h22w, pw_g_ne (by omega), ← h20w, pw_g_ne (by omega), ← h19w]
        exact pw_g_eqA h16I rfl (by decide) (by omega) (by omega)
      have q7 : pw_g h16 132 k.toNat = pw_g h 132 k.toNat := by rw [← h16w, pw_g_ne (by omega), ← h15w, pw_g_ne (by omega), ← h13w, pw_g_ne (by omega), ← h10w, pw_g_ne (by omega), ← h9w, pw_g_ne (by omega), ← h7w, pw_g_ne (by omega), ← h5w, pw_g_ne (by omega)]
      have r7 : pw_g h16 137 (((12 * (pw_g h16 132 (k.toNat))) + mo).toNat) = pw_g h 137 (((12 * (pw_g h 132 (k.toNat))) + mo).toNat) := by rw [q7, ← h16w, pw_g_ne (by omega), ← h15w, pw_g_ne (by omega), ← h13w, pw_g_ne (by omega), ← h10w, pw_g_ne (by omega), ← h9w, pw_g_ne (by omega), ← h7w, pw_g_ne (by omega), ← h5w, pw_g_ne (by omega)]
      have t7 : pw_g h22 149 7 = (pw_g h 137 (12 * (pw_g h 132 k.toNat) + mo).toNat) := f7.trans (r7.trans rfl)
      have f8 : pw_g h22 149 8 = dr := by
        rw [← h22w, pw_g_ne (by omega), ← h20w]
        exact pw_g_eqA h19I rfl (by decide) (by omega) (by omega)
      have t8 : pw_g h22 149 8 = dr := f8.trans (rfl)
      have f9 : pw_g h22 149 9 = 0 := by
        rw [← h22w]
        exact pw_g_eqA h20I rfl (by decide) (by omega) (by omega)
      have t9 : pw_g h22 149 9 = if p = -1 then 1 else 0 := f9.trans ((by first | exact (if_pos (by omega)).symm | exact (if_neg (by omega)).symm))
      have hF : pe_F h22 149 10 = (pu_ft p (pw_g h 133 k.toNat) (pw_g h 136 (12 * (pw_g h 132 k.toNat) + mo).toNat) (pw_g h 132 k.toNat) mo (pw_g h 137 (12 * (pw_g h 132 k.toNat) + mo).toNat) dr) := pu_FE t0 t1 t2 t3 t4 t5 t6 t7 t8 t9
      clear f0 f1 f2 f3 f4 f5 f6 f7 f8 f9 t2 t3 t4 t5 t6 t7 t8 t9
      refine pw_ld E (pc' := 188) (st' := [pw_i (pw_g h 153 ((((12 * k) + mo) - 1).toNat))]) rfl (fun _ => rfl) ?_
      refine pw_if E (pc' := 208) rfl (by decide) (by omega) (by omega) ?_ ?_
      · intro hc23
        change pw_g h 153 ((((12 * k) + mo) - 1).toNat) = (0 : Int) at hc23
        refine pw_ld E (pc' := 209) (st' := [.ref 141]) rfl (fun _ => rfl) ?_
        refine pw_ld E (pc' := 210) (st' := [pw_i l, .ref 141]) rfl (fun _ => rfl) ?_
        refine pw_ld E (pc' := 211) (st' := [pw_i 2, pw_i l, .ref 141]) rfl (fun _ => rfl) ?_
        have hMS : pt_MS h22 l th C := hp1.fr I h22F rfl rfl rfl
        have hgd : th 2 = 1 → pe_ok 9 (C 2) ∧ pe_h (C 2) = 1 := fun q => hp2 2 (by omega) (by decide)
        obtain ⟨f24l, f24h, -⟩ := pw_obj (c := 125) h22I rfl
        refine pw_call (m' := 262) (As := [.ref 141, pw_i l, pw_i 2]) (rest := []) (ls'' := [some (.ref 141), some (pw_i l), some (pw_i 2)]) (Nat.le_trans (by decide) hd) E rfl (fun _ => pw_iV rfl rfl rfl rfl (pw_cellI f24h rfl)) (rfl : pm_ent 262 = some (3, 3, 12, 1, pmc_262)) rfl rfl (cm_262_x (pw_dp hd (by decide)) h22I (l) (by omega) (by omega) (2) (by omega) (by omega) th C hMS hgd) ?_
        rintro h25 v26 ⟨h25I, h25E, x27, rfl, hx27a, hx27b, hx27r⟩
        refine ⟨_, rfl, ?_⟩
        have h25F := h22F.tr (h25E.wk (W' := [149, 150, 151, 152, 153]) (by first | rfl | simp))
        show pw X d h25 261 214 [some (.ref 141), some (pw_i l), some (pw_i k), some (pw_i mo), some (pw_i dr), some (pw_i ((12 * k) + mo)), some (pw_i (pw_g h 136 (((12 * (pw_g h 132 (k.toNat))) + mo).toNat))), some (pw_i (pw_g h 153 ((((12 * k) + mo) - 1).toNat))), none] [pw_i x27] _
        change (x27 = 1 ∧ th 2 = 1 ∧ ((pe_s (pe_F h22 149 10) (C 2)).getD 0 0) ≠ 0) ∨ (x27 = 0 ∧ ¬ (th 2 = 1 ∧ ((pe_s (pe_F h22 149 10) (C 2)).getD 0 0) ≠ 0)) at hx27r
        rw [hF] at hx27r
        refine pw_ist E (pc' := 216) (ls' := [some (.ref 141), some (pw_i l), some (pw_i k), some (pw_i mo), some (pw_i dr), some (pw_i ((12 * k) + mo)), some (pw_i (pw_g h 136 (((12 * (pw_g h 132 (k.toNat))) + mo).toNat))), some (pw_i (pw_g h 153 ((((12 * k) + mo) - 1).toNat))), some (pw_i x27)]) rfl rfl rfl rfl ?_
        have hO : pu_o th C (pu_ft p (pw_g h 133 k.toNat) (pw_g h 136 (12 * (pw_g h 132 k.toNat) + mo).toNat) (pw_g h 132 k.toNat) mo (pw_g h 137 (12 * (pw_g h 132 k.toNat) + mo).toNat) dr) p = 1 - x27 := by unfold pu_o pu_v; (repeat' split) <;> omega
        refine pw_ld E (pc' := 217) (st' := [.ref 141]) rfl (fun _ => rfl) ?_
        refine pw_getR (b := 169) h25I E (c := 125) (k := 40) (pc' := 220) rfl rfl rfl rfl rfl rfl rfl ?_
        refine pw_ld E (pc' := 222) (st' := [pw_i ((12 * k) + mo), .ref 169]) rfl (fun _ => rfl) ?_
        refine pw_ld E (pc' := 224) (st' := [pw_i x27, pw_i ((12 * k) + mo), .ref 169]) rfl (fun _ => rfl) ?_
        refine pw_ast0 h25I E (c := 153) (pc' := 225) rfl rfl rfl (by decide) rfl (by decide) (by omega) (by omega) (pw_b1 (by omega) (by omega)) (by omega) (by omega) (by omega) (by omega) rfl ?_
        intro h28I h28E
        generalize h28w : pw_w h25 153 (((12 * k) + mo).toNat) (pw_i x27) = h28 at h28I h28E ⊢
        have h28F := h25F.tr (h28E.wk (W' := [149, 150, 151, 152, 153]) (by first | rfl | simp))
        refine pw_ld E (pc' := 226) (st' := [.ref 141]) rfl (fun _ => rfl) ?_
        refine pw_getR (b := 167) h28I E (c := 125) (k := 38) (pc' := 229) rfl rfl rfl rfl rfl rfl rfl ?_
        refine pw_ld E (pc' := 231) (st' := [pw_i ((12 * k) + mo), .ref 167]) rfl (fun _ => rfl) ?_
        refine pw_ld E (pc' := 233) (st' := [pw_i x27, pw_i ((12 * k) + mo), .ref 167]) rfl (fun _ => rfl) ?_
        refine pw_if E (pc' := 240) rfl (by decide) (by omega) (by omega) ?_ ?_
        · intro hc29
          change x27 = (0 : Int) at hc29
          refine pw_ld E (pc' := 241) (st' := [.ref 141, pw_i ((12 * k) + mo), .ref 167]) rfl (fun _ => rfl) ?_
          refine pw_ld E (pc' := 242) (st' := [pw_i l, .ref 141, pw_i ((12 * k) + mo), .ref 167]) rfl (fun _ => rfl) ?_
          refine pw_ld E (pc' := 243) (st' := [pw_i 0, pw_i l, .ref 141, pw_i ((12 * k) + mo), .ref 167]) rfl (fun _ => rfl) ?_
          refine pw_ld E (pc' := 244) (st' := [.ref 141, pw_i 0, pw_i l, .ref 141, pw_i ((12 * k) + mo), .ref 167]) rfl (fun _ => rfl) ?_
          refine pw_getR (b := 165) h28I E (c := 125) (k := 36) (pc' := 247) rfl rfl rfl rfl rfl rfl rfl ?_
          refine pw_ld E (pc' := 248) (st' := [pw_i 0, .ref 165, pw_i 0, pw_i l, .ref 141, pw_i ((12 * k) + mo), .ref 167]) rfl (fun _ => rfl) ?_
          have he31 : pw_g h28 149 (Int.toNat 0) = pw_g h25 149 (Int.toNat 0) := by rw [← h28w]; exact pw_g_ne (by omega)
          have he32 : pw_g h25 149 (Int.toNat 0) = pw_g h22 149 (Int.toNat 0) := pw_Eg (c := 149) h22I h25E rfl rfl _
          have he33 : pw_g h22 149 (Int.toNat 0) = pw_g h20 149 (Int.toNat 0) := by rw [← h22w]; exact pw_g_ne (by omega)
          have he34 : pw_g h20 149 (Int.toNat 0) = pw_g h19 149 (Int.toNat 0) := by rw [← h20w]; exact pw_g_ne (by omega)
          have he35 : pw_g h19 149 (Int.toNat 0) = pw_g h16 149 (Int.toNat 0) := by rw [← h19w]; exact pw_g_ne (by omega)
          have he36 : pw_g h16 149 (Int.toNat 0) = pw_g h15 149 (Int.toNat 0) := by rw [← h16w]; exact pw_g_ne (by omega)
          have he37 : pw_g h15 149 (Int.toNat 0) = pw_g h13 149 (Int.toNat 0) := by rw [← h15w]; exact pw_g_ne (by omega)
          have he38 : pw_g h13 149 (Int.toNat 0) = pw_g h10 149 (Int.toNat 0) := by rw [← h13w]; exact pw_g_ne (by omega)
          have he39 : pw_g h10 149 (Int.toNat 0) = pw_g h9 149 (Int.toNat 0) := by rw [← h10w]; exact pw_g_ne (by omega)
          have he40 : pw_g h9 149 (Int.toNat 0) = pw_g h7 149 (Int.toNat 0) := by rw [← h9w]; exact pw_g_ne (by omega)
          have he41 : pw_g h7 149 (Int.toNat 0) = pw_g h5 149 (Int.toNat 0) := by rw [← h7w]; exact pw_g_ne (by omega)
          have he42 : pw_g h5 149 (Int.toNat 0) = pw_g h 151 ((((12 * k) + mo) - 1).toNat) := by rw [← h5w]; exact pw_g_eqA (c := 149) I rfl (by decide) (by omega) (by omega)
          refine pw_ald2 h28I E (c := 149) (pc' := 249) rfl rfl rfl (by decide) rfl (by decide) (by omega) (by omega) rfl (fun hf30a hf30b => ?_)
          have hwas : pw_g h28 149 (Int.toNat 0) = max 0 p / 100 := by
            have e : pw_g h28 149 0 = pw_g h22 149 0 := by rw [← h28w, pw_g_ne (by omega), pw_Eg (c := 149) h22I h25E rfl rfl _]
            exact e.trans t0
          have hwb : 0 ≤ pw_g h28 149 (Int.toNat 0) ∧ pw_g h28 149 (Int.toNat 0) ≤ 99 := by rw [hwas]; omega
          have hw0 : _ = (pu_ft p (pw_g h 133 k.toNat) (pw_g h 136 (12 * (pw_g h 132 k.toNat) + mo).toNat) (pw_g h 132 k.toNat) mo (pw_g h 137 (12 * (pw_g h 132 k.toNat) + mo).toNat) dr) 0 := hwas.trans pu_ft0.symm
          have hMS : pt_MS h28 l th C := hp1.fr I h28F rfl rfl rfl
          have hgd : th 0 = 1 → pe_ok 9 (C 0) ∧ pe_h (C 0) = 1 := fun q => hp2 0 (by omega) (by decide)
          obtain ⟨f43l, f43h, -⟩ := pw_obj (c := 125) h28I rfl
          refine pw_call (m' := 266) (As := [.ref 141, pw_i l, pw_i 0, pw_i (pw_g h28 149 (Int.toNat 0))]) (rest := [pw_i ((12 * k) + mo), .ref 167]) (ls'' := [some (.ref 141), some (pw_i l), some (pw_i 0), some (pw_i (pw_g h28 149 (Int.toNat 0))), none]) (Nat.le_trans (by decide) hd) E rfl (fun _ => pw_iV rfl rfl rfl rfl (pw_cellI f43h rfl)) (rfl : pm_ent 266 = some (4, 5, 12, 0, pmc_266)) rfl rfl (cm_266_x (pw_dp hd (by decide)) h28I (l) (by omega) (by omega) (0) (by omega) (by omega) (pw_g h28 149 (Int.toNat 0)) (by omega) (by omega) th C hMS hgd) ?_
          rintro h44 v45 ⟨h44I, h44E, x46, rfl, hx46a, hx46b, hx46r⟩
          refine ⟨_, rfl, ?_⟩
          have h44F := h28F.tr (h44E.wk (W' := [149, 150, 151, 152, 153]) (by first | rfl | simp))
          show pw X d h44 261 252 [some (.ref 141), some (pw_i l), some (pw_i k), some (pw_i mo), some (pw_i dr), some (pw_i ((12 * k) + mo)), some (pw_i (pw_g h 136 (((12 * (pw_g h 132 (k.toNat))) + mo).toNat))), some (pw_i (pw_g h 153 ((((12 * k) + mo) - 1).toNat))), some (pw_i x27)] [pw_i x46, pw_i ((12 * k) + mo), .ref 167] _
          change (th 0 = 0 ∧ x46 = (pw_g h28 149 (Int.toNat 0))) ∨ (th 0 = 1 ∧ ((((pe_s (pe_F h28 149 10) (C 0)).getD 0 0) < 0 ∧ x46 = 0) ∨ (99 < ((pe_s (pe_F h28 149 10) (C 0)).getD 0 0) ∧ x46 = 99) ∨ (0 ≤ ((pe_s (pe_F h28 149 10) (C 0)).getD 0 0) ∧ ((pe_s (pe_F h28 149 10) (C 0)).getD 0 0) ≤ 99 ∧ x46 = ((pe_s (pe_F h28 149 10) (C 0)).getD 0 0)))) at hx46r
          rw [pe_Fcg (h := h22) (h' := h28) (r := 149) (fun j => by rw [← h28w, pw_g_ne (by omega), pw_Eg (c := 149) h22I h25E rfl rfl _])] at hx46r
          rw [hF] at hx46r
          refine pw_ast0 h44I E (c := 151) (pc' := 253) rfl rfl rfl (by decide) rfl (by decide) (by omega) (by omega) rfl (by omega) (by omega) (by omega) (by omega) rfl ?_
          intro h47I h47E
          generalize h47w : pw_w h44 151 (((12 * k) + mo).toNat) (pw_i x46) = h47 at h47I h47E ⊢
          have h47F := h44F.tr (h47E.wk (W' := [149, 150, 151, 152, 153]) (by first | rfl | simp))
          refine pw_ld E (pc' := 254) (st' := [.ref 141]) rfl (fun _ => rfl) ?_
          refine pw_getR (b := 168) h47I E (c := 125) (k := 39) (pc' := 257) rfl rfl rfl rfl rfl rfl rfl ?_
          refine pw_ld E (pc' := 259) (st' := [pw_i ((12 * k) + mo), .ref 168]) rfl (fun _ => rfl) ?_
          refine pw_ld E (pc' := 261) (st' := [pw_i x27, pw_i ((12 * k) + mo), .ref 168]) rfl (fun _ => rfl) ?_
          refine pw_if E (pc' := 268) rfl (by decide) (by omega) (by omega) ?_ ?_
          · intro hc48
            change x27 = (0 : Int) at hc48
            refine pw_ld E (pc' := 269) (st' := [.ref 141, pw_i ((12 * k) + mo), .ref 168]) rfl (fun _ => rfl) ?_
            refine pw_ld E (pc' := 270) (st' := [pw_i l, .ref 141, pw_i ((12 * k) + mo), .ref 168]) rfl (fun _ => rfl) ?_
            refine pw_ld E (pc' := 271) (st' := [pw_i 1, pw_i l, .ref 141, pw_i ((12 * k) + mo), .ref 168]) rfl (fun _ => rfl) ?_
            refine pw_ld E (pc' := 272) (st' := [.ref 141, pw_i 1, pw_i l, .ref 141, pw_i ((12 * k) + mo), .ref 168]) rfl (fun _ => rfl) ?_
            refine pw_getR (b := 165) h47I E (c := 125) (k := 36) (pc' := 275) rfl rfl rfl rfl rfl rfl rfl ?_
            refine pw_ld E (pc' := 276) (st' := [pw_i 1, .ref 165, pw_i 1, pw_i l, .ref 141, pw_i ((12 * k) + mo), .ref 168]) rfl (fun _ => rfl) ?_
            have he50 : pw_g h47 149 (Int.toNat 1) = pw_g h44 149 (Int.toNat 1) := by rw [← h47w]; exact pw_g_ne (by omega)
            have he51 : pw_g h44 149 (Int.toNat 1) = pw_g h28 149 (Int.toNat 1) := pw_Eg (c := 149) h28I h44E rfl rfl _
            have he52 : pw_g h28 149 (Int.toNat 1) = pw_g h25 149 (Int.toNat 1) := by rw [← h28w]; exact pw_g_ne (by omega)
            have he53 : pw_g h25 149 (Int.toNat 1) = pw_g h22 149 (Int.toNat 1) := pw_Eg (c := 149) h22I h25E rfl rfl _
            have he54 : pw_g h22 149 (Int.toNat 1) = pw_g h20 149 (Int.toNat 1) := by rw [← h22w]; exact pw_g_ne (by omega)
            have he55 : pw_g h20 149 (Int.toNat 1) = pw_g h19 149 (Int.toNat 1) := by rw [← h20w]; exact pw_g_ne (by omega)
            have he56 : pw_g h19 149 (Int.toNat 1) = pw_g h16 149 (Int.toNat 1) := by rw [← h19w]; exact pw_g_ne (by omega)
            have he57 : pw_g h16 149 (Int.toNat 1) = pw_g h15 149 (Int.toNat 1) := by rw [← h16w]; exact pw_g_ne (by omega)
            have he58 : pw_g h15 149 (Int.toNat 1) = pw_g h13 149 (Int.toNat 1) := by rw [← h15w]; exact pw_g_ne (by omega)
            have he59 : pw_g h13 149 (Int.toNat 1) = pw_g h10 149 (Int.toNat 1) := by rw [← h13w]; exact pw_g_ne (by omega)
            have he60 : pw_g h10 149 (Int.toNat 1) = pw_g h9 149 (Int.toNat 1) := by rw [← h10w]; exact pw_g_ne (by omega)
            have he61 : pw_g h9 149 (Int.toNat 1) = pw_g h7 149 (Int.toNat 1) := by rw [← h9w]; exact pw_g_ne (by omega)
            have he62 : pw_g h7 149 (Int.toNat 1) = pw_g h5 152 ((((12 * k) + mo) - 1).toNat) := by rw [← h7w]; exact pw_g_eqA (c := 149) h5I rfl (by decide) (by omega) (by omega)
            refine pw_ald2 h47I E (c := 149) (pc' := 277) rfl rfl rfl (by decide) rfl (by decide) (by omega) (by omega) rfl (fun hf49a hf49b => ?_)
            have hwas : pw_g h47 149 (Int.toNat 1) = max 0 p % 100 := by
              have e : pw_g h47 149 1 = pw_g h22 149 1 := by rw [← h47w, pw_g_ne (by omega), pw_Eg (c := 149) h28I h44E rfl rfl _, ← h28w, pw_g_ne (by omega), pw_Eg (c := 149) h22I h25E rfl rfl _]
              exact e.trans t1
            have hwb : 0 ≤ pw_g h47 149 (Int.toNat 1) ∧ pw_g h47 149 (Int.toNat 1) ≤ 99 := by rw [hwas]; omega
            have hw1 : _ = (pu_ft p (pw_g h 133 k.toNat) (pw_g h 136 (12 * (pw_g h 132 k.toNat) + mo).toNat) (pw_g h 132 k.toNat) mo (pw_g h 137 (12 * (pw_g h 132 k.toNat) + mo).toNat) dr) 1 := hwas.trans pu_ft1.symm
            have hMS : pt_MS h47 l th C := hp1.fr I h47F rfl rfl rfl
            have hgd : th 1 = 1 → pe_ok 9 (C 1) ∧ pe_h (C 1) = 1 := fun q => hp2 1 (by omega) (by decide)
            obtain ⟨f63l, f63h, -⟩ := pw_obj (c := 125) h47I rfl
            refine pw_call (m' := 266) (As := [.ref 141, pw_i l, pw_i 1, pw_i (pw_g h47 149 (Int.toNat 1))]) (rest := [pw_i ((12 * k) + mo), .ref 168]) (ls'' := [some (.ref 141), some (pw_i l), some (pw_i 1), some (pw_i (pw_g h47 149 (Int.toNat 1))), none]) (Nat.le_trans (by decide) hd) E rfl (fun _ => pw_iV rfl rfl rfl rfl (pw_cellI f63h rfl)) (rfl : pm_ent 266 = some (4, 5, 12, 0, pmc_266)) rfl rfl (cm_266_x (pw_dp hd (by decide)) h47I (l) (by omega) (by omega) (1) (by omega) (by omega) (pw_g h47 149 (Int.toNat 1)) (by omega) (by omega) th C hMS hgd) ?_
            rintro h64 v65 ⟨h64I, h64E, x66, rfl, hx66a, hx66b, hx66r⟩
            refine ⟨_, rfl, ?_⟩
            have h64F := h47F.tr (h64E.wk (W' := [149, 150, 151, 152, 153]) (by first | rfl | simp))
            show pw X d h64 261 280 [some (.ref 141), some (pw_i l), some (pw_i k), some (pw_i mo), some (pw_i dr), some (pw_i ((12 * k) + mo)), some (pw_i (pw_g h 136 (((12 * (pw_g h 132 (k.toNat))) + mo).toNat))), some (pw_i (pw_g h 153 ((((12 * k) + mo) - 1).toNat))), some (pw_i x27)] [pw_i x66, pw_i ((12 * k) + mo), .ref 168] _
            change (th 1 = 0 ∧ x66 = (pw_g h47 149 (Int.toNat 1))) ∨ (th 1 = 1 ∧ ((((pe_s (pe_F h47 149 10) (C 1)).getD 0 0) < 0 ∧ x66 = 0) ∨ (99 < ((pe_s (pe_F h47 149 10) (C 1)).getD 0 0) ∧ x66 = 99) ∨ (0 ≤ ((pe_s (pe_F h47 149 10) (C 1)).getD 0 0) ∧ ((pe_s (pe_F h47 149 10) (C 1)).getD 0 0) ≤ 99 ∧ x66 = ((pe_s (pe_F h47 149 10) (C 1)).getD 0 0)))) at hx66r
            rw [pe_Fcg (h := h22) (h' := h47) (r := 149) (fun j => by rw [← h47w, pw_g_ne (by omega), pw_Eg (c := 149) h28I h44E rfl rfl _, ← h28w, pw_g_ne (by omega), pw_Eg (c := 149) h22I h25E rfl rfl _])] at hx66r
            rw [hF] at hx66r
            refine pw_ast0 h64I E (c := 152) (pc' := 281) rfl rfl rfl (by decide) rfl (by decide) (by omega) (by omega) rfl (by omega) (by omega) (by omega) (by omega) rfl ?_
            intro h67I h67E
            generalize h67w : pw_w h64 152 (((12 * k) + mo).toNat) (pw_i x66) = h67 at h67I h67E ⊢
            have h67F := h64F.tr (h67E.wk (W' := [149, 150, 151, 152, 153]) (by first | rfl | simp))
            have a153 : pw_g h67 153 (12 * k + mo).toNat = x27 := by
              rw [← h67w, pw_g_ne (by omega), pw_Eg (c := 153) h47I h64E rfl rfl _, ← h47w, pw_g_ne (by omega), pw_Eg (c := 153) h28I h44E rfl rfl _, ← h28w]
              exact pw_g_eqA h25I rfl (by omega) (by omega) (by omega)
            have b153 : ∀ j : Nat, j ≠ (12 * k + mo).toNat → pw_g h67 153 j = pw_g h 153 j := fun j hj => by rw [← h67w, pw_g_ne (by omega), pw_Eg (c := 153) h47I h64E rfl rfl _, ← h47w, pw_g_ne (by omega), pw_Eg (c := 153) h28I h44E rfl rfl _, ← h28w, pw_g_ne (fun q => hj q.2.symm), pw_Eg (c := 153) h22I h25E rfl rfl _, ← h22w, pw_g_ne (by omega), ← h20w, pw_g_ne (by omega), ← h19w, pw_g_ne (by omega), ← h16w, pw_g_ne (by omega), ← h15w, pw_g_ne (by omega), ← h13w, pw_g_ne (by omega), ← h10w, pw_g_ne (by omega), ← h9w, pw_g_ne (by omega), ← h7w, pw_g_ne (by omega), ← h5w, pw_g_ne (by omega)]
            have a151 : pw_g h67 151 (12 * k + mo).toNat = x46 := by
              rw [← h67w, pw_g_ne (by omega), pw_Eg (c := 151) h47I h64E rfl rfl _, ← h47w]
              exact pw_g_eqA h44I rfl (by omega) (by omega) (by omega)
            have b151 : ∀ j : Nat, j ≠ (12 * k + mo).toNat → pw_g h67 151 j = pw_g h 151 j := fun j hj => by rw [← h67w, pw_g_ne (by omega), pw_Eg (c := 151) h47I h64E rfl rfl _, ← h47w, pw_g_ne (fun q => hj q.2.symm), pw_Eg (c := 151) h28I h44E rfl rfl _, ← h28w, pw_g_ne (by omega), pw_Eg (c := 151) h22I h25E rfl rfl _, ← h22w, pw_g_ne (by omega), ← h20w, pw_g_ne (by omega), ← h19w, pw_g_ne (by omega), ← h16w, pw_g_ne (by omega), ← h15w, pw_g_ne (by omega), ← h13w, pw_g_ne (by omega), ← h10w, pw_g_ne (by omega), ← h9w, pw_g_ne (by omega), ← h7w, pw_g_ne (by omega), ← h5w, pw_g_ne (by omega)]
            have a152 : pw_g h67 152 (12 * k + mo).toNat = x66 := by
              rw [← h67w]
              exact pw_g_eqA h64I rfl (by omega) (by omega) (by omega)
            have b152 : ∀ j : Nat, j ≠ (12 * k + mo).toNat → pw_g h67 152 j = pw_g h 152 j := fun j hj => by rw [← h67w, pw_g_ne (fun q => hj q.2.symm), pw_Eg (c := 152) h47I h64E rfl rfl _, ← h47w, pw_g_ne (by omega), pw_Eg (c := 152) h28I h44E rfl rfl _, ← h28w, pw_g_ne (by omega), pw_Eg (c := 152) h22I h25E rfl rfl _, ← h22w, pw_g_ne (by omega), ← h20w, pw_g_ne (by omega), ← h19w, pw_g_ne (by omega), ← h16w, pw_g_ne (by omega), ← h15w, pw_g_ne (by omega), ← h13w, pw_g_ne (by omega), ← h10w, pw_g_ne (by omega), ← h9w, pw_g_ne (by omega), ← h7w, pw_g_ne (by omega), ← h5w, pw_g_ne (by omega)]
            refine pw_vret E rfl ?_
            have hy0 := pu_nM (F := (pu_ft p (pw_g h 133 k.toNat) (pw_g h 136 (12 * (pw_g h 132 k.toNat) + mo).toNat) (pw_g h 132 k.toNat) mo (pw_g h 137 (12 * (pw_g h 132 k.toNat) + mo).toNat) dr)) (k := 0) (hx46r.imp (fun q => ⟨q.1, q.2.trans hw0⟩) id)
            have hy1 := pu_nM (F := (pu_ft p (pw_g h 133 k.toNat) (pw_g h 136 (12 * (pw_g h 132 k.toNat) + mo).toNat) (pw_g h 132 k.toNat) mo (pw_g h 137 (12 * (pw_g h 132 k.toNat) + mo).toNat) dr)) (k := 1) (hx66r.imp (fun q => ⟨q.1, q.2.trans hw1⟩) id)
            exact ⟨h67I, h67F, ⟨pu_Wr.n (by omega) (by omega) (a151.trans hy0) (a152.trans hy1) (by omega) (by omega) (by omega) (by omega), fun j hj => ⟨b153 j hj, b151 j hj, b152 j hj⟩⟩, rfl⟩
          · intro hc68
            change ¬ (x27 = (0 : Int)) at hc68
            exfalso; omega
        · intro hc69
          change ¬ (x27 = (0 : Int)) at hc69
          refine pw_ld E (pc' := 237) (st' := [pw_i 0, pw_i ((12 * k) + mo), .ref 167]) rfl (fun _ => rfl) ?_
          refine pw_goto E (pc' := 252) rfl (by decide) ?_
          refine pw_ast0 h28I E (c := 151) (pc' := 253) rfl rfl rfl (by decide) rfl (by decide) (by omega) (by omega) rfl (by omega) (by omega) (by omega) (by omega) rfl ?_
          intro h70I h70E
          generalize h70w : pw_w h28 151 (((12 * k) + mo).toNat) (pw_i 0) = h70 at h70I h70E ⊢
          have h70F := h28F.tr (h70E.wk (W' := [149, 150, 151, 152, 153]) (by first | rfl | simp))
          refine pw_ld E (pc' := 254) (st' := [.ref 141]) rfl (fun _ => rfl) ?_
          refine pw_getR (b := 168) h70I E (c := 125) (k := 39) (pc' := 257) rfl rfl rfl rfl rfl rfl rfl ?_
          refine pw_ld E (pc' := 259) (st' := [pw_i ((12 * k) + mo), .ref 168]) rfl (fun _ => rfl) ?_
          refine pw_ld E (pc' := 261) (st' := [pw_i x27, pw_i ((12 * k) + mo), .ref 168]) rfl (fun _ => rfl) ?_
          refine pw_if E (pc' := 268) rfl (by decide) (by omega) (by omega) ?_ ?_
          · intro hc71
            change x27 = (0 : Int) at hc71
            exfalso; omega
          · intro hc72
            change ¬ (x27 = (0 : Int)) at hc72
            refine pw_ld E (pc' := 265) (st' := [pw_i 0, pw_i ((12 * k) + mo), .ref 168]) rfl (fun _ => rfl) ?_
            refine pw_goto E (pc' := 280) rfl (by decide) ?_
            refine pw_ast0 h70I E (c := 152) (pc' := 281) rfl rfl rfl (by decide) rfl (by decide) (by omega) (by omega) rfl (by omega) (by omega) (by omega) (by omega) rfl ?_
            intro h73I h73E
            generalize h73w : pw_w h70 152 (((12 * k) + mo).toNat) (pw_i 0) = h73 at h73I h73E ⊢
            have h73F := h70F.tr (h73E.wk (W' := [149, 150, 151, 152, 153]) (by first | rfl | simp))
            have a153 : pw_g h73 153 (12 * k + mo).toNat = x27 := by
              rw [← h73w, pw_g_ne (by omega), ← h70w, pw_g_ne (by omega), ← h28w]
              exact pw_g_eqA h25I rfl (by omega) (by omega) (by omega)
            have b153 : ∀ j : Nat, j ≠ (12 * k + mo).toNat → pw_g h73 153 j = pw_g h 153 j := fun j hj => by rw [← h73w, pw_g_ne (by omega), ← h70w, pw_g_ne (by omega), ← h28w, pw_g_ne (fun q => hj q.2.symm), pw_Eg (c := 153) h22I h25E rfl rfl _, ← h22w, pw_g_ne (by omega), ← h20w, pw_g_ne (by omega), ← h19w, pw_g_ne (by omega), ← h16w, pw_g_ne (by omega), ← h15w, pw_g_ne (by omega), ← h13w, pw_g_ne (by omega), ← h10w, pw_g_ne (by omega), ← h9w, pw_g_ne (by omega), ← h7w, pw_g_ne (by omega), ← h5w, pw_g_ne (by omega)]
            have a151 : pw_g h73 151 (12 * k + mo).toNat = 0 := by
              rw [← h73w, pw_g_ne (by omega), ← h70w]
              exact pw_g_eqA h28I rfl (by omega) (by omega) (by omega)
            have b151 : ∀ j : Nat, j ≠ (12 * k + mo).toNat → pw_g h73 151 j = pw_g h 151 j := fun j hj => by rw [← h73w, pw_g_ne (by omega), ← h70w, pw_g_ne (fun q => hj q.2.symm), ← h28w, pw_g_ne (by omega), pw_Eg (c := 151) h22I h25E rfl rfl _, ← h22w, pw_g_ne (by omega), ← h20w, pw_g_ne (by omega), ← h19w, pw_g_ne (by omega), ← h16w, pw_g_ne (by omega), ← h15w, pw_g_ne (by omega), ← h13w, pw_g_ne (by omega), ← h10w, pw_g_ne (by omega), ← h9w, pw_g_ne (by omega), ← h7w, pw_g_ne (by omega), ← h5w, pw_g_ne (by omega)]
            have a152 : pw_g h73 152 (12 * k + mo).toNat = 0 := by
              rw [← h73w]
              exact pw_g_eqA h70I rfl (by omega) (by omega) (by omega)
            have b152 : ∀ j : Nat, j ≠ (12 * k + mo).toNat → pw_g h73 152 j = pw_g h 152 j := fun j hj => by rw [← h73w, pw_g_ne (fun q => hj q.2.symm), ← h70w, pw_g_ne (by omega), ← h28w, pw_g_ne (by omega), pw_Eg (c := 152) h22I h25E rfl rfl _, ← h22w, pw_g_ne (by omega), ← h20w, pw_g_ne (by omega), ← h19w, pw_g_ne (by omega), ← h16w, pw_g_ne (by omega), ← h15w, pw_g_ne (by omega), ← h13w, pw_g_ne (by omega), ← h10w, pw_g_ne (by omega), ← h9w, pw_g_ne (by omega), ← h7w, pw_g_ne (by omega), ← h5w, pw_g_ne (by omega)]
            refine pw_vret E rfl ?_
            exact ⟨h73I, h73F, ⟨pu_Wr.s (by omega) (by omega) a151 a152, fun j hj => ⟨b153 j hj, b151 j hj, b152 j hj⟩⟩, rfl⟩
      · intro hc74
        change ¬ (pw_g h 153 ((((12 * k) + mo) - 1).toNat) = (0 : Int)) at hc74
        exfalso; omega
    · intro hc75
      change ¬ (pw_g h 153 ((((12 * k) + mo) - 1).toNat) = (0 : Int)) at hc75
      refine pw_ld E (pc' := 181) (st' := [pw_i 1, pw_i 9, .ref 165]) rfl (fun _ => rfl) ?_
      refine pw_goto E (pc' := 185) rfl (by decide) ?_
      refine pw_ast0 h20I E (c := 149) (pc' := 186) rfl rfl rfl (by decide) rfl (by decide) (by omega) (by omega) rfl (by omega) (by omega) (by omega) (by omega) rfl ?_
      intro h76I h76E
      generalize h76w : pw_w h20 149 (Int.toNat 9) (pw_i 1) = h76 at h76I h76E ⊢
      have h76F := h20F.tr (h76E.wk (W' := [149, 150, 151, 152, 153]) (by first | rfl | simp))
      have f0 : pw_g h76 149 0 = pw_g h 151 ((((12 * k) + mo) - 1).toNat) := by
        rw [← h76w, pw_g_ne (by omega), ← h20w, pw_g_ne (by omega), ← h19w, pw_g_ne (by omega), ← h16w, pw_g_ne (by omega), ← h15w, pw_g_ne (by omega), ← h13w, pw_g_ne (by omega), ← h10w, pw_g_ne (by omega), ← h9w, pw_g_ne (by omega), ← h7w, pw_g_ne (by omega), ← h5w]
        exact pw_g_eqA I rfl (by decide) (by omega) (by omega)
      have r0 : pw_g h 151 ((((12 * k) + mo) - 1).toNat) = pw_g h 151 ((((12 * k) + mo) - 1).toNat) := rfl
      have t0 : pw_g h76 149 0 = max 0 p / 100 := f0.trans (r0.trans (by omega))
      have f1 : pw_g h76 149 1 = pw_g h5 152 ((((12 * k) + mo) - 1).toNat) := by
        rw [← h76w, pw_g_ne (by omega), ← h20w, pw_g_ne (by omega), ← h19w, pw_g_ne (by omega), ← h16w, pw_g_ne (by omega), ← h15w, pw_g_ne (by omega), ← h13w, pw_g_ne (by omega), ← h10w, pw_g_ne (by omega), ← h9w, pw_g_ne (by omega), ← h7w]
        exact pw_g_eqA h5I rfl (by decide) (by omega) (by omega)
      have r1 : pw_g h5 152 ((((12 * k) + mo) - 1).toNat) = pw_g h 152 ((((12 * k) + mo) - 1).toNat) := by rw [← h5w, pw_g_ne (by omega)]
      have t1 : pw_g h76 149 1 = max 0 p % 100 := f1.trans (r1.trans (by omega))
      have f2 : pw_g h76 149 2 = pw_g h7 133 (k.toNat) := by
        rw [← h76w, pw_g_ne (by omega), ← h20w, pw_g_ne (by omega), ← h19w, pw_g_ne (by omega), ← h16w, pw_g_ne (by omega), ← h15w, pw_g_ne (by omega), ← h13w, pw_g_ne (by omega), ← h10w, pw_g_ne (by omega), ← h9w]
        exact pw_g_eqA h7I rfl (by decide) (by omega) (by omega)
      have r2 : pw_g h7 133 (k.toNat) = pw_g h 133 (k.toNat) := by rw [← h7w, pw_g_ne (by omega), ← h5w, pw_g_ne (by omega)]
      have t2 : pw_g h76 149 2 = (pw_g h 133 k.toNat) := f2.trans (r2.trans rfl)
      have f3 : pw_g h76 149 3 = pw_g h 136 (((12 * (pw_g h 132 (k.toNat))) + mo).toNat) := by
        rw [← h76w, pw_g_ne (by omega), ← h20w, pw_g_ne (by omega), ← h19w, pw_g_ne (by omega), ← h16w, pw_g_ne (by omega), ← h15w, pw_g_ne (by omega), ← h13w, pw_g_ne (by omega), ← h10w]
        exact pw_g_eqA h9I rfl (by decide) (by omega) (by omega)
      have r3 : pw_g h 136 (((12 * (pw_g h 132 (k.toNat))) + mo).toNat) = pw_g h 136 (((12 * (pw_g h 132 (k.toNat))) + mo).toNat) := rfl
      have t3 : pw_g h76 149 3 = (pw_g h 136 (12 * (pw_g h 132 k.toNat) + mo).toNat) := f3.trans (r3.trans rfl)
      have f4 : pw_g h76 149 4 = 0 := by
        rw [← h76w, pw_g_ne (by omega), ← h20w, pw_g_ne (by omega), ← h19w, pw_g_ne (by omega), ← h16w, pw_g_ne (by omega), ← h15w, pw_g_ne (by omega), ← h13w]
        exact pw_g_eqA h10I rfl (by decide) (by omega) (by omega)
      have t4 : pw_g h76 149 4 = max 0 ((pw_g h 136 (12 * (pw_g h 132 k.toNat) + mo).toNat) - (pw_g h 133 k.toNat)) := f4.trans ((by omega))
      have f5 : pw_g h76 149 5 = pw_g h13 132 (k.toNat) := by
        rw [← h76w, pw_g_ne (by omega), ← h20w, pw_g_ne (by omega), ← h19w, pw_g_ne (by omega), ← h16w, pw_g_ne (by omega), ← h15w]
        exact pw_g_eqA h13I rfl (by decide) (by omega) (by omega)
      have r5 : pw_g h13 132 (k.toNat) = pw_g h 132 (k.toNat) := by rw [← h13w, pw_g_ne (by omega), ← h10w, pw_g_ne (by omega), ← h9w, pw_g_ne (by omega), ← h7w, pw_g_ne (by omega), ← h5w, pw_g_ne (by omega)]
      have t5 : pw_g h76 149 5 = (pw_g h 132 k.toNat) := f5.trans (r5.trans rfl)
      have f6 : pw_g h76 149 6 = mo := by
        rw [← h76w, pw_g_ne (by omega), ← h20w, pw_g_ne (by omega), ← h19w, pw_g_ne (by omega), ← h16w]
        exact pw_g_eqA h15I rfl (by decide) (by omega) (by omega)
      have t6 : pw_g h76 149 6 = mo := f6.trans (rfl)
      have f7 : pw_g h76 149 7 = pw_g h16 137 (((12 * (pw_g h16 132 (k.toNat))) + mo).toNat) := by
        rw [← h76w, pw_g_ne (by omega), ← h20w, pw_g_ne (by omega), ← h19w]
        exact pw_g_eqA h16I rfl (by decide) (by omega) (by omega)
      have q7 : pw_g h16 132 k.toNat = pw_g h 132 k.toNat := by rw [← h16w, pw_g_ne (by omega), ← h15w, pw_g_ne (by omega), ← h13w, pw_g_ne (by omega), ← h10w, pw_g_ne (by omega), ← h9w, pw_g_ne (by omega), ← h7w, pw_g_ne (by omega), ← h5w, pw_g_ne (by omega)]
      have r7 : pw_g h16 137 (((12 * (pw_g h16 132 (k.toNat))) + mo).toNat) = pw_g h 137 (((12 * (pw_g h 132 (k.toNat))) + mo).toNat) := by rw [q7, ← h16w, pw_g_ne (by omega), ← h15w, pw_g_ne (by omega), ← h13w, pw_g_ne (by omega), ← h10w, pw_g_ne (by omega), ← h9w, pw_g_ne (by omega), ← h7w, pw_g_ne (by omega), ← h5w, pw_g_ne (by omega)]
      have t7 : pw_g h76 149 7 = (pw_g h 137 (12 * (pw_g h 132 k.toNat) + mo).toNat) := f7.trans (r7.trans rfl)
      have f8 : pw_g h76 149 8 = dr := by
        rw [← h76w, pw_g_ne (by omega), ← h20w]
        exact pw_g_eqA h19I rfl (by decide) (by omega) (by omega)
      have t8 : pw_g h76 149 8 = dr := f8.trans (rfl)
      have f9 : pw_g h76 149 9 = 1 := by
        rw [← h76w]
        exact pw_g_eqA h20I rfl (by decide) (by omega) (by omega)
      have t9 : pw_g h76 149 9 = if p = -1 then 1 else 0 := f9.trans ((by first | exact (if_pos (by omega)).symm | exact (if_neg (by omega)).symm))
      have hF : pe_F h76 149 10 = (pu_ft p (pw_g h 133 k.toNat) (pw_g h 136 (12 * (pw_g h 132 k.toNat) + mo).toNat) (pw_g h 132 k.toNat) mo (pw_g h 137 (12 * (pw_g h 132 k.toNat) + mo).toNat) dr) := pu_FE t0 t1 t2 t3 t4 t5 t6 t7 t8 t9
      clear f0 f1 f2 f3 f4 f5 f6 f7 f8 f9 t2 t3 t4 t5 t6 t7 t8 t9
      refine pw_ld E (pc' := 188) (st' := [pw_i (pw_g h 153 ((((12 * k) + mo) - 1).toNat))]) rfl (fun _ => rfl) ?_
      refine pw_if E (pc' := 208) rfl (by decide) (by omega) (by omega) ?_ ?_
      · intro hc77
        change pw_g h 153 ((((12 * k) + mo) - 1).toNat) = (0 : Int) at hc77
        exfalso; omega
      · intro hc78
        change ¬ (pw_g h 153 ((((12 * k) + mo) - 1).toNat) = (0 : Int)) at hc78
        refine pw_ld E (pc' := 192) (st' := [.ref 141]) rfl (fun _ => rfl) ?_
        refine pw_ld E (pc' := 193) (st' := [pw_i l, .ref 141]) rfl (fun _ => rfl) ?_
        refine pw_ld E (pc' := 194) (st' := [pw_i 3, pw_i l, .ref 141]) rfl (fun _ => rfl) ?_
        have hMS : pt_MS h76 l th C := hp1.fr I h76F rfl rfl rfl
        have hgd : th 3 = 1 → pe_ok 9 (C 3) ∧ pe_h (C 3) = 1 := fun q => hp2 3 (by omega) (by decide)
        obtain ⟨f79l, f79h, -⟩ := pw_obj (c := 125) h76I rfl
        refine pw_call (m' := 262) (As := [.ref 141, pw_i l, pw_i 3]) (rest := []) (ls'' := [some (.ref 141), some (pw_i l), some (pw_i 3)]) (Nat.le_trans (by decide) hd) E rfl (fun _ => pw_iV rfl rfl rfl rfl (pw_cellI f79h rfl)) (rfl : pm_ent 262 = some (3, 3, 12, 1, pmc_262)) rfl rfl (cm_262_x (pw_dp hd (by decide)) h76I (l) (by omega) (by omega) (3) (by omega) (by omega) th C hMS hgd) ?_
        rintro h80 v81 ⟨h80I, h80E, x82, rfl, hx82a, hx82b, hx82r⟩
        refine ⟨_, rfl, ?_⟩
        have h80F := h76F.tr (h80E.wk (W' := [149, 150, 151, 152, 153]) (by first | rfl | simp))
        show pw X d h80 261 197 [some (.ref 141), some (pw_i l), some (pw_i k), some (pw_i mo), some (pw_i dr), some (pw_i ((12 * k) + mo)), some (pw_i (pw_g h 136 (((12 * (pw_g h 132 (k.toNat))) + mo).toNat))), some (pw_i (pw_g h 153 ((((12 * k) + mo) - 1).toNat))), none] [pw_i x82] _
        change (x82 = 1 ∧ th 3 = 1 ∧ ((pe_s (pe_F h76 149 10) (C 3)).getD 0 0) ≠ 0) ∨ (x82 = 0 ∧ ¬ (th 3 = 1 ∧ ((pe_s (pe_F h76 149 10) (C 3)).getD 0 0) ≠ 0)) at hx82r
        rcases (by omega : x82 = 1 ∨ x82 = 0) with hb83 | hb83
        · skip
          rw [hF] at hx82r
          refine pw_if E (pc' := 204) rfl (by decide) (by omega) (by omega) ?_ ?_
          · intro hc84
            change x82 ≠ (0 : Int) at hc84
            refine pw_ld E (pc' := 205) (st' := [pw_i 0]) rfl (fun _ => rfl) ?_
            refine pw_goto E (pc' := 214) rfl (by decide) ?_
            refine pw_ist E (pc' := 216) (ls' := [some (.ref 141), some (pw_i l), some (pw_i k), some (pw_i mo), some (pw_i dr), some (pw_i ((12 * k) + mo)), some (pw_i (pw_g h 136 (((12 * (pw_g h 132 (k.toNat))) + mo).toNat))), some (pw_i (pw_g h 153 ((((12 * k) + mo) - 1).toNat))), some (pw_i 0)]) rfl rfl rfl rfl ?_
            have hO : pu_o th C (pu_ft p (pw_g h 133 k.toNat) (pw_g h 136 (12 * (pw_g h 132 k.toNat) + mo).toNat) (pw_g h 132 k.toNat) mo (pw_g h 137 (12 * (pw_g h 132 k.toNat) + mo).toNat) dr) p = 1 - 0 := by unfold pu_o pu_v; (repeat' split) <;> omega
            refine pw_ld E (pc' := 217) (st' := [.ref 141]) rfl (fun _ => rfl) ?_
            refine pw_getR (b := 169) h80I E (c := 125) (k := 40) (pc' := 220) rfl rfl rfl rfl rfl rfl rfl ?_
            refine pw_ld E (pc' := 222) (st' := [pw_i ((12 * k) + mo), .ref 169]) rfl (fun _ => rfl) ?_
            refine pw_ld E (pc' := 224) (st' := [pw_i 0, pw_i ((12 * k) + mo), .ref 169]) rfl (fun _ => rfl) ?_
            refine pw_ast0 h80I E (c := 153) (pc' := 225) rfl rfl rfl (by decide) rfl (by decide) (by omega) (by omega) (pw_b1 (by omega) (by omega)) (by omega) (by omega) (by omega) (by omega) rfl ?_
            intro h85I h85E
            generalize h85w : pw_w h80 153 (((12 * k) + mo).toNat) (pw_i 0) = h85 at h85I h85E ⊢
            have h85F := h80F.tr (h85E.wk (W' := [149, 150, 151, 152, 153]) (by first | rfl | simp))
            refine pw_ld E (pc' := 226) (st' := [.ref 141]) rfl (fun _ => rfl) ?_
            refine pw_getR (b := 167) h85I E (c := 125) (k := 38) (pc' := 229) rfl rfl rfl rfl rfl rfl rfl ?_
            refine pw_ld E (pc' := 231) (st' := [pw_i ((12 * k) + mo), .ref 167]) rfl (fun _ => rfl) ?_
            refine pw_ld E (pc' := 233) (st' := [pw_i 0, pw_i ((12 * k) + mo), .ref 167]) rfl (fun _ => rfl) ?_
            refine pw_if E (pc' := 240) rfl (by decide) (by decide) (by decide) ?_ ?_
            · intro hc86
              change (0 : Int) = (0 : Int) at hc86
              refine pw_ld E (pc' := 241) (st' := [.ref 141, pw_i ((12 * k) + mo), .ref 167]) rfl (fun _ => rfl) ?_
              refine pw_ld E (pc' := 242) (st' := [pw_i l, .ref 141, pw_i ((12 * k) + mo), .ref 167]) rfl (fun _ => rfl) ?_
              refine pw_ld E (pc' := 243) (st' := [pw_i 0, pw_i l, .ref 141, pw_i ((12 * k) + mo), .ref 167]) rfl (fun _ => rfl) ?_
              refine pw_ld E (pc' := 244) (st' := [.ref 141, pw_i 0, pw_i l, .ref 141, pw_i ((12 * k) + mo), .ref 167]) rfl (fun _ => rfl) ?_
              refine pw_getR (b := 165) h85I E (c := 125) (k := 36) (pc' := 247) rfl rfl rfl rfl rfl rfl rfl ?_
              refine pw_ld E (pc' := 248) (st' := [pw_i 0, .ref 165, pw_i 0, pw_i l, .ref 141, pw_i ((12 * k) + mo), .ref 167]) rfl (fun _ => rfl) ?_
              have he88 : pw_g h85 149 (Int.toNat 0) = pw_g h80 149 (Int.toNat 0) := by rw [← h85w]; exact pw_g_ne (by omega)
              have he89 : pw_g h80 149 (Int.toNat 0) = pw_g h76 149 (Int.toNat 0) := pw_Eg (c := 149) h76I h80E rfl rfl _
              have he90 : pw_g h76 149 (Int.toNat 0) = pw_g h20 149 (Int.toNat 0) := by rw [← h76w]; exact pw_g_ne (by omega)
              have he91 : pw_g h20 149 (Int.toNat 0) = pw_g h19 149 (Int.toNat 0) := by rw [← h20w]; exact pw_g_ne (by omega)
              have he92 : pw_g h19 149 (Int.toNat 0) = pw_g h16 149 (Int.toNat 0) := by rw [← h19w]; exact pw_g_ne (by omega)
              have he93 : pw_g h16 149 (Int.toNat 0) = pw_g h15 149 (Int.toNat 0) := by rw [← h16w]; exact pw_g_ne (by omega)
              have he94 : pw_g h15 149 (Int.toNat 0) = pw_g h13 149 (Int.toNat 0) := by rw [← h15w]; exact pw_g_ne (by omega)
              have he95 : pw_g h13 149 (Int.toNat 0) = pw_g h10 149 (Int.toNat 0) := by rw [← h13w]; exact pw_g_ne (by omega)
              have he96 : pw_g h10 149 (Int.toNat 0) = pw_g h9 149 (Int.toNat 0) := by rw [← h10w]; exact pw_g_ne (by omega)
              have he97 : pw_g h9 149 (Int.toNat 0) = pw_g h7 149 (Int.toNat 0) := by rw [← h9w]; exact pw_g_ne (by omega)
              have he98 : pw_g h7 149 (Int.toNat 0) = pw_g h5 149 (Int.toNat 0) := by rw [← h7w]; exact pw_g_ne (by omega)
              have he99 : pw_g h5 149 (Int.toNat 0) = pw_g h 151 ((((12 * k) + mo) - 1).toNat) := by rw [← h5w]; exact pw_g_eqA (c := 149) I rfl (by decide) (by omega) (by omega)
              refine pw_ald2 h85I E (c := 149) (pc' := 249) rfl rfl rfl (by decide) rfl (by decide) (by omega) (by omega) rfl (fun hf87a hf87b => ?_)
              have hwas : pw_g h85 149 (Int.toNat 0) = max 0 p / 100 := by
                have e : pw_g h85 149 0 = pw_g h76 149 0 := by rw [← h85w, pw_g_ne (by omega), pw_Eg (c := 149) h76I h80E rfl rfl _]
                exact e.trans t0
              have hwb : 0 ≤ pw_g h85 149 (Int.toNat 0) ∧ pw_g h85 149 (Int.toNat 0) ≤ 99 := by rw [hwas]; omega
              have hw0 : _ = (pu_ft p (pw_g h 133 k.toNat) (pw_g h 136 (12 * (pw_g h 132 k.toNat) + mo).toNat) (pw_g h 132 k.toNat) mo (pw_g h 137 (12 * (pw_g h 132 k.toNat) + mo).toNat) dr) 0 := hwas.trans pu_ft0.symm
              have hMS : pt_MS h85 l th C := hp1.fr I h85F rfl rfl rfl
              have hgd : th 0 = 1 → pe_ok 9 (C 0) ∧ pe_h (C 0) = 1 := fun q => hp2 0 (by omega) (by decide)
              obtain ⟨f100l, f100h, -⟩ := pw_obj (c := 125) h85I rfl
              refine pw_call (m' := 266) (As := [.ref 141, pw_i l, pw_i 0, pw_i (pw_g h85 149 (Int.toNat 0))]) (rest := [pw_i ((12 * k) + mo), .ref 167]) (ls'' := [some (.ref 141), some (pw_i l), some (pw_i 0), some (pw_i (pw_g h85 149 (Int.toNat 0))), none]) (Nat.le_trans (by decide) hd) E rfl (fun _ => pw_iV rfl rfl rfl rfl (pw_cellI f100h rfl)) (rfl : pm_ent 266 = some (4, 5, 12, 0, pmc_266)) rfl rfl (cm_266_x (pw_dp hd (by decide)) h85I (l) (by omega) (by omega) (0) (by omega) (by omega) (pw_g h85 149 (Int.toNat 0)) (by omega) (by omega) th C hMS hgd) ?_
              rintro h101 v102 ⟨h101I, h101E, x103, rfl, hx103a, hx103b, hx103r⟩
              refine ⟨_, rfl, ?_⟩
              have h101F := h85F.tr (h101E.wk (W' := [149, 150, 151, 152, 153]) (by first | rfl | simp))
              show pw X d h101 261 252 [some (.ref 141), some (pw_i l), some (pw_i k), some (pw_i mo), some (pw_i dr), some (pw_i ((12 * k) + mo)), some (pw_i (pw_g h 136 (((12 * (pw_g h 132 (k.toNat))) + mo).toNat))), some (pw_i (pw_g h 153 ((((12 * k) + mo) - 1).toNat))), some (pw_i 0)] [pw_i x103, pw_i ((12 * k) + mo), .ref 167] _
              change (th 0 = 0 ∧ x103 = (pw_g h85 149 (Int.toNat 0))) ∨ (th 0 = 1 ∧ ((((pe_s (pe_F h85 149 10) (C 0)).getD 0 0) < 0 ∧ x103 = 0) ∨ (99 < ((pe_s (pe_F h85 149 10) (C 0)).getD 0 0) ∧ x103 = 99) ∨ (0 ≤ ((pe_s (pe_F h85 149 10) (C 0)).getD 0 0) ∧ ((pe_s (pe_F h85 149 10) (C 0)).getD 0 0) ≤ 99 ∧ x103 = ((pe_s (pe_F h85 149 10) (C 0)).getD 0 0)))) at hx103r
              rw [pe_Fcg (h := h76) (h' := h85) (r := 149) (fun j => by rw [← h85w, pw_g_ne (by omega), pw_Eg (c := 149) h76I h80E rfl rfl _])] at hx103r
              rw [hF] at hx103r
              refine pw_ast0 h101I E (c := 151) (pc' := 253) rfl rfl rfl (by decide) rfl (by decide) (by omega) (by omega) rfl (by omega) (by omega) (by omega) (by omega) rfl ?_
              intro h104I h104E
              generalize h104w : pw_w h101 151 (((12 * k) + mo).toNat) (pw_i x103) = h104 at h104I h104E ⊢
              have h104F := h101F.tr (h104E.wk (W' := [149, 150, 151, 152, 153]) (by first | rfl | simp))
              refine pw_ld E (pc' := 254) (st' := [.ref 141]) rfl (fun _ => rfl) ?_
              refine pw_getR (b := 168) h104I E (c := 125) (k := 39) (pc' := 257) rfl rfl rfl rfl rfl rfl rfl ?_
              refine pw_ld E (pc' := 259) (st' := [pw_i ((12 * k) + mo), .ref 168]) rfl (fun _ => rfl) ?_
              refine pw_ld E (pc' := 261) (st' := [pw_i 0, pw_i ((12 * k) + mo), .ref 168]) rfl (fun _ => rfl) ?_
              refine pw_if E (pc' := 268) rfl (by decide) (by decide) (by decide) ?_ ?_
              · intro hc105
                change (0 : Int) = (0 : Int) at hc105
                refine pw_ld E (pc' := 269) (st' := [.ref 141, pw_i ((12 * k) + mo), .ref 168]) rfl (fun _ => rfl) ?_
                refine pw_ld E (pc' := 270) (st' := [pw_i l, .ref 141, pw_i ((12 * k) + mo), .ref 168]) rfl (fun _ => rfl) ?_
                refine pw_ld E (pc' := 271) (st' := [pw_i 1, pw_i l, .ref 141, pw_i ((12 * k) + mo), .ref 168]) rfl (fun _ => rfl) ?_
                refine pw_ld E (pc' := 272) (st' := [.ref 141, pw_i 1, pw_i l, .ref 141, pw_i ((12 * k) + mo), .ref 168]) rfl (fun _ => rfl) ?_
                refine pw_getR (b := 165) h104I E (c := 125) (k := 36) (pc' := 275) rfl rfl rfl rfl rfl rfl rfl ?_
                refine pw_ld E (pc' := 276) (st' := [pw_i 1, .ref 165, pw_i 1, pw_i l, .ref 141, pw_i ((12 * k) + mo), .ref 168]) rfl (fun _ => rfl) ?_
                have he107 : pw_g h104 149 (Int.toNat 1) = pw_g h101 149 (Int.toNat 1) := by rw [← h104w]; exact pw_g_ne (by omega)
                have he108 : pw_g h101 149 (Int.toNat 1) = pw_g h85 149 (Int.toNat 1) := pw_Eg (c := 149) h85I h101E rfl rfl _
                have he109 : pw_g h85 149 (Int.toNat 1) = pw_g h80 149 (Int.toNat 1) := by rw [← h85w]; exact pw_g_ne (by omega)
                have he110 : pw_g h80 149 (Int.toNat 1) = pw_g h76 149 (Int.toNat 1) := pw_Eg (c := 149) h76I h80E rfl rfl _
                have he111 : pw_g h76 149 (Int.toNat 1) = pw_g h20 149 (Int.toNat 1) := by rw [← h76w]; exact pw_g_ne (by omega)
                have he112 : pw_g h20 149 (Int.toNat 1) = pw_g h19 149 (Int.toNat 1) := by rw [← h20w]; exact pw_g_ne (by omega)
                have he113 : pw_g h19 149 (Int.toNat 1) = pw_g h16 149 (Int.toNat 1) := by rw [← h19w]; exact pw_g_ne (by omega)
                have he114 : pw_g h16 149 (Int.toNat 1) = pw_g h15 149 (Int.toNat 1) := by rw [← h16w]; exact pw_g_ne (by omega)
                have he115 : pw_g h15 149 (Int.toNat 1) = pw_g h13 149 (Int.toNat 1) := by rw [← h15w]; exact pw_g_ne (by omega)
                have he116 : pw_g h13 149 (Int.toNat 1) = pw_g h10 149 (Int.toNat 1) := by rw [← h13w]; exact pw_g_ne (by omega)
                have he117 : pw_g h10 149 (Int.toNat 1) = pw_g h9 149 (Int.toNat 1) := by rw [← h10w]; exact pw_g_ne (by omega)
                have he118 : pw_g h9 149 (Int.toNat 1) = pw_g h7 149 (Int.toNat 1) := by rw [← h9w]; exact pw_g_ne (by omega)
                have he119 : pw_g h7 149 (Int.toNat 1) = pw_g h5 152 ((((12 * k) + mo) - 1).toNat) := by rw [← h7w]; exact pw_g_eqA (c := 149) h5I rfl (by decide) (by omega) (by omega)
                refine pw_ald2 h104I E (c := 149) (pc' := 277) rfl rfl rfl (by decide) rfl (by decide) (by omega) (by omega) rfl (fun hf106a hf106b => ?_)
                have hwas : pw_g h104 149 (Int.toNat 1) = max 0 p % 100 := by
                  have e : pw_g h104 149 1 = pw_g h76 149 1 := by rw [← h104w, pw_g_ne (by omega), pw_Eg (c := 149) h85I h101E rfl rfl _, ← h85w, pw_g_ne (by omega), pw_Eg (c := 149) h76I h80E rfl rfl _]
                  exact e.trans t1
                have hwb : 0 ≤ pw_g h104 149 (Int.toNat 1) ∧ pw_g h104 149 (Int.toNat 1) ≤ 99 := by rw [hwas]; omega
                have hw1 : _ = (pu_ft p (pw_g h 133 k.toNat) (pw_g h 136 (12 * (pw_g h 132 k.toNat) + mo).toNat) (pw_g h 132 k.toNat) mo (pw_g h 137 (12 * (pw_g h 132 k.toNat) + mo).toNat) dr) 1 := hwas.trans pu_ft1.symm
                have hMS : pt_MS h104 l th C := hp1.fr I h104F rfl rfl rfl
                have hgd : th 1 = 1 → pe_ok 9 (C 1) ∧ pe_h (C 1) = 1 := fun q => hp2 1 (by omega) (by decide)
                obtain ⟨f120l, f120h, -⟩ := pw_obj (c := 125) h104I rfl
                refine pw_call (m' := 266) (As := [.ref 141, pw_i l, pw_i 1, pw_i (pw_g h104 149 (Int.toNat 1))]) (rest := [pw_i ((12 * k) + mo), .ref 168]) (ls'' := [some (.ref 141), some (pw_i l), some (pw_i 1), some (pw_i (pw_g h104 149 (Int.toNat 1))), none]) (Nat.le_trans (by decide) hd) E rfl (fun _ => pw_iV rfl rfl rfl rfl (pw_cellI f120h rfl)) (rfl : pm_ent 266 = some (4, 5, 12, 0, pmc_266)) rfl rfl (cm_266_x (pw_dp hd (by decide)) h104I (l) (by omega) (by omega) (1) (by omega) (by omega) (pw_g h104 149 (Int.toNat 1)) (by omega) (by omega) th C hMS hgd) ?_
                rintro h121 v122 ⟨h121I, h121E, x123, rfl, hx123a, hx123b, hx123r⟩
                refine ⟨_, rfl, ?_⟩
                have h121F := h104F.tr (h121E.wk (W' := [149, 150, 151, 152, 153]) (by first | rfl | simp))
                show pw X d h121 261 280 [some (.ref 141), some (pw_i l), some (pw_i k), some (pw_i mo), some (pw_i dr), some (pw_i ((12 * k) + mo)), some (pw_i (pw_g h 136 (((12 * (pw_g h 132 (k.toNat))) + mo).toNat))), some (pw_i (pw_g h 153 ((((12 * k) + mo) - 1).toNat))), some (pw_i 0)] [pw_i x123, pw_i ((12 * k) + mo), .ref 168] _
                change (th 1 = 0 ∧ x123 = (pw_g h104 149 (Int.toNat 1))) ∨ (th 1 = 1 ∧ ((((pe_s (pe_F h104 149 10) (C 1)).getD 0 0) < 0 ∧ x123 = 0) ∨ (99 < ((pe_s (pe_F h104 149 10) (C 1)).getD 0 0) ∧ x123 = 99) ∨ (0 ≤ ((pe_s (pe_F h104 149 10) (C 1)).getD 0 0) ∧ ((pe_s (pe_F h104 149 10) (C 1)).getD 0 0) ≤ 99 ∧ x123 = ((pe_s (pe_F h104 149 10) (C 1)).getD 0 0)))) at hx123r
                rw [pe_Fcg (h := h76) (h' := h104) (r := 149) (fun j => by rw [← h104w, pw_g_ne (by omega), pw_Eg (c := 149) h85I h101E rfl rfl _, ← h85w, pw_g_ne (by omega), pw_Eg (c := 149) h76I h80E rfl rfl _])] at hx123r
                rw [hF] at hx123r
                refine pw_ast0 h121I E (c := 152) (pc' := 281) rfl rfl rfl (by decide) rfl (by decide) (by omega) (by omega) rfl (by omega) (by omega) (by omega) (by omega) rfl ?_
                intro h124I h124E
                generalize h124w : pw_w h121 152 (((12 * k) + mo).toNat) (pw_i x123) = h124 at h124I h124E ⊢
                have h124F := h121F.tr (h124E.wk (W' := [149, 150, 151, 152, 153]) (by first | rfl | simp))
                have a153 : pw_g h124 153 (12 * k + mo).toNat = 0 := by
                  rw [← h124w, pw_g_ne (by omega), pw_Eg (c := 153) h104I h121E rfl rfl _, ← h104w, pw_g_ne (by omega), pw_Eg (c := 153) h85I h101E rfl rfl _, ← h85w]
                  exact pw_g_eqA h80I rfl (by omega) (by omega) (by omega)
                have b153 : ∀ j : Nat, j ≠ (12 * k + mo).toNat → pw_g h124 153 j = pw_g h 153 j := fun j hj => by rw [← h124w, pw_g_ne (by omega), pw_Eg (c := 153) h104I h121E rfl rfl _, ← h104w, pw_g_ne (by omega), pw_Eg (c := 153) h85I h101E rfl rfl _, ← h85w, pw_g_ne (fun q => hj q.2.symm), pw_Eg (c := 153) h76I h80E rfl rfl _, ← h76w, pw_g_ne (by omega), ← h20w, pw_g_ne (by omega), ← h19w, pw_g_ne (by omega), ← h16w, pw_g_ne (by omega), ← h15w, pw_g_ne (by omega), ← h13w, pw_g_ne (by omega), ← h10w, pw_g_ne (by omega), ← h9w, pw_g_ne (by omega), ← h7w, pw_g_ne (by omega), ← h5w, pw_g_ne (by omega)]
                have a151 : pw_g h124 151 (12 * k + mo).toNat = x103 := by
                  rw [← h124w, pw_g_ne (by omega), pw_Eg (c := 151) h104I h121E rfl rfl _, ← h104w]
                  exact pw_g_eqA h101I rfl (by omega) (by omega) (by omega)
                have b151 : ∀ j : Nat, j ≠ (12 * k + mo).toNat → pw_g h124 151 j = pw_g h 151 j := fun j hj => by rw [← h124w, pw_g_ne (by omega), pw_Eg (c := 151) h104I h121E rfl rfl _, ← h104w, pw_g_ne (fun q => hj q.2.symm), pw_Eg (c := 151) h85I h101E rfl rfl _, ← h85w, pw_g_ne (by omega), pw_Eg (c := 151) h76I h80E rfl rfl _, ← h76w, pw_g_ne (by omega), ← h20w, pw_g_ne (by omega), ← h19w, pw_g_ne (by omega), ← h16w, pw_g_ne (by omega), ← h15w, pw_g_ne (by omega), ← h13w, pw_g_ne (by omega), ← h10w, pw_g_ne (by omega), ← h9w, pw_g_ne (by omega), ← h7w, pw_g_ne (by omega), ← h5w, pw_g_ne (by omega)]
                have a152 : pw_g h124 152 (12 * k + mo).toNat = x123 := by
                  rw [← h124w]
                  exact pw_g_eqA h121I rfl (by omega) (by omega) (by omega)
                have b152 : ∀ j : Nat, j ≠ (12 * k + mo).toNat → pw_g h124 152 j = pw_g h 152 j := fun j hj => by rw [← h124w, pw_g_ne (fun q => hj q.2.symm), pw_Eg (c := 152) h104I h121E rfl rfl _, ← h104w, pw_g_ne (by omega), pw_Eg (c := 152) h85I h101E rfl rfl _, ← h85w, pw_g_ne (by omega), pw_Eg (c := 152) h76I h80E rfl rfl _, ← h76w, pw_g_ne (by omega), ← h20w, pw_g_ne (by omega), ← h19w, pw_g_ne (by omega), ← h16w, pw_g_ne (by omega), ← h15w, pw_g_ne (by omega), ← h13w, pw_g_ne (by omega), ← h10w, pw_g_ne (by omega), ← h9w, pw_g_ne (by omega), ← h7w, pw_g_ne (by omega), ← h5w, pw_g_ne (by omega)]
                refine pw_vret E rfl ?_
                have hy0 := pu_nM (F := (pu_ft p (pw_g h 133 k.toNat) (pw_g h 136 (12 * (pw_g h 132 k.toNat) + mo).toNat) (pw_g h 132 k.toNat) mo (pw_g h 137 (12 * (pw_g h 132 k.toNat) + mo).toNat) dr)) (k := 0) (hx103r.imp (fun q => ⟨q.1, q.2.trans hw0⟩) id)
                have hy1 := pu_nM (F := (pu_ft p (pw_g h 133 k.toNat) (pw_g h 136 (12 * (pw_g h 132 k.toNat) + mo).toNat) (pw_g h 132 k.toNat) mo (pw_g h 137 (12 * (pw_g h 132 k.toNat) + mo).toNat) dr)) (k := 1) (hx123r.imp (fun q => ⟨q.1, q.2.trans hw1⟩) id)
                exact ⟨h124I, h124F, ⟨pu_Wr.n (by omega) (by omega) (a151.trans hy0) (a152.trans hy1) (by omega) (by omega) (by omega) (by omega), fun j hj => ⟨b153 j hj, b151 j hj, b152 j hj⟩⟩, rfl⟩
              · intro hc125
                change ¬ ((0 : Int) = (0 : Int)) at hc125
                exfalso; omega
            · intro hc126
              change ¬ ((0 : Int) = (0 : Int)) at hc126
              exfalso; omega
          · intro hc127
            change ¬ (x82 ≠ (0 : Int)) at hc127
            exfalso; omega
        · skip
          rw [hF] at hx82r
          refine pw_if E (pc' := 204) rfl (by decide) (by omega) (by omega) ?_ ?_
          · intro hc129
            change x82 ≠ (0 : Int) at hc129
            exfalso; omega
          · intro hc130
            change ¬ (x82 ≠ (0 : Int)) at hc130
            refine pw_ld E (pc' := 201) (st' := [pw_i 1]) rfl (fun _ => rfl) ?_
            refine pw_goto E (pc' := 214) rfl (by decide) ?_
            refine pw_ist E (pc' := 216) (ls' := [some (.ref 141), some (pw_i l), some (pw_i k), some (pw_i mo), some (pw_i dr), some (pw_i ((12 * k) + mo)), some (pw_i (pw_g h 136 (((12 * (pw_g h 132 (k.toNat))) + mo).toNat))), some (pw_i (pw_g h 153 ((((12 * k) + mo) - 1).toNat))), some (pw_i 1)]) rfl rfl rfl rfl ?_
            have hO : pu_o th C (pu_ft p (pw_g h 133 k.toNat) (pw_g h 136 (12 * (pw_g h 132 k.toNat) + mo).toNat) (pw_g h 132 k.toNat) mo (pw_g h 137 (12 * (pw_g h 132 k.toNat) + mo).toNat) dr) p = 1 - 1 := by unfold pu_o pu_v; (repeat' split) <;> omega
            refine pw_ld E (pc' := 217) (st' := [.ref 141]) rfl (fun _ => rfl) ?_
            refine pw_getR (b := 169) h80I E (c := 125) (k := 40) (pc' := 220) rfl rfl rfl rfl rfl rfl rfl ?_
            refine pw_ld E (pc' := 222) (st' := [pw_i ((12 * k) + mo), .ref 169]) rfl (fun _ => rfl) ?_
            refine pw_ld E (pc' := 224) (st' := [pw_i 1, pw_i ((12 * k) + mo), .ref 169]) rfl (fun _ => rfl) ?_
            refine pw_ast0 h80I E (c := 153) (pc' := 225) rfl rfl rfl (by decide) rfl (by decide) (by omega) (by omega) (pw_b1 (by omega) (by omega)) (by omega) (by omega) (by omega) (by omega) rfl ?_
            intro h131I h131E
            generalize h131w : pw_w h80 153 (((12 * k) + mo).toNat) (pw_i 1) = h131 at h131I h131E ⊢
            have h131F := h80F.tr (h131E.wk (W' := [149, 150, 151, 152, 153]) (by first | rfl | simp))
            refine pw_ld E (pc' := 226) (st' := [.ref 141]) rfl (fun _ => rfl) ?_
            refine pw_getR (b := 167) h131I E (c := 125) (k := 38) (pc' := 229) rfl rfl rfl rfl rfl rfl rfl ?_
            refine pw_ld E (pc' := 231) (st' := [pw_i ((12 * k) + mo), .ref 167]) rfl (fun _ => rfl) ?_
            refine pw_ld E (pc' := 233) (st' := [pw_i 1, pw_i ((12 * k) + mo), .ref 167]) rfl (fun _ => rfl) ?_
            refine pw_if E (pc' := 240) rfl (by decide) (by decide) (by decide) ?_ ?_
            · intro hc132
              change (1 : Int) = (0 : Int) at hc132
              exfalso; omega
            · intro hc133
              change ¬ ((1 : Int) = (0 : Int)) at hc133
              refine pw_ld E (pc' := 237) (st' := [pw_i 0, pw_i ((12 * k) + mo), .ref 167]) rfl (fun _ => rfl) ?_
              refine pw_goto E (pc' := 252) rfl (by decide) ?_
              refine pw_ast0 h131I E (c := 151) (pc' := 253) rfl rfl rfl (by decide) rfl (by decide) (by omega) (by omega) rfl (by omega) (by omega) (by omega) (by omega) rfl ?_
              intro h134I h134E
              generalize h134w : pw_w h131 151 (((12 * k) + mo).toNat) (pw_i 0) = h134 at h134I h134E ⊢
              have h134F := h131F.tr (h134E.wk (W' := [149, 150, 151, 152, 153]) (by first | rfl | simp))
              refine pw_ld E (pc' := 254) (st' := [.ref 141]) rfl (fun _ => rfl) ?_
              refine pw_getR (b := 168) h134I E (c := 125) (k := 39) (pc' := 257) rfl rfl rfl rfl rfl rfl rfl ?_
              refine pw_ld E (pc' := 259) (st' := [pw_i ((12 * k) + mo), .ref 168]) rfl (fun _ => rfl) ?_
              refine pw_ld E (pc' := 261) (st' := [pw_i 1, pw_i ((12 * k) + mo), .ref 168]) rfl (fun _ => rfl) ?_
              refine pw_if E (pc' := 268) rfl (by decide) (by decide) (by decide) ?_ ?_
              · intro hc135
                change (1 : Int) = (0 : Int) at hc135
                exfalso; omega
              · intro hc136
                change ¬ ((1 : Int) = (0 : Int)) at hc136
                refine pw_ld E (pc' := 265) (st' := [pw_i 0, pw_i ((12 * k) + mo), .ref 168]) rfl (fun _ => rfl) ?_
                refine pw_goto E (pc' := 280) rfl (by decide) ?_
                refine pw_ast0 h134I E (c := 152) (pc' := 281) rfl rfl rfl (by decide) rfl (by decide) (by omega) (by omega) rfl (by omega) (by omega) (by omega) (by omega) rfl ?_
                intro h137I h137E
                generalize h137w : pw_w h134 152 (((12 * k) + mo).toNat) (pw_i 0) = h137 at h137I h137E ⊢
                have h137F := h134F.tr (h137E.wk (W' := [149, 150, 151, 152, 153]) (by first | rfl | simp))
                have a153 : pw_g h137 153 (12 * k + mo).toNat = 1 := by
                  rw [← h137w, pw_g_ne (by omega), ← h134w, pw_g_ne (by omega), ← h131w]
                  exact pw_g_eqA h80I rfl (by omega) (by omega) (by omega)
                have b153 : ∀ j : Nat, j ≠ (12 * k + mo).toNat → pw_g h137 153 j = pw_g h 153 j := fun j hj => by rw [← h137w, pw_g_ne (by omega), ← h134w, pw_g_ne (by omega), ← h131w, pw_g_ne (fun q => hj q.2.symm), pw_Eg (c := 153) h76I h80E rfl rfl _, ← h76w, pw_g_ne (by omega), ← h20w, pw_g_ne (by omega), ← h19w, pw_g_ne (by omega), ← h16w, pw_g_ne (by omega), ← h15w, pw_g_ne (by omega), ← h13w, pw_g_ne (by omega), ← h10w, pw_g_ne (by omega), ← h9w, pw_g_ne (by omega), ← h7w, pw_g_ne (by omega), ← h5w, pw_g_ne (by omega)]
                have a151 : pw_g h137 151 (12 * k + mo).toNat = 0 := by
                  rw [← h137w, pw_g_ne (by omega), ← h134w]
                  exact pw_g_eqA h131I rfl (by omega) (by omega) (by omega)
                have b151 : ∀ j : Nat, j ≠ (12 * k + mo).toNat → pw_g h137 151 j = pw_g h 151 j := fun j hj => by rw [← h137w, pw_g_ne (by omega), ← h134w, pw_g_ne (fun q => hj q.2.symm), ← h131w, pw_g_ne (by omega), pw_Eg (c := 151) h76I h80E rfl rfl _, ← h76w, pw_g_ne (by omega), ← h20w, pw_g_ne (by omega), ← h19w, pw_g_ne (by omega), ← h16w, pw_g_ne (by omega), ← h15w, pw_g_ne (by omega), ← h13w, pw_g_ne (by omega), ← h10w, pw_g_ne (by omega), ← h9w, pw_g_ne (by omega), ← h7w, pw_g_ne (by omega), ← h5w, pw_g_ne (by omega)]
                have a152 : pw_g h137 152 (12 * k + mo).toNat = 0 := by
                  rw [← h137w]
                  exact pw_g_eqA h134I rfl (by omega) (by omega) (by omega)
                have b152 : ∀ j : Nat, j ≠ (12 * k + mo).toNat → pw_g h137 152 j = pw_g h 152 j := fun j hj => by rw [← h137w, pw_g_ne (fun q => hj q.2.symm), ← h134w, pw_g_ne (by omega), ← h131w, pw_g_ne (by omega), pw_Eg (c := 152) h76I h80E rfl rfl _, ← h76w, pw_g_ne (by omega), ← h20w, pw_g_ne (by omega), ← h19w, pw_g_ne (by omega), ← h16w, pw_g_ne (by omega), ← h15w, pw_g_ne (by omega), ← h13w, pw_g_ne (by omega), ← h10w, pw_g_ne (by omega), ← h9w, pw_g_ne (by omega), ← h7w, pw_g_ne (by omega), ← h5w, pw_g_ne (by omega)]
                refine pw_vret E rfl ?_
                exact ⟨h137I, h137F, ⟨pu_Wr.s (by omega) (by omega) a151 a152, fun j hj => ⟨b153 j hj, b151 j hj, b152 j hj⟩⟩, rfl⟩
  · intro hc138
    change ¬ (pw_g h 136 (((12 * (pw_g h 132 (k.toNat))) + mo).toNat) ≤ pw_g h10 133 (k.toNat)) at hc138
    refine pw_ld E (pc' := 105) (st' := [pw_i (pw_g h 136 (((12 * (pw_g h 132 (k.toNat))) + mo).toNat)), pw_i 4, .ref 165]) rfl (fun _ => rfl) ?_
    refine pw_ld E (pc' := 106) (st' := [.ref 141, pw_i (pw_g h 136 (((12 * (pw_g h 132 (k.toNat))) + mo).toNat)), pw_i 4, .ref 165]) rfl (fun _ => rfl) ?_
    refine pw_getR (b := 149) h10I E (c := 125) (k := 12) (pc' := 109) rfl rfl rfl rfl rfl rfl rfl ?_
    refine pw_ld E (pc' := 110) (st' := [pw_i k, .ref 149, pw_i (pw_g h 136 (((12 * (pw_g h 132 (k.toNat))) + mo).toNat)), pw_i 4, .ref 165]) rfl (fun _ => rfl) ?_
    refine pw_ald2 h10I E (c := 133) (pc' := 111) rfl rfl rfl (by decide) rfl (by decide) (by omega) (by omega) rfl (fun hf139a hf139b => ?_)
    refine pw_sub E (pc' := 112) rfl rfl ?_
    refine pw_goto E (pc' := 116) rfl (by decide) ?_
    refine pw_ast0 h10I E (c := 149) (pc' := 117) rfl rfl rfl (by decide) rfl (by decide) (by omega) (by omega) rfl (by omega) (by omega) (by omega) (by omega) rfl ?_
    intro h140I h140E
    generalize h140w : pw_w h10 149 (Int.toNat 4) (pw_i ((pw_g h 136 (((12 * (pw_g h 132 (k.toNat))) + mo).toNat)) - (pw_g h10 133 (k.toNat)))) = h140 at h140I h140E ⊢
    have h140F := h10F.tr (h140E.wk (W' := [149, 150, 151, 152, 153]) (by first | rfl | simp))
    refine pw_ld E (pc' := 118) (st' := [.ref 141]) rfl (fun _ => rfl) ?_
    refine pw_getR (b := 165) h140I E (c := 125) (k := 36) (pc' := 121) rfl rfl rfl rfl rfl rfl rfl ?_
    refine pw_ld E (pc' := 122) (st' := [pw_i 5, .ref 165]) rfl (fun _ => rfl) ?_
    refine pw_ld E (pc' := 123) (st' := [.ref 141, pw_i 5, .ref 165]) rfl (fun _ => rfl) ?_
    refine pw_getR (b := 148) h140I E (c := 125) (k := 11) (pc' := 126) rfl rfl rfl rfl rfl rfl rfl ?_
    refine pw_ld E (pc' := 127) (st' := [pw_i k, .ref 148, pw_i 5, .ref 165]) rfl (fun _ => rfl) ?_
    refine pw_ald2 h140I E (c := 132) (pc' := 128) rfl rfl rfl (by decide) rfl (by decide) (by omega) (by omega) rfl (fun hf141a hf141b => ?_)
    refine pw_ast0 h140I E (c := 149) (pc' := 129) rfl rfl rfl (by decide) rfl (by decide) (by omega) (by omega) rfl (by omega) (by omega) (by omega) (by omega) rfl ?_
    intro h142I h142E
    generalize h142w : pw_w h140 149 (Int.toNat 5) (pw_i (pw_g h140 132 (k.toNat))) = h142 at h142I h142E ⊢
    have h142F := h140F.tr (h142E.wk (W' := [149, 150, 151, 152, 153]) (by first | rfl | simp))
    refine pw_ld E (pc' := 130) (st' := [.ref 141]) rfl (fun _ => rfl) ?_
    refine pw_getR (b := 165) h142I E (c := 125) (k := 36) (pc' := 133) rfl rfl rfl rfl rfl rfl rfl ?_
    refine pw_bip E (pc' := 135) rfl rfl (by decide) ?_
    refine pw_ld E (pc' := 136) (st' := [pw_i mo, pw_i 6, .ref 165]) rfl (fun _ => rfl) ?_
    refine pw_ast0 h142I E (c := 149) (pc' := 137) rfl rfl rfl (by decide) rfl (by decide) (by omega) (by omega) rfl (by omega) (by omega) (by omega) (by omega) rfl ?_
    intro h143I h143E
    generalize h143w : pw_w h142 149 (Int.toNat 6) (pw_i mo) = h143 at h143I h143E ⊢
    have h143F := h142F.tr (h143E.wk (W' := [149, 150, 151, 152, 153]) (by first | rfl | simp))
    refine pw_ld E (pc' := 138) (st' := [.ref 141]) rfl (fun _ => rfl) ?_
    refine pw_getR (b := 165) h143I E (c := 125) (k := 36) (pc' := 141) rfl rfl rfl rfl rfl rfl rfl ?_
    refine pw_bip E (pc' := 143) rfl rfl (by decide) ?_
    refine pw_ld E (pc' := 144) (st' := [.ref 141, pw_i 7, .ref 165]) rfl (fun _ => rfl) ?_
    refine pw_getR (b := 153) h143I E (c := 125) (k := 17) (pc' := 147) rfl rfl rfl rfl rfl rfl rfl ?_
    refine pw_bip E (pc' := 149) rfl rfl (by decide) ?_
    refine pw_ld E (pc' := 150) (st' := [.ref 141, pw_i 12, .ref 153, pw_i 7, .ref 165]) rfl (fun _ => rfl) ?_
    refine pw_getR (b := 148) h143I E (c := 125) (k := 11) (pc' := 153) rfl rfl rfl rfl rfl rfl rfl ?_
    refine pw_ld E (pc' := 154) (st' := [pw_i k, .ref 148, pw_i 12, .ref 153, pw_i 7, .ref 165]) rfl (fun _ => rfl) ?_
    refine pw_ald2 h143I E (c := 132) (pc' := 155) rfl rfl rfl (by decide) rfl (by decide) (by omega) (by omega) rfl (fun hf144a hf144b => ?_)
    refine pw_mul E (pc' := 156) rfl rfl ?_
    refine pw_ld E (pc' := 157) (st' := [pw_i mo, pw_i (12 * (pw_g h143 132 (k.toNat))), .ref 153, pw_i 7, .ref 165]) rfl (fun _ => rfl) ?_
    refine pw_add E (pc' := 158) rfl rfl ?_
    refine pw_ald2 h143I E (c := 137) (pc' := 159) rfl rfl rfl (by decide) rfl (by decide) (by omega) (by omega) rfl (fun hf145a hf145b => ?_)
    refine pw_ast0 h143I E (c := 149) (pc' := 160) rfl rfl rfl (by decide) rfl (by decide) (by omega) (by omega) rfl (by omega) (by omega) (by omega) (by omega) rfl ?_
    intro h146I h146E
    generalize h146w : pw_w h143 149 (Int.toNat 7) (pw_i (pw_g h143 137 (((12 * (pw_g h143 132 (k.toNat))) + mo).toNat))) = h146 at h146I h146E ⊢
    have h146F := h143F.tr (h146E.wk (W' := [149, 150, 151, 152, 153]) (by first | rfl | simp))
    refine pw_ld E (pc' := 161) (st' := [.ref 141]) rfl (fun _ => rfl) ?_
    refine pw_getR (b := 165) h146I E (c := 125) (k := 36) (pc' := 164) rfl rfl rfl rfl rfl rfl rfl ?_
    refine pw_bip E (pc' := 166) rfl rfl (by decide) ?_
    refine pw_ld E (pc' := 168) (st' := [pw_i dr, pw_i 8, .ref 165]) rfl (fun _ => rfl) ?_
    refine pw_ast0 h146I E (c := 149) (pc' := 169) rfl rfl rfl (by decide) rfl (by decide) (by omega) (by omega) rfl (by omega) (by omega) (by omega) (by omega) rfl ?_
    intro h147I h147E
    generalize h147w : pw_w h146 149 (Int.toNat 8) (pw_i dr) = h147 at h147I h147E ⊢
    have h147F := h146F.tr (h147E.wk (W' := [149, 150, 151, 152, 153]) (by first | rfl | simp))
    refine pw_ld E (pc' := 170) (st' := [.ref 141]) rfl (fun _ => rfl) ?_
    refine pw_getR (b := 165) h147I E (c := 125) (k := 36) (pc' := 173) rfl rfl rfl rfl rfl rfl rfl ?_
    refine pw_bip E (pc' := 175) rfl rfl (by decide) ?_
    refine pw_ld E (pc' := 177) (st' := [pw_i (pw_g h 153 ((((12 * k) + mo) - 1).toNat)), pw_i 9, .ref 165]) rfl (fun _ => rfl) ?_
    refine pw_if E (pc' := 184) rfl (by decide) (by omega) (by omega) ?_ ?_
    · intro hc148
      change pw_g h 153 ((((12 * k) + mo) - 1).toNat) = (0 : Int) at hc148
      refine pw_ld E (pc' := 185) (st' := [pw_i 0, pw_i 9, .ref 165]) rfl (fun _ => rfl) ?_
      refine pw_ast0 h147I E (c := 149) (pc' := 186) rfl rfl rfl (by decide) rfl (by decide) (by omega) (by omega) rfl (by omega) (by omega) (by omega) (by omega) rfl ?_
      intro h149I h149E
      generalize h149w : pw_w h147 149 (Int.toNat 9) (pw_i 0) = h149 at h149I h149E ⊢
      have h149F := h147F.tr (h149E.wk (W' := [149, 150, 151, 152, 153]) (by first | rfl | simp))
      have f0 : pw_g h149 149 0 = pw_g h 151 ((((12 * k) + mo) - 1).toNat) := by
        rw [← h149w, pw_g_ne (by omega), ← h147w, pw_g_ne (by omega), ← h146w, pw_g_ne (by omega), ← h143w, pw_g_ne (by omega), ← h142w, pw_g_ne (by omega), ← h140w, pw_g_ne (by omega), ← h10w, pw_g_ne (by omega), ← h9w, pw_g_ne (by omega), ← h7w, pw_g_ne (by omega), ← h5w]
        exact pw_g_eqA I rfl (by decide) (by omega) (by omega)
      have r0 : pw_g h 151 ((((12 * k) + mo) - 1).toNat) = pw_g h 151 ((((12 * k) + mo) - 1).toNat) := rfl
      have t0 : pw_g h149 149 0 = max 0 p / 100 := f0.trans (r0.trans (by omega))
      have f1 : pw_g h149 149 1 = pw_g h5 152 ((((12 * k) + mo) - 1).toNat) := by
        rw [← h149w, pw_g_ne (by omega), ← h147w, pw_g_ne (by omega), ← h146w, pw_g_ne (by omega), ← h143w, pw_g_ne (by omega), ← h142w, pw_g_ne (by omega), ← h140w, pw_g_ne (by omega), ← h10w, pw_g_ne (by omega), ← h9w, pw_g_ne (by omega), ← h7w]
        exact pw_g_eqA h5I rfl (by decide) (by omega) (by omega)
      have r1 : pw_g h5 152 ((((12 * k) + mo) - 1).toNat) = pw_g h 152 ((((12 * k) + mo) - 1).toNat) := by rw [← h5w, pw_g_ne (by omega)]
      have t1 : pw_g h149 149 1 = max 0 p % 100 := f1.trans (r1.trans (by omega))
      have f2 : pw_g h149 149 2 = pw_g h7 133 (k.toNat) := by
        rw [← h149w, pw_g_ne (by omega), ← h147w, pw_g_ne (by omega), ← h146w, pw_g_ne (by omega), ← h143w, pw_g_ne (by omega), ← h142w, pw_g_ne (by omega), ← h140w, pw_g_ne (by omega), ← h10w, pw_g_ne (by omega), ← h9w]
        exact pw_g_eqA h7I rfl (by decide) (by omega) (by omega)
      have r2 : pw_g h7 133 (k.toNat) = pw_g h 133 (k.toNat) := by rw [← h7w, pw_g_ne (by omega), ← h5w, pw_g_ne (by omega)]
      have t2 : pw_g h149 149 2 = (pw_g h 133 k.toNat) := f2.trans (r2.trans rfl)
      have f3 : pw_g h149 149 3 = pw_g h 136 (((12 * (pw_g h 132 (k.toNat))) + mo).toNat) := by
        rw [← h149w, pw_g_ne (by omega), ← h147w, pw_g_ne (by omega), ← h146w, pw_g_ne (by omega), ← h143w, pw_g_ne (by omega), ← h142w, pw_g_ne (by omega), ← h140w, pw_g_ne (by omega), ← h10w]
        exact pw_g_eqA h9I rfl (by decide) (by omega) (by omega)
      have r3 : pw_g h 136 (((12 * (pw_g h 132 (k.toNat))) + mo).toNat) = pw_g h 136 (((12 * (pw_g h 132 (k.toNat))) + mo).toNat) := rfl
      have t3 : pw_g h149 149 3 = (pw_g h 136 (12 * (pw_g h 132 k.toNat) + mo).toNat) := f3.trans (r3.trans rfl)
      have f4 : pw_g h149 149 4 = (pw_g h 136 (((12 * (pw_g h 132 (k.toNat))) + mo).toNat)) - (pw_g h10 133 (k.toNat)) := by
        rw [← h149w, pw_g_ne (by omega), ← h147w, pw_g_ne (by omega), ← h146w, pw_g_ne (by omega), ← h143w, pw_g_ne (by omega), ← h142w, pw_g_ne (by omega), ← h140w]
        exact pw_g_eqA h10I rfl (by decide) (by omega) (by omega)
      have t4 : pw_g h149 149 4 = max 0 ((pw_g h 136 (12 * (pw_g h 132 k.toNat) + mo).toNat) - (pw_g h 133 k.toNat)) := f4.trans ((by omega))
      have f5 : pw_g h149 149 5 = pw_g h140 132 (k.toNat) := by
        rw [← h149w, pw_g_ne (by omega), ← h147w, pw_g_ne (by omega), ← h146w, pw_g_ne (by omega), ← h143w, pw_g_ne (by omega), ← h142w]
        exact pw_g_eqA h140I rfl (by decide) (by omega) (by omega)
      have r5 : pw_g h140 132 (k.toNat) = pw_g h 132 (k.toNat) := by rw [← h140w, pw_g_ne (by omega), ← h10w, pw_g_ne (by omega), ← h9w, pw_g_ne (by omega), ← h7w, pw_g_ne (by omega), ← h5w, pw_g_ne (by omega)]
      have t5 : pw_g h149 149 5 = (pw_g h 132 k.toNat) := f5.trans (r5.trans rfl)
      have f6 : pw_g h149 149 6 = mo := by
        rw [← h149w, pw_g_ne (by omega), ← h147w, pw_g_ne (by omega), ← h146w, pw_g_ne (by omega), ← h143w]
        exact pw_g_eqA h142I rfl (by decide) (by omega) (by omega)
      have t6 : pw_g h149 149 6 = mo := f6.trans (rfl)
      have f7 : pw_g h149 149 7 = pw_g h143 137 (((12 * (pw_g h143 132 (k.toNat))) + mo).toNat) := by
        rw [← h149w, pw_g_ne (by omega), ← h147w, pw_g_ne (by omega), ← h146w]
        exact pw_g_eqA h143I rfl (by decide) (by omega) (by omega)
      have q7 : pw_g h143 132 k.toNat = pw_g h 132 k.toNat := by rw [← h143w, pw_g_ne (by omega), ← h142w, pw_g_ne (by omega), ← h140w, pw_g_ne (by omega), ← h10w, pw_g_ne (by omega), ← h9w, pw_g_ne (by omega), ← h7w, pw_g_ne (by omega), ← h5w, pw_g_ne (by omega)]
      have r7 : pw_g h143 137 (((12 * (pw_g h143 132 (k.toNat))) + mo).toNat) = pw_g h 137 (((12 * (pw_g h 132 (k.toNat))) + mo).toNat) := by rw [q7, ← h143w, pw_g_ne (by omega), ← h142w, pw_g_ne (by omega), ← h140w, pw_g_ne (by omega), ← h10w, pw_g_ne (by omega), ← h9w, pw_g_ne (by omega), ← h7w, pw_g_ne (by omega), ← h5w, pw_g_ne (by omega)]
      have t7 : pw_g h149 149 7 = (pw_g h 137 (12 * (pw_g h 132 k.toNat) + mo).toNat) := f7.trans (r7.trans rfl)
      have f8 : pw_g h149 149 8 = dr := by
        rw [← h149w, pw_g_ne (by omega), ← h147w]
        exact pw_g_eqA h146I rfl (by decide) (by omega) (by omega)
      have t8 : pw_g h149 149 8 = dr := f8.trans (rfl)
      have f9 : pw_g h149 149 9 = 0 := by
        rw [← h149w]
        exact pw_g_eqA h147I rfl (by decide) (by omega) (by omega)
      have t9 : pw_g h149 149 9 = if p = -1 then 1 else 0 := f9.trans ((by first | exact (if_pos (by omega)).symm | exact (if_neg (by omega)).symm))
      have hF : pe_F h149 149 10 = (pu_ft p (pw_g h 133 k.toNat) (pw_g h 136 (12 * (pw_g h 132 k.toNat) + mo).toNat) (pw_g h 132 k.toNat) mo (pw_g h 137 (12 * (pw_g h 132 k.toNat) + mo).toNat) dr) := pu_FE t0 t1 t2 t3 t4 t5 t6 t7 t8 t9
      clear f0 f1 f2 f3 f4 f5 f6 f7 f8 f9 t2 t3 t4 t5 t6 t7 t8 t9
      refine pw_ld E (pc' := 188) (st' := [pw_i (pw_g h 153 ((((12 * k) + mo) - 1).toNat))]) rfl (fun _ => rfl) ?_
      refine pw_if E (pc' := 208) rfl (by decide) (by omega) (by omega) ?_ ?_
      · intro hc150
        change pw_g h 153 ((((12 * k) + mo) - 1).toNat) = (0 : Int) at hc150
        refine pw_ld E (pc' := 209) (st' := [.ref 141]) rfl (fun _ => rfl) ?_
        refine pw_ld E (pc' := 210) (st' := [pw_i l, .ref 141]) rfl (fun _ => rfl) ?_
        refine pw_ld E (pc' := 211) (st' := [pw_i 2, pw_i l, .ref 141]) rfl (fun _ => rfl) ?_
        have hMS : pt_MS h149 l th C := hp1.fr I h149F rfl rfl rfl
        have hgd : th 2 = 1 → pe_ok 9 (C 2) ∧ pe_h (C 2) = 1 := fun q => hp2 2 (by omega) (by decide)
        obtain ⟨f151l, f151h, -⟩ := pw_obj (c := 125) h149I rfl
        refine pw_call (m' := 262) (As := [.ref 141, pw_i l, pw_i 2]) (rest := []) (ls'' := [some (.ref 141), some (pw_i l), some (pw_i 2)]) (Nat.le_trans (by decide) hd) E rfl (fun _ => pw_iV rfl rfl rfl rfl (pw_cellI f151h rfl)) (rfl : pm_ent 262 = some (3, 3, 12, 1, pmc_262)) rfl rfl (cm_262_x (pw_dp hd (by decide)) h149I (l) (by omega) (by omega) (2) (by omega) (by omega) th C hMS hgd) ?_
        rintro h152 v153 ⟨h152I, h152E, x154, rfl, hx154a, hx154b, hx154r⟩
        refine ⟨_, rfl, ?_⟩
        have h152F := h149F.tr (h152E.wk (W' := [149, 150, 151, 152, 153]) (by first | rfl | simp))
        show pw X d h152 261 214 [some (.ref 141), some (pw_i l), some (pw_i k), some (pw_i mo), some (pw_i dr), some (pw_i ((12 * k) + mo)), some (pw_i (pw_g h 136 (((12 * (pw_g h 132 (k.toNat))) + mo).toNat))), some (pw_i (pw_g h 153 ((((12 * k) + mo) - 1).toNat))), none] [pw_i x154] _
        change (x154 = 1 ∧ th 2 = 1 ∧ ((pe_s (pe_F h149 149 10) (C 2)).getD 0 0) ≠ 0) ∨ (x154 = 0 ∧ ¬ (th 2 = 1 ∧ ((pe_s (pe_F h149 149 10) (C 2)).getD 0 0) ≠ 0)) at hx154r
        rw [hF] at hx154r
        refine pw_ist E (pc' := 216) (ls' := [some (.ref 141), some (pw_i l), some (pw_i k), some (pw_i mo), some (pw_i dr), some (pw_i ((12 * k) + mo)), some (pw_i (pw_g h 136 (((12 * (pw_g h 132 (k.toNat))) + mo).toNat))), some (pw_i (pw_g h 153 ((((12 * k) + mo) - 1).toNat))), some (pw_i x154)]) rfl rfl rfl rfl ?_
        have hO : pu_o th C (pu_ft p (pw_g h 133 k.toNat) (pw_g h 136 (12 * (pw_g h 132 k.toNat) + mo).toNat) (pw_g h 132 k.toNat) mo (pw_g h 137 (12 * (pw_g h 132 k.toNat) + mo).toNat) dr) p = 1 - x154 := by unfold pu_o pu_v; (repeat' split) <;> omega
        refine pw_ld E (pc' := 217) (st' := [.ref 141]) rfl (fun _ => rfl) ?_
        refine pw_getR (b := 169) h152I E (c := 125) (k := 40) (pc' := 220) rfl rfl rfl rfl rfl rfl rfl ?_
        refine pw_ld E (pc' := 222) (st' := [pw_i ((12 * k) + mo), .ref 169]) rfl (fun _ => rfl) ?_
        refine pw_ld E (pc' := 224) (st' := [pw_i x154, pw_i ((12 * k) + mo), .ref 169]) rfl (fun _ => rfl) ?_
        refine pw_ast0 h152I E (c := 153) (pc' := 225) rfl rfl rfl (by decide) rfl (by decide) (by omega) (by omega) (pw_b1 (by omega) (by omega)) (by omega) (by omega) (by omega) (by omega) rfl ?_
        intro h155I h155E
        generalize h155w : pw_w h152 153 (((12 * k) + mo).toNat) (pw_i x154) = h155 at h155I h155E ⊢
        have h155F := h152F.tr (h155E.wk (W' := [149, 150, 151, 152, 153]) (by first | rfl | simp))
        refine pw_ld E (pc' := 226) (st' := [.ref 141]) rfl (fun _ => rfl) ?_
        refine pw_getR (b := 167) h155I E (c := 125) (k := 38) (pc' := 229) rfl rfl rfl rfl rfl rfl rfl ?_
        refine pw_ld E (pc' := 231) (st' := [pw_i ((12 * k) + mo), .ref 167]) rfl (fun _ => rfl) ?_
        refine pw_ld E (pc' := 233) (st' := [pw_i x154, pw_i ((12 * k) + mo), .ref 167]) rfl (fun _ => rfl) ?_
        refine pw_if E (pc' := 240) rfl (by decide) (by omega) (by omega) ?_ ?_
        · intro hc156
          change x154 = (0 : Int) at hc156
          refine pw_ld E (pc' := 241) (st' := [.ref 141, pw_i ((12 * k) + mo), .ref 167]) rfl (fun _ => rfl) ?_
          refine pw_ld E (pc' := 242) (st' := [pw_i l, .ref 141, pw_i ((12 * k) + mo), .ref 167]) rfl (fun _ => rfl) ?_
          refine pw_ld E (pc' := 243) (st' := [pw_i 0, pw_i l, .ref 141, pw_i ((12 * k) + mo), .ref 167]) rfl (fun _ => rfl) ?_
          refine pw_ld E (pc' := 244) (st' := [.ref 141, pw_i 0, pw_i l, .ref 141, pw_i ((12 * k) + mo), .ref 167]) rfl (fun _ => rfl) ?_
          refine pw_getR (b := 165) h155I E (c := 125) (k := 36) (pc' := 247) rfl rfl rfl rfl rfl rfl rfl ?_
          refine pw_ld E (pc' := 248) (st' := [pw_i 0, .ref 165, pw_i 0, pw_i l, .ref 141, pw_i ((12 * k) + mo), .ref 167]) rfl (fun _ => rfl) ?_
          have he158 : pw_g h155 149 (Int.toNat 0) = pw_g h152 149 (Int.toNat 0) := by rw [← h155w]; exact pw_g_ne (by omega)
          have he159 : pw_g h152 149 (Int.toNat 0) = pw_g h149 149 (Int.toNat 0) := pw_Eg (c := 149) h149I h152E rfl rfl _
          have he160 : pw_g h149 149 (Int.toNat 0) = pw_g h147 149 (Int.toNat 0) := by rw [← h149w]; exact pw_g_ne (by omega)
          have he161 : pw_g h147 149 (Int.toNat 0) = pw_g h146 149 (Int.toNat 0) := by rw [← h147w]; exact pw_g_ne (by omega)
          have he162 : pw_g h146 149 (Int.toNat 0) = pw_g h143 149 (Int.toNat 0) := by rw [← h146w]; exact pw_g_ne (by omega)
          have he163 : pw_g h143 149 (Int.toNat 0) = pw_g h142 149 (Int.toNat 0) := by rw [← h143w]; exact pw_g_ne (by omega)
          have he164 : pw_g h142 149 (Int.toNat 0) = pw_g h140 149 (Int.toNat 0) := by rw [← h142w]; exact pw_g_ne (by omega)
          have he165 : pw_g h140 149 (Int.toNat 0) = pw_g h10 149 (Int.toNat 0) := by rw [← h140w]; exact pw_g_ne (by omega)
          have he166 : pw_g h10 149 (Int.toNat 0) = pw_g h9 149 (Int.toNat 0) := by rw [← h10w]; exact pw_g_ne (by omega)
          have he167 : pw_g h9 149 (Int.toNat 0) = pw_g h7 149 (Int.toNat 0) := by rw [← h9w]; exact pw_g_ne (by omega)
          have he168 : pw_g h7 149 (Int.toNat 0) = pw_g h5 149 (Int.toNat 0) := by rw [← h7w]; exact pw_g_ne (by omega)
          have he169 : pw_g h5 149 (Int.toNat 0) = pw_g h 151 ((((12 * k) + mo) - 1).toNat) := by rw [← h5w]; exact pw_g_eqA (c := 149) I rfl (by decide) (by omega) (by omega)
          refine pw_ald2 h155I E (c := 149) (pc' := 249) rfl rfl rfl (by decide) rfl (by decide) (by omega) (by omega) rfl (fun hf157a hf157b => ?_)
          have hwas : pw_g h155 149 (Int.toNat 0) = max 0 p / 100 := by
            have e : pw_g h155 149 0 = pw_g h149 149 0 := by rw [← h155w, pw_g_ne (by omega), pw_Eg (c := 149) h149I h152E rfl rfl _]
            exact e.trans t0
          have hwb : 0 ≤ pw_g h155 149 (Int.toNat 0) ∧ pw_g h155 149 (Int.toNat 0) ≤ 99 := by rw [hwas]; omega
          have hw0 : _ = (pu_ft p (pw_g h 133 k.toNat) (pw_g h 136 (12 * (pw_g h 132 k.toNat) + mo).toNat) (pw_g h 132 k.toNat) mo (pw_g h 137 (12 * (pw_g h 132 k.toNat) + mo).toNat) dr) 0 := hwas.trans pu_ft0.symm
          have hMS : pt_MS h155 l th C := hp1.fr I h155F rfl rfl rfl
          have hgd : th 0 = 1 → pe_ok 9 (C 0) ∧ pe_h (C 0) = 1 := fun q => hp2 0 (by omega) (by decide)
          obtain ⟨f170l, f170h, -⟩ := pw_obj (c := 125) h155I rfl
          refine pw_call (m' := 266) (As := [.ref 141, pw_i l, pw_i 0, pw_i (pw_g h155 149 (Int.toNat 0))]) (rest := [pw_i ((12 * k) + mo), .ref 167]) (ls'' := [some (.ref 141), some (pw_i l), some (pw_i 0), some (pw_i (pw_g h155 149 (Int.toNat 0))), none]) (Nat.le_trans (by decide) hd) E rfl (fun _ => pw_iV rfl rfl rfl rfl (pw_cellI f170h rfl)) (rfl : pm_ent 266 = some (4, 5, 12, 0, pmc_266)) rfl rfl (cm_266_x (pw_dp hd (by decide)) h155I (l) (by omega) (by omega) (0) (by omega) (by omega) (pw_g h155 149 (Int.toNat 0)) (by omega) (by omega) th C hMS hgd) ?_
          rintro h171 v172 ⟨h171I, h171E, x173, rfl, hx173a, hx173b, hx173r⟩
          refine ⟨_, rfl, ?_⟩
          have h171F := h155F.tr (h171E.wk (W' := [149, 150, 151, 152, 153]) (by first | rfl | simp))
          show pw X d h171 261 252 [some (.ref 141), some (pw_i l), some (pw_i k), some (pw_i mo), some (pw_i dr), some (pw_i ((12 * k) + mo)), some (pw_i (pw_g h 136 (((12 * (pw_g h 132 (k.toNat))) + mo).toNat))), some (pw_i (pw_g h 153 ((((12 * k) + mo) - 1).toNat))), some (pw_i x154)] [pw_i x173, pw_i ((12 * k) + mo), .ref 167] _
          change (th 0 = 0 ∧ x173 = (pw_g h155 149 (Int.toNat 0))) ∨ (th 0 = 1 ∧ ((((pe_s (pe_F h155 149 10) (C 0)).getD 0 0) < 0 ∧ x173 = 0) ∨ (99 < ((pe_s (pe_F h155 149 10) (C 0)).getD 0 0) ∧ x173 = 99) ∨ (0 ≤ ((pe_s (pe_F h155 149 10) (C 0)).getD 0 0) ∧ ((pe_s (pe_F h155 149 10) (C 0)).getD 0 0) ≤ 99 ∧ x173 = ((pe_s (pe_F h155 149 10) (C 0)).getD 0 0)))) at hx173r
          rw [pe_Fcg (h := h149) (h' := h155) (r := 149) (fun j => by rw [← h155w, pw_g_ne (by omega), pw_Eg (c := 149) h149I h152E rfl rfl _])] at hx173r
          rw [hF] at hx173r
          refine pw_ast0 h171I E (c := 151) (pc' := 253) rfl rfl rfl (by decide) rfl (by decide) (by omega) (by omega) rfl (by omega) (by omega) (by omega) (by omega) rfl ?_
          intro h174I h174E
          generalize h174w : pw_w h171 151 (((12 * k) + mo).toNat) (pw_i x173) = h174 at h174I h174E ⊢
          have h174F := h171F.tr (h174E.wk (W' := [149, 150, 151, 152, 153]) (by first | rfl | simp))
          refine pw_ld E (pc' := 254) (st' := [.ref 141]) rfl (fun _ => rfl) ?_
          refine pw_getR (b := 168) h174I E (c := 125) (k := 39) (pc' := 257) rfl rfl rfl rfl rfl rfl rfl ?_
          refine pw_ld E (pc' := 259) (st' := [pw_i ((12 * k) + mo), .ref 168]) rfl (fun _ => rfl) ?_
          refine pw_ld E (pc' := 261) (st' := [pw_i x154, pw_i ((12 * k) + mo), .ref 168]) rfl (fun _ => rfl) ?_
          refine pw_if E (pc' := 268) rfl (by decide) (by omega) (by omega) ?_ ?_
          · intro hc175
            change x154 = (0 : Int) at hc175
            refine pw_ld E (pc' := 269) (st' := [.ref 141, pw_i ((12 * k) + mo), .ref 168]) rfl (fun _ => rfl) ?_
            refine pw_ld E (pc' := 270) (st' := [pw_i l, .ref 141, pw_i ((12 * k) + mo), .ref 168]) rfl (fun _ => rfl) ?_
            refine pw_ld E (pc' := 271) (st' := [pw_i 1, pw_i l, .ref 141, pw_i ((12 * k) + mo), .ref 168]) rfl (fun _ => rfl) ?_
            refine pw_ld E (pc' := 272) (st' := [.ref 141, pw_i 1, pw_i l, .ref 141, pw_i ((12 * k) + mo), .ref 168]) rfl (fun _ => rfl) ?_
            refine pw_getR (b := 165) h174I E (c := 125) (k := 36) (pc' := 275) rfl rfl rfl rfl rfl rfl rfl ?_
            refine pw_ld E (pc' := 276) (st' := [pw_i 1, .ref 165, pw_i 1, pw_i l, .ref 141, pw_i ((12 * k) + mo), .ref 168]) rfl (fun _ => rfl) ?_
            have he177 : pw_g h174 149 (Int.toNat 1) = pw_g h171 149 (Int.toNat 1) := by rw [← h174w]; exact pw_g_ne (by omega)
            have he178 : pw_g h171 149 (Int.toNat 1) = pw_g h155 149 (Int.toNat 1) := pw_Eg (c := 149) h155I h171E rfl rfl _
            have he179 : pw_g h155 149 (Int.toNat 1) = pw_g h152 149 (Int.toNat 1) := by rw [← h155w]; exact pw_g_ne (by omega)
            have he180 : pw_g h152 149 (Int.toNat 1) = pw_g h149 149 (Int.toNat 1) := pw_Eg (c := 149) h149I h152E rfl rfl _
            have he181 : pw_g h149 149 (Int.toNat 1) = pw_g h147 149 (Int.toNat 1) := by rw [← h149w]; exact pw_g_ne (by omega)
            have he182 : pw_g h147 149 (Int.toNat 1) = pw_g h146 149 (Int.toNat 1) := by rw [← h147w]; exact pw_g_ne (by omega)
            have he183 : pw_g h146 149 (Int.toNat 1) = pw_g h143 149 (Int.toNat 1) := by rw [← h146w]; exact pw_g_ne (by omega)
            have he184 : pw_g h143 149 (Int.toNat 1) = pw_g h142 149 (Int.toNat 1) := by rw [← h143w]; exact pw_g_ne (by omega)
            have he185 : pw_g h142 149 (Int.toNat 1) = pw_g h140 149 (Int.toNat 1) := by rw [← h142w]; exact pw_g_ne (by omega)
            have he186 : pw_g h140 149 (Int.toNat 1) = pw_g h10 149 (Int.toNat 1) := by rw [← h140w]; exact pw_g_ne (by omega)
            have he187 : pw_g h10 149 (Int.toNat 1) = pw_g h9 149 (Int.toNat 1) := by rw [← h10w]; exact pw_g_ne (by omega)
            have he188 : pw_g h9 149 (Int.toNat 1) = pw_g h7 149 (Int.toNat 1) := by rw [← h9w]; exact pw_g_ne (by omega)
            have he189 : pw_g h7 149 (Int.toNat 1) = pw_g h5 152 ((((12 * k) + mo) - 1).toNat) := by rw [← h7w]; exact pw_g_eqA (c := 149) h5I rfl (by decide) (by omega) (by omega)
            refine pw_ald2 h174I E (c := 149) (pc' := 277) rfl rfl rfl (by decide) rfl (by decide) (by omega) (by omega) rfl (fun hf176a hf176b => ?_)
            have hwas : pw_g h174 149 (Int.toNat 1) = max 0 p % 100 := by
              have e : pw_g h174 149 1 = pw_g h149 149 1 := by rw [← h174w, pw_g_ne (by omega), pw_Eg (c := 149) h155I h171E rfl rfl _, ← h155w, pw_g_ne (by omega), pw_Eg (c := 149) h149I h152E rfl rfl _]
              exact e.trans t1
            have hwb : 0 ≤ pw_g h174 149 (Int.toNat 1) ∧ pw_g h174 149 (Int.toNat 1) ≤ 99 := by rw [hwas]; omega
            have hw1 : _ = (pu_ft p (pw_g h 133 k.toNat) (pw_g h 136 (12 * (pw_g h 132 k.toNat) + mo).toNat) (pw_g h 132 k.toNat) mo (pw_g h 137 (12 * (pw_g h 132 k.toNat) + mo).toNat) dr) 1 := hwas.trans pu_ft1.symm
            have hMS : pt_MS h174 l th C := hp1.fr I h174F rfl rfl rfl
            have hgd : th 1 = 1 → pe_ok 9 (C 1) ∧ pe_h (C 1) = 1 := fun q => hp2 1 (by omega) (by decide)
            obtain ⟨f190l, f190h, -⟩ := pw_obj (c := 125) h174I rfl
            refine pw_call (m' := 266) (As := [.ref 141, pw_i l, pw_i 1, pw_i (pw_g h174 149 (Int.toNat 1))]) (rest := [pw_i ((12 * k) + mo), .ref 168]) (ls'' := [some (.ref 141), some (pw_i l), some (pw_i 1), some (pw_i (pw_g h174 149 (Int.toNat 1))), none]) (Nat.le_trans (by decide) hd) E rfl (fun _ => pw_iV rfl rfl rfl rfl (pw_cellI f190h rfl)) (rfl : pm_ent 266 = some (4, 5, 12, 0, pmc_266)) rfl rfl (cm_266_x (pw_dp hd (by decide)) h174I (l) (by omega) (by omega) (1) (by omega) (by omega) (pw_g h174 149 (Int.toNat 1)) (by omega) (by omega) th C hMS hgd) ?_
            rintro h191 v192 ⟨h191I, h191E, x193, rfl, hx193a, hx193b, hx193r⟩
            refine ⟨_, rfl, ?_⟩
            have h191F := h174F.tr (h191E.wk (W' := [149, 150, 151, 152, 153]) (by first | rfl | simp))
            show pw X d h191 261 280 [some (.ref 141), some (pw_i l), some (pw_i k), some (pw_i mo), some (pw_i dr), some (pw_i ((12 * k) + mo)), some (pw_i (pw_g h 136 (((12 * (pw_g h 132 (k.toNat))) + mo).toNat))), some (pw_i (pw_g h 153 ((((12 * k) + mo) - 1).toNat))), some (pw_i x154)] [pw_i x193, pw_i ((12 * k) + mo), .ref 168] _
            change (th 1 = 0 ∧ x193 = (pw_g h174 149 (Int.toNat 1))) ∨ (th 1 = 1 ∧ ((((pe_s (pe_F h174 149 10) (C 1)).getD 0 0) < 0 ∧ x193 = 0) ∨ (99 < ((pe_s (pe_F h174 149 10) (C 1)).getD 0 0) ∧ x193 = 99) ∨ (0 ≤ ((pe_s (pe_F h174 149 10) (C 1)).getD 0 0) ∧ ((pe_s (pe_F h174 149 10) (C 1)).getD 0 0) ≤ 99 ∧ x193 = ((pe_s (pe_F h174 149 10) (C 1)).getD 0 0)))) at hx193r
            rw [pe_Fcg (h := h149) (h' := h174) (r := 149) (fun j => by rw [← h174w, pw_g_ne (by omega), pw_Eg (c := 149) h155I h171E rfl rfl _, ← h155w, pw_g_ne (by omega), pw_Eg (c := 149) h149I h152E rfl rfl _])] at hx193r
            rw [hF] at hx193r
            refine pw_ast0 h191I E (c := 152) (pc' := 281) rfl rfl rfl (by decide) rfl (by decide) (by omega) (by omega) rfl (by omega) (by omega) (by omega) (by omega) rfl ?_
            intro h194I h194E
            generalize h194w : pw_w h191 152 (((12 * k) + mo).toNat) (pw_i x193) = h194 at h194I h194E ⊢
            have h194F := h191F.tr (h194E.wk (W' := [149, 150, 151, 152, 153]) (by first | rfl | simp))
            have a153 : pw_g h194 153 (12 * k + mo).toNat = x154 := by
              rw [← h194w, pw_g_ne (by omega), pw_Eg (c := 153) h174I h191E rfl rfl _, ← h174w, pw_g_ne (by omega), pw_Eg (c := 153) h155I h171E rfl rfl _, ← h155w]
              exact pw_g_eqA h152I rfl (by omega) (by omega) (by omega)
            have b153 : ∀ j : Nat, j ≠ (12 * k + mo).toNat → pw_g h194 153 j = pw_g h 153 j := fun j hj => by rw [← h194w, pw_g_ne (by omega), pw_Eg (c := 153) h174I h191E rfl rfl _, ← h174w, pw_g_ne (by omega), pw_Eg (c := 153) h155I h171E rfl rfl _, ← h155w, pw_g_ne (fun q => hj q.2.symm), pw_Eg (c := 153) h149I h152E rfl rfl _, ← h149w, pw_g_ne (by omega), ← h147w, pw_g_ne (by omega), ← h146w, pw_g_ne (by omega), ← h143w, pw_g_ne (by omega), ← h142w, pw_g_ne (by omega), ← h140w, pw_g_ne (by omega), ← h10w, pw_g_ne (by omega), ← h9w, pw_g_ne (by omega), ← h7w, pw_g_ne (by omega), ← h5w, pw_g_ne (by omega)]
            have a151 : pw_g h194 151 (12 * k + mo).toNat = x173 := by
              rw [← h194w, pw_g_ne (by omega), pw_Eg (c := 151) h174I h191E rfl rfl _, ← h174w]
              exact pw_g_eqA h171I rfl (by omega) (by omega) (by omega)
            have b151 : ∀ j : Nat, j ≠ (12 * k + mo).toNat → pw_g h194 151 j = pw_g h 151 j := fun j hj => by rw [← h194w, pw_g_ne (by omega), pw_Eg (c := 151) h174I h191E rfl rfl _, ← h174w, pw_g_ne (fun q => hj q.2.symm), pw_Eg (c := 151) h155I h171E rfl rfl _, ← h155w, pw_g_ne (by omega), pw_Eg (c := 151) h149I h152E rfl rfl _, ← h149w, pw_g_ne (by omega), ← h147w, pw_g_ne (by omega), ← h146w, pw_g_ne (by omega), ← h143w, pw_g_ne (by omega), ← h142w, pw_g_ne (by omega), ← h140w, pw_g_ne (by omega), ← h10w, pw_g_ne (by omega), ← h9w, pw_g_ne (by omega), ← h7w, pw_g_ne (by omega), ← h5w, pw_g_ne (by omega)]
            have a152 : pw_g h194 152 (12 * k + mo).toNat = x193 := by
              rw [← h194w]
              exact pw_g_eqA h191I rfl (by omega) (by omega) (by omega)
            have b152 : ∀ j : Nat, j ≠ (12 * k + mo).toNat → pw_g h194 152 j = pw_g h 152 j := fun j hj => by rw [← h194w, pw_g_ne (fun q => hj q.2.symm), pw_Eg (c := 152) h174I h191E rfl rfl _, ← h174w, pw_g_ne (by omega), pw_Eg (c := 152) h155I h171E rfl rfl _, ← h155w, pw_g_ne (by omega), pw_Eg (c := 152) h149I h152E rfl rfl _, ← h149w, pw_g_ne (by omega), ← h147w, pw_g_ne (by omega), ← h146w, pw_g_ne (by omega), ← h143w, pw_g_ne (by omega), ← h142w, pw_g_ne (by omega), ← h140w, pw_g_ne (by omega), ← h10w, pw_g_ne (by omega), ← h9w, pw_g_ne (by omega), ← h7w, pw_g_ne (by omega), ← h5w, pw_g_ne (by omega)]
            refine pw_vret E rfl ?_
            have hy0 := pu_nM (F := (pu_ft p (pw_g h 133 k.toNat) (pw_g h 136 (12 * (pw_g h 132 k.toNat) + mo).toNat) (pw_g h 132 k.toNat) mo (pw_g h 137 (12 * (pw_g h 132 k.toNat) + mo).toNat) dr)) (k := 0) (hx173r.imp (fun q => ⟨q.1, q.2.trans hw0⟩) id)
            have hy1 := pu_nM (F := (pu_ft p (pw_g h 133 k.toNat) (pw_g h 136 (12 * (pw_g h 132 k.toNat) + mo).toNat) (pw_g h 132 k.toNat) mo (pw_g h 137 (12 * (pw_g h 132 k.toNat) + mo).toNat) dr)) (k := 1) (hx193r.imp (fun q => ⟨q.1, q.2.trans hw1⟩) id)
            exact ⟨h194I, h194F, ⟨pu_Wr.n (by omega) (by omega) (a151.trans hy0) (a152.trans hy1) (by omega) (by omega) (by omega) (by omega), fun j hj => ⟨b153 j hj, b151 j hj, b152 j hj⟩⟩, rfl⟩
          · intro hc195
            change ¬ (x154 = (0 : Int)) at hc195
            exfalso; omega
        · intro hc196
          change ¬ (x154 = (0 : Int)) at hc196
          refine pw_ld E (pc' := 237) (st' := [pw_i 0, pw_i ((12 * k) + mo), .ref 167]) rfl (fun _ => rfl) ?_
          refine pw_goto E (pc' := 252) rfl (by decide) ?_
          refine pw_ast0 h155I E (c := 151) (pc' := 253) rfl rfl rfl (by decide) rfl (by decide) (by omega) (by omega) rfl (by omega) (by omega) (by omega) (by omega) rfl ?_
          intro h197I h197E
          generalize h197w : pw_w h155 151 (((12 * k) + mo).toNat) (pw_i 0) = h197 at h197I h197E ⊢
          have h197F := h155F.tr (h197E.wk (W' := [149, 150, 151, 152, 153]) (by first | rfl | simp))
          refine pw_ld E (pc' := 254) (st' := [.ref 141]) rfl (fun _ => rfl) ?_
          refine pw_getR (b := 168) h197I E (c := 125) (k := 39) (pc' := 257) rfl rfl rfl rfl rfl rfl rfl ?_
          refine pw_ld E (pc' := 259) (st' := [pw_i ((12 * k) + mo), .ref 168]) rfl (fun _ => rfl) ?_
          refine pw_ld E (pc' := 261) (st' := [pw_i x154, pw_i ((12 * k) + mo), .ref 168]) rfl (fun _ => rfl) ?_
          refine pw_if E (pc' := 268) rfl (by decide) (by omega) (by omega) ?_ ?_
          · intro hc198
            change x154 = (0 : Int) at hc198
            exfalso; omega
          · intro hc199
            change ¬ (x154 = (0 : Int)) at hc199
            refine pw_ld E (pc' := 265) (st' := [pw_i 0, pw_i ((12 * k) + mo), .ref 168]) rfl (fun _ => rfl) ?_
            refine pw_goto E (pc' := 280) rfl (by decide) ?_
            refine pw_ast0 h197I E (c := 152) (pc' := 281) rfl rfl rfl (by decide) rfl (by decide) (by omega) (by omega) rfl (by omega) (by omega) (by omega) (by omega) rfl ?_
            intro h200I h200E
            generalize h200w : pw_w h197 152 (((12 * k) + mo).toNat) (pw_i 0) = h200 at h200I h200E ⊢
            have h200F := h197F.tr (h200E.wk (W' := [149, 150, 151, 152, 153]) (by first | rfl | simp))
            have a153 : pw_g h200 153 (12 * k + mo).toNat = x154 := by
              rw [← h200w, pw_g_ne (by omega), ← h197w, pw_g_ne (by omega), ← h155w]
              exact pw_g_eqA h152I rfl (by omega) (by omega) (by omega)
            have b153 : ∀ j : Nat, j ≠ (12 * k + mo).toNat → pw_g h200 153 j = pw_g h 153 j := fun j hj => by rw [← h200w, pw_g_ne (by omega), ← h197w, pw_g_ne (by omega), ← h155w, pw_g_ne (fun q => hj q.2.symm), pw_Eg (c := 153) h149I h152E rfl rfl _, ← h149w, pw_g_ne (by omega), ← h147w, pw_g_ne (by omega), ← h146w, pw_g_ne (by omega), ← h143w, pw_g_ne (by omega), ← h142w, pw_g_ne (by omega), ← h140w, pw_g_ne (by omega), ← h10w, pw_g_ne (by omega), ← h9w, pw_g_ne (by omega), ← h7w, pw_g_ne (by omega), ← h5w, pw_g_ne (by omega)]
            have a151 : pw_g h200 151 (12 * k + mo).toNat = 0 := by
              rw [← h200w, pw_g_ne (by omega), ← h197w]
              exact pw_g_eqA h155I rfl (by omega) (by omega) (by omega)
            have b151 : ∀ j : Nat, j ≠ (12 * k + mo).toNat → pw_g h200 151 j = pw_g h 151 j := fun j hj => by rw [← h200w, pw_g_ne (by omega), ← h197w, pw_g_ne (fun q => hj q.2.symm), ← h155w, pw_g_ne (by omega), pw_Eg (c := 151) h149I h152E rfl rfl _, ← h149w, pw_g_ne (by omega), ← h147w, pw_g_ne (by omega), ← h146w, pw_g_ne (by omega), ← h143w, pw_g_ne (by omega), ← h142w, pw_g_ne (by omega), ← h140w, pw_g_ne (by omega), ← h10w, pw_g_ne (by omega), ← h9w, pw_g_ne (by omega), ← h7w, pw_g_ne (by omega), ← h5w, pw_g_ne (by omega)]
            have a152 : pw_g h200 152 (12 * k + mo).toNat = 0 := by
              rw [← h200w]
              exact pw_g_eqA h197I rfl (by omega) (by omega) (by omega)
            have b152 : ∀ j : Nat, j ≠ (12 * k + mo).toNat → pw_g h200 152 j = pw_g h 152 j := fun j hj => by rw [← h200w, pw_g_ne (fun q => hj q.2.symm), ← h197w, pw_g_ne (by omega), ← h155w, pw_g_ne (by omega), pw_Eg (c := 152) h149I h152E rfl rfl _, ← h149w, pw_g_ne (by omega), ← h147w, pw_g_ne (by omega), ← h146w, pw_g_ne (by omega), ← h143w, pw_g_ne (by omega), ← h142w, pw_g_ne (by omega), ← h140w, pw_g_ne (by omega), ← h10w, pw_g_ne (by omega), ← h9w, pw_g_ne (by omega), ← h7w, pw_g_ne (by omega), ← h5w, pw_g_ne (by omega)]
            refine pw_vret E rfl ?_
            exact ⟨h200I, h200F, ⟨pu_Wr.s (by omega) (by omega) a151 a152, fun j hj => ⟨b153 j hj, b151 j hj, b152 j hj⟩⟩, rfl⟩
      · intro hc201
        change ¬ (pw_g h 153 ((((12 * k) + mo) - 1).toNat) = (0 : Int)) at hc201
        exfalso; omega
    · intro hc202
      change ¬ (pw_g h 153 ((((12 * k) + mo) - 1).toNat) = (0 : Int)) at hc202
      refine pw_ld E (pc' := 181) (st' := [pw_i 1, pw_i 9, .ref 165]) rfl (fun _ => rfl) ?_
      refine pw_goto E (pc' := 185) rfl (by decide) ?_
      refine pw_ast0 h147I E (c := 149) (pc' := 186) rfl rfl rfl (by decide) rfl (by decide) (by omega) (by omega) rfl (by omega) (by omega) (by omega) (by omega) rfl ?_
      intro h203I h203E
      generalize h203w : pw_w h147 149 (Int.toNat 9) (pw_i 1) = h203 at h203I h203E ⊢
      have h203F := h147F.tr (h203E.wk (W' := [149, 150, 151, 152, 153]) (by first | rfl | simp))
      have f0 : pw_g h203 149 0 = pw_g h 151 ((((12 * k) + mo) - 1).toNat) := by
        rw [← h203w, pw_g_ne (by omega), ← h147w, pw_g_ne (by omega), ← h146w, pw_g_ne (by omega), ← h143w, pw_g_ne (by omega), ← h142w, pw_g_ne (by omega), ← h140w, pw_g_ne (by omega), ← h10w, pw_g_ne (by omega), ← h9w, pw_g_ne (by omega), ← h7w, pw_g_ne (by omega), ← h5w]
        exact pw_g_eqA I rfl (by decide) (by omega) (by omega)
      have r0 : pw_g h 151 ((((12 * k) + mo) - 1).toNat) = pw_g h 151 ((((12 * k) + mo) - 1).toNat) := rfl
      have t0 : pw_g h203 149 0 = max 0 p / 100 := f0.trans (r0.trans (by omega))
      have f1 : pw_g h203 149 1 = pw_g h5 152 ((((12 * k) + mo) - 1).toNat) := by
        rw [← h203w, pw_g_ne (by omega), ← h147w, pw_g_ne (by omega), ← h146w, pw_g_ne (by omega), ← h143w, pw_g_ne (by omega), ← h142w, pw_g_ne (by omega), ← h140w, pw_g_ne (by omega), ← h10w, pw_g_ne (by omega), ← h9w, pw_g_ne (by omega), ← h7w]
        exact pw_g_eqA h5I rfl (by decide) (by omega) (by omega)
      have r1 : pw_g h5 152 ((((12 * k) + mo) - 1).toNat) = pw_g h 152 ((((12 * k) + mo) - 1).toNat) := by rw [← h5w, pw_g_ne (by omega)]
      have t1 : pw_g h203 149 1 = max 0 p % 100 := f1.trans (r1.trans (by omega))
      have f2 : pw_g h203 149 2 = pw_g h7 133 (k.toNat) := by
        rw [← h203w, pw_g_ne (by omega), ← h147w, pw_g_ne (by omega), ← h146w, pw_g_ne (by omega), ← h143w, pw_g_ne (by omega), ← h142w, pw_g_ne (by omega), ← h140w, pw_g_ne (by omega), ← h10w, pw_g_ne (by omega), ← h9w]
        exact pw_g_eqA h7I rfl (by decide) (by omega) (by omega)
      have r2 : pw_g h7 133 (k.toNat) = pw_g h 133 (k.toNat) := by rw [← h7w, pw_g_ne (by omega), ← h5w, pw_g_ne (by omega)]
      have t2 : pw_g h203 149 2 = (pw_g h 133 k.toNat) := f2.trans (r2.trans rfl)
      have f3 : pw_g h203 149 3 = pw_g h 136 (((12 * (pw_g h 132 (k.toNat))) + mo).toNat) := by
        rw [← h203w, pw_g_ne (by omega), ← h147w, pw_g_ne (by omega), ← h146w, pw_g_ne (by omega), ← h143w, pw_g_ne (by omega), ← h142w, pw_g_ne (by omega), ← h140w, pw_g_ne (by omega), ← h10w]
        exact pw_g_eqA h9I rfl (by decide) (by omega) (by omega)
      have r3 : pw_g h 136 (((12 * (pw_g h 132 (k.toNat))) + mo).toNat) = pw_g h 136 (((12 * (pw_g h 132 (k.toNat))) + mo).toNat) := rfl
      have t3 : pw_g h203 149 3 = (pw_g h 136 (12 * (pw_g h 132 k.toNat) + mo).toNat) := f3.trans (r3.trans rfl)
      have f4 : pw_g h203 149 4 = (pw_g h 136 (((12 * (pw_g h 132 (k.toNat))) + mo).toNat)) - (pw_g h10 133 (k.toNat)) := by
        rw [← h203w, pw_g_ne (by omega), ← h147w, pw_g_ne (by omega), ← h146w, pw_g_ne (by omega), ← h143w, pw_g_ne (by omega), ← h142w, pw_g_ne (by omega), ← h140w]
        exact pw_g_eqA h10I rfl (by decide) (by omega) (by omega)
      have t4 : pw_g h203 149 4 = max 0 ((pw_g h 136 (12 * (pw_g h 132 k.toNat) + mo).toNat) - (pw_g h 133 k.toNat)) := f4.trans ((by omega))
      have f5 : pw_g h203 149 5 = pw_g h140 132 (k.toNat) := by
        rw [← h203w, pw_g_ne (by omega), ← h147w, pw_g_ne (by omega), ← h146w, pw_g_ne (by omega), ← h143w, pw_g_ne (by omega), ← h142w]
        exact pw_g_eqA h140I rfl (by decide) (by omega) (by omega)
      have r5 : pw_g h140 132 (k.toNat) = pw_g h 132 (k.toNat) := by rw [← h140w, pw_g_ne (by omega), ← h10w, pw_g_ne (by omega), ← h9w, pw_g_ne (by omega), ← h7w, pw_g_ne (by omega), ← h5w, pw_g_ne (by omega)]
      have t5 : pw_g h203 149 5 = (pw_g h 132 k.toNat) := f5.trans (r5.trans rfl)
      have f6 : pw_g h203 149 6 = mo := by
        rw [← h203w, pw_g_ne (by omega), ← h147w, pw_g_ne (by omega), ← h146w, pw_g_ne (by omega), ← h143w]
        exact pw_g_eqA h142I rfl (by decide) (by omega) (by omega)
      have t6 : pw_g h203 149 6 = mo := f6.trans (rfl)
      have f7 : pw_g h203 149 7 = pw_g h143 137 (((12 * (pw_g h143 132 (k.toNat))) + mo).toNat) := by
        rw [← h203w, pw_g_ne (by omega), ← h147w, pw_g_ne (by omega), ← h146w]
        exact pw_g_eqA h143I rfl (by decide) (by omega) (by omega)
      have q7 : pw_g h143 132 k.toNat = pw_g h 132 k.toNat := by rw [← h143w, pw_g_ne (by omega), ← h142w, pw_g_ne (by omega), ← h140w, pw_g_ne (by omega), ← h10w, pw_g_ne (by omega), ← h9w, pw_g_ne (by omega), ← h7w, pw_g_ne (by omega), ← h5w, pw_g_ne (by omega)]
      have r7 : pw_g h143 137 (((12 * (pw_g h143 132 (k.toNat))) + mo).toNat) = pw_g h 137 (((12 * (pw_g h 132 (k.toNat))) + mo).toNat) := by rw [q7, ← h143w, pw_g_ne (by omega), ← h142w, pw_g_ne (by omega), ← h140w, pw_g_ne (by omega), ← h10w, pw_g_ne (by omega), ← h9w, pw_g_ne (by omega), ← h7w, pw_g_ne (by omega), ← h5w, pw_g_ne (by omega)]
      have t7 : pw_g h203 149 7 = (pw_g h 137 (12 * (pw_g h 132 k.toNat) + mo).toNat) := f7.trans (r7.trans rfl)
      have f8 : pw_g h203 149 8 = dr := by
        rw [← h203w, pw_g_ne (by omega), ← h147w]
        exact pw_g_eqA h146I rfl (by decide) (by omega) (by omega)
      have t8 : pw_g h203 149 8 = dr := f8.trans (rfl)
      have f9 : pw_g h203 149 9 = 1 := by
        rw [← h203w]
        exact pw_g_eqA h147I rfl (by decide) (by omega) (by omega)
      have t9 : pw_g h203 149 9 = if p = -1 then 1 else 0 := f9.trans ((by first | exact (if_pos (by omega)).symm | exact (if_neg (by omega)).symm))
      have hF : pe_F h203 149 10 = (pu_ft p (pw_g h 133 k.toNat) (pw_g h 136 (12 * (pw_g h 132 k.toNat) + mo).toNat) (pw_g h 132 k.toNat) mo (pw_g h 137 (12 * (pw_g h 132 k.toNat) + mo).toNat) dr) := pu_FE t0 t1 t2 t3 t4 t5 t6 t7 t8 t9
      clear f0 f1 f2 f3 f4 f5 f6 f7 f8 f9 t2 t3 t4 t5 t6 t7 t8 t9
      refine pw_ld E (pc' := 188) (st' := [pw_i (pw_g h 153 ((((12 * k) + mo) - 1).toNat))]) rfl (fun _ => rfl) ?_
      refine pw_if E (pc' := 208) rfl (by decide) (by omega) (by omega) ?_ ?_
      · intro hc204
        change pw_g h 153 ((((12 * k) + mo) - 1).toNat) = (0 : Int) at hc204
        exfalso; omega
      · intro hc205
        change ¬ (pw_g h 153 ((((12 * k) + mo) - 1).toNat) = (0 : Int)) at hc205
        refine pw_ld E (pc' := 192) (st' := [.ref 141]) rfl (fun _ => rfl) ?_
        refine pw_ld E (pc' := 193) (st' := [pw_i l, .ref 141]) rfl (fun _ => rfl) ?_
        refine pw_ld E (pc' := 194) (st' := [pw_i 3, pw_i l, .ref 141]) rfl (fun _ => rfl) ?_
        have hMS : pt_MS h203 l th C := hp1.fr I h203F rfl rfl rfl
        have hgd : th 3 = 1 → pe_ok 9 (C 3) ∧ pe_h (C 3) = 1 := fun q => hp2 3 (by omega) (by decide)
        obtain ⟨f206l, f206h, -⟩ := pw_obj (c := 125) h203I rfl
        refine pw_call (m' := 262) (As := [.ref 141, pw_i l, pw_i 3]) (rest := []) (ls'' := [some (.ref 141), some (pw_i l), some (pw_i 3)]) (Nat.le_trans (by decide) hd) E rfl (fun _ => pw_iV rfl rfl rfl rfl (pw_cellI f206h rfl)) (rfl : pm_ent 262 = some (3, 3, 12, 1, pmc_262)) rfl rfl (cm_262_x (pw_dp hd (by decide)) h203I (l) (by omega) (by omega) (3) (by omega) (by omega) th C hMS hgd) ?_
        rintro h207 v208 ⟨h207I, h207E, x209, rfl, hx209a, hx209b, hx209r⟩
        refine ⟨_, rfl, ?_⟩
        have h207F := h203F.tr (h207E.wk (W' := [149, 150, 151, 152, 153]) (by first | rfl | simp))
        show pw X d h207 261 197 [some (.ref 141), some (pw_i l), some (pw_i k), some (pw_i mo), some (pw_i dr), some (pw_i ((12 * k) + mo)), some (pw_i (pw_g h 136 (((12 * (pw_g h 132 (k.toNat))) + mo).toNat))), some (pw_i (pw_g h 153 ((((12 * k) + mo) - 1).toNat))), none] [pw_i x209] _
        change (x209 = 1 ∧ th 3 = 1 ∧ ((pe_s (pe_F h203 149 10) (C 3)).getD 0 0) ≠ 0) ∨ (x209 = 0 ∧ ¬ (th 3 = 1 ∧ ((pe_s (pe_F h203 149 10) (C 3)).getD 0 0) ≠ 0)) at hx209r
        rcases (by omega : x209 = 1 ∨ x209 = 0) with hb210 | hb210
        · skip
          rw [hF] at hx209r
          refine pw_if E (pc' := 204) rfl (by decide) (by omega) (by omega) ?_ ?_
          · intro hc211
            change x209 ≠ (0 : Int) at hc211
            refine pw_ld E (pc' := 205) (st' := [pw_i 0]) rfl (fun _ => rfl) ?_
            refine pw_goto E (pc' := 214) rfl (by decide) ?_
            refine pw_ist E (pc' := 216) (ls' := [some (.ref 141), some (pw_i l), some (pw_i k), some (pw_i mo), some (pw_i dr), some (pw_i ((12 * k) + mo)), some (pw_i (pw_g h 136 (((12 * (pw_g h 132 (k.toNat))) + mo).toNat))), some (pw_i (pw_g h 153 ((((12 * k) + mo) - 1).toNat))), some (pw_i 0)]) rfl rfl rfl rfl ?_
            have hO : pu_o th C (pu_ft p (pw_g h 133 k.toNat) (pw_g h 136 (12 * (pw_g h 132 k.toNat) + mo).toNat) (pw_g h 132 k.toNat) mo (pw_g h 137 (12 * (pw_g h 132 k.toNat) + mo).toNat) dr) p = 1 - 0 := by unfold pu_o pu_v; (repeat' split) <;> omega
            refine pw_ld E (pc' := 217) (st' := [.ref 141]) rfl (fun _ => rfl) ?_
            refine pw_getR (b := 169) h207I E (c := 125) (k := 40) (pc' := 220) rfl rfl rfl rfl rfl rfl rfl ?_
            refine pw_ld E (pc' := 222) (st' := [pw_i ((12 * k) + mo), .ref 169]) rfl (fun _ => rfl) ?_
            refine pw_ld E (pc' := 224) (st' := [pw_i 0, pw_i ((12 * k) + mo), .ref 169]) rfl (fun _ => rfl) ?_
            refine pw_ast0 h207I E (c := 153) (pc' := 225) rfl rfl rfl (by decide) rfl (by decide) (by omega) (by omega) (pw_b1 (by omega) (by omega)) (by omega) (by omega) (by omega) (by omega) rfl ?_
            intro h212I h212E
            generalize h212w : pw_w h207 153 (((12 * k) + mo).toNat) (pw_i 0) = h212 at h212I h212E ⊢
            have h212F := h207F.tr (h212E.wk (W' := [149, 150, 151, 152, 153]) (by first | rfl | simp))
            refine pw_ld E (pc' := 226) (st' := [.ref 141]) rfl (fun _ => rfl) ?_
            refine pw_getR (b := 167) h212I E (c := 125) (k := 38) (pc' := 229) rfl rfl rfl rfl rfl rfl rfl ?_
            refine pw_ld E (pc' := 231) (st' := [pw_i ((12 * k) + mo), .ref 167]) rfl (fun _ => rfl) ?_
            refine pw_ld E (pc' := 233) (st' := [pw_i 0, pw_i ((12 * k) + mo), .ref 167]) rfl (fun _ => rfl) ?_
            refine pw_if E (pc' := 240) rfl (by decide) (by decide) (by decide) ?_ ?_
            · intro hc213
              change (0 : Int) = (0 : Int) at hc213
              refine pw_ld E (pc' := 241) (st' := [.ref 141, pw_i ((12 * k) + mo), .ref 167]) rfl (fun _ => rfl) ?_
              refine pw_ld E (pc' := 242) (st' := [pw_i l, .ref 141, pw_i ((12 * k) + mo), .ref 167]) rfl (fun _ => rfl) ?_
              refine pw_ld E (pc' := 243) (st' := [pw_i 0, pw_i l, .ref 141, pw_i ((12 * k) + mo), .ref 167]) rfl (fun _ => rfl) ?_
              refine pw_ld E (pc' := 244) (st' := [.ref 141, pw_i 0, pw_i l, .ref 141, pw_i ((12 * k) + mo), .ref 167]) rfl (fun _ => rfl) ?_
              refine pw_getR (b := 165) h212I E (c := 125) (k := 36) (pc' := 247) rfl rfl rfl rfl rfl rfl rfl ?_
              refine pw_ld E (pc' := 248) (st' := [pw_i 0, .ref 165, pw_i 0, pw_i l, .ref 141, pw_i ((12 * k) + mo), .ref 167]) rfl (fun _ => rfl) ?_
              have he215 : pw_g h212 149 (Int.toNat 0) = pw_g h207 149 (Int.toNat 0) := by rw [← h212w]; exact pw_g_ne (by omega)
              have he216 : pw_g h207 149 (Int.toNat 0) = pw_g h203 149 (Int.toNat 0) := pw_Eg (c := 149) h203I h207E rfl rfl _
              have he217 : pw_g h203 149 (Int.toNat 0) = pw_g h147 149 (Int.toNat 0) := by rw [← h203w]; exact pw_g_ne (by omega)
              have he218 : pw_g h147 149 (Int.toNat 0) = pw_g h146 149 (Int.toNat 0) := by rw [← h147w]; exact pw_g_ne (by omega)
              have he219 : pw_g h146 149 (Int.toNat 0) = pw_g h143 149 (Int.toNat 0) := by rw [← h146w]; exact pw_g_ne (by omega)
              have he220 : pw_g h143 149 (Int.toNat 0) = pw_g h142 149 (Int.toNat 0) := by rw [← h143w]; exact pw_g_ne (by omega)
              have he221 : pw_g h142 149 (Int.toNat 0) = pw_g h140 149 (Int.toNat 0) := by rw [← h142w]; exact pw_g_ne (by omega)
              have he222 : pw_g h140 149 (Int.toNat 0) = pw_g h10 149 (Int.toNat 0) := by rw [← h140w]; exact pw_g_ne (by omega)
              have he223 : pw_g h10 149 (Int.toNat 0) = pw_g h9 149 (Int.toNat 0) := by rw [← h10w]; exact pw_g_ne (by omega)
              have he224 : pw_g h9 149 (Int.toNat 0) = pw_g h7 149 (Int.toNat 0) := by rw [← h9w]; exact pw_g_ne (by omega)
              have he225 : pw_g h7 149 (Int.toNat 0) = pw_g h5 149 (Int.toNat 0) := by rw [← h7w]; exact pw_g_ne (by omega)
              have he226 : pw_g h5 149 (Int.toNat 0) = pw_g h 151 ((((12 * k) + mo) - 1).toNat) := by rw [← h5w]; exact pw_g_eqA (c := 149) I rfl (by decide) (by omega) (by omega)
              refine pw_ald2 h212I E (c := 149) (pc' := 249) rfl rfl rfl (by decide) rfl (by decide) (by omega) (by omega) rfl (fun hf214a hf214b => ?_)
              have hwas : pw_g h212 149 (Int.toNat 0) = max 0 p / 100 := by
                have e : pw_g h212 149 0 = pw_g h203 149 0 := by rw [← h212w, pw_g_ne (by omega), pw_Eg (c := 149) h203I h207E rfl rfl _]
                exact e.trans t0
              have hwb : 0 ≤ pw_g h212 149 (Int.toNat 0) ∧ pw_g h212 149 (Int.toNat 0) ≤ 99 := by rw [hwas]; omega
              have hw0 : _ = (pu_ft p (pw_g h 133 k.toNat) (pw_g h 136 (12 * (pw_g h 132 k.toNat) + mo).toNat) (pw_g h 132 k.toNat) mo (pw_g h 137 (12 * (pw_g h 132 k.toNat) + mo).toNat) dr) 0 := hwas.trans pu_ft0.symm
              have hMS : pt_MS h212 l th C := hp1.fr I h212F rfl rfl rfl
              have hgd : th 0 = 1 → pe_ok 9 (C 0) ∧ pe_h (C 0) = 1 := fun q => hp2 0 (by omega) (by decide)
              obtain ⟨f227l, f227h, -⟩ := pw_obj (c := 125) h212I rfl
              refine pw_call (m' := 266) (As := [.ref 141, pw_i l, pw_i 0, pw_i (pw_g h212 149 (Int.toNat 0))]) (rest := [pw_i ((12 * k) + mo), .ref 167]) (ls'' := [some (.ref 141), some (pw_i l), some (pw_i 0), some (pw_i (pw_g h212 149 (Int.toNat 0))), none]) (Nat.le_trans (by decide) hd) E rfl (fun _ => pw_iV rfl rfl rfl rfl (pw_cellI f227h rfl)) (rfl : pm_ent 266 = some (4, 5, 12, 0, pmc_266)) rfl rfl (cm_266_x (pw_dp hd (by decide)) h212I (l) (by omega) (by omega) (0) (by omega) (by omega) (pw_g h212 149 (Int.toNat 0)) (by omega) (by omega) th C hMS hgd) ?_
              rintro h228 v229 ⟨h228I, h228E, x230, rfl, hx230a, hx230b, hx230r⟩
              refine ⟨_, rfl, ?_⟩
              have h228F := h212F.tr (h228E.wk (W' := [149, 150, 151, 152, 153]) (by first | rfl | simp))
              show pw X d h228 261 252 [some (.ref 141), some (pw_i l), some (pw_i k), some (pw_i mo), some (pw_i dr), some (pw_i ((12 * k) + mo)), some (pw_i (pw_g h 136 (((12 * (pw_g h 132 (k.toNat))) + mo).toNat))), some (pw_i (pw_g h 153 ((((12 * k) + mo) - 1).toNat))), some (pw_i 0)] [pw_i x230, pw_i ((12 * k) + mo), .ref 167] _
              change (th 0 = 0 ∧ x230 = (pw_g h212 149 (Int.toNat 0))) ∨ (th 0 = 1 ∧ ((((pe_s (pe_F h212 149 10) (C 0)).getD 0 0) < 0 ∧ x230 = 0) ∨ (99 < ((pe_s (pe_F h212 149 10) (C 0)).getD 0 0) ∧ x230 = 99) ∨ (0 ≤ ((pe_s (pe_F h212 149 10) (C 0)).getD 0 0) ∧ ((pe_s (pe_F h212 149 10) (C 0)).getD 0 0) ≤ 99 ∧ x230 = ((pe_s (pe_F h212 149 10) (C 0)).getD 0 0)))) at hx230r
              rw [pe_Fcg (h := h203) (h' := h212) (r := 149) (fun j => by rw [← h212w, pw_g_ne (by omega), pw_Eg (c := 149) h203I h207E rfl rfl _])] at hx230r
              rw [hF] at hx230r
              refine pw_ast0 h228I E (c := 151) (pc' := 253) rfl rfl rfl (by decide) rfl (by decide) (by omega) (by omega) rfl (by omega) (by omega) (by omega) (by omega) rfl ?_
              intro h231I h231E
              generalize h231w : pw_w h228 151 (((12 * k) + mo).toNat) (pw_i x230) = h231 at h231I h231E ⊢
              have h231F := h228F.tr (h231E.wk (W' := [149, 150, 151, 152, 153]) (by first | rfl | simp))
              refine pw_ld E (pc' := 254) (st' := [.ref 141]) rfl (fun _ => rfl) ?_
              refine pw_getR (b := 168) h231I E (c := 125) (k := 39) (pc' := 257) rfl rfl rfl rfl rfl rfl rfl ?_
              refine pw_ld E (pc' := 259) (st' := [pw_i ((12 * k) + mo), .ref 168]) rfl (fun _ => rfl) ?_
              refine pw_ld E (pc' := 261) (st' := [pw_i 0, pw_i ((12 * k) + mo), .ref 168]) rfl (fun _ => rfl) ?_
              refine pw_if E (pc' := 268) rfl (by decide) (by decide) (by decide) ?_ ?_
              · intro hc232
                change (0 : Int) = (0 : Int) at hc232
                refine pw_ld E (pc' := 269) (st' := [.ref 141, pw_i ((12 * k) + mo), .ref 168]) rfl (fun _ => rfl) ?_
                refine pw_ld E (pc' := 270) (st' := [pw_i l, .ref 141, pw_i ((12 * k) + mo), .ref 168]) rfl (fun _ => rfl) ?_
                refine pw_ld E (pc' := 271) (st' := [pw_i 1, pw_i l, .ref 141, pw_i ((12 * k) + mo), .ref 168]) rfl (fun _ => rfl) ?_
                refine pw_ld E (pc' := 272) (st' := [.ref 141, pw_i 1, pw_i l, .ref 141, pw_i ((12 * k) + mo), .ref 168]) rfl (fun _ => rfl) ?_
                refine pw_getR (b := 165) h231I E (c := 125) (k := 36) (pc' := 275) rfl rfl rfl rfl rfl rfl rfl ?_
                refine pw_ld E (pc' := 276) (st' := [pw_i 1, .ref 165, pw_i 1, pw_i l, .ref 141, pw_i ((12 * k) + mo), .ref 168]) rfl (fun _ => rfl) ?_
                have he234 : pw_g h231 149 (Int.toNat 1) = pw_g h228 149 (Int.toNat 1) := by rw [← h231w]; exact pw_g_ne (by omega)
                have he235 : pw_g h228 149 (Int.toNat 1) = pw_g h212 149 (Int.toNat 1) := pw_Eg (c := 149) h212I h228E rfl rfl _
                have he236 : pw_g h212 149 (Int.toNat 1) = pw_g h207 149 (Int.toNat 1) := by rw [← h212w]; exact pw_g_ne (by omega)
                have he237 : pw_g h207 149 (Int.toNat 1) = pw_g h203 149 (Int.toNat 1) := pw_Eg (c := 149) h203I h207E rfl rfl _
                have he238 : pw_g h203 149 (Int.toNat 1) = pw_g h147 149 (Int.toNat 1) := by rw [← h203w]; exact pw_g_ne (by omega)
                have he239 : pw_g h147 149 (Int.toNat 1) = pw_g h146 149 (Int.toNat 1) := by rw [← h147w]; exact pw_g_ne (by omega)
                have he240 : pw_g h146 149 (Int.toNat 1) = pw_g h143 149 (Int.toNat 1) := by rw [← h146w]; exact pw_g_ne (by omega)
                have he241 : pw_g h143 149 (Int.toNat 1) = pw_g h142 149 (Int.toNat 1) := by rw [← h143w]; exact pw_g_ne (by omega)
                have he242 : pw_g h142 149 (Int.toNat 1) = pw_g h140 149 (Int.toNat 1) := by rw [← h142w]; exact pw_g_ne (by omega)
                have he243 : pw_g h140 149 (Int.toNat 1) = pw_g h10 149 (Int.toNat 1) := by rw [← h140w]; exact pw_g_ne (by omega)
                have he244 : pw_g h10 149 (Int.toNat 1) = pw_g h9 149 (Int.toNat 1) := by rw [← h10w]; exact pw_g_ne (by omega)
                have he245 : pw_g h9 149 (Int.toNat 1) = pw_g h7 149 (Int.toNat 1) := by rw [← h9w]; exact pw_g_ne (by omega)
                have he246 : pw_g h7 149 (Int.toNat 1) = pw_g h5 152 ((((12 * k) + mo) - 1).toNat) := by rw [← h7w]; exact pw_g_eqA (c := 149) h5I rfl (by decide) (by omega) (by omega)
                refine pw_ald2 h231I E (c := 149) (pc' := 277) rfl rfl rfl (by decide) rfl (by decide) (by omega) (by omega) rfl (fun hf233a hf233b => ?_)
                have hwas : pw_g h231 149 (Int.toNat 1) = max 0 p % 100 := by
                  have e : pw_g h231 149 1 = pw_g h203 149 1 := by rw [← h231w, pw_g_ne (by omega), pw_Eg (c := 149) h212I h228E rfl rfl _, ← h212w, pw_g_ne (by omega), pw_Eg (c := 149) h203I h207E rfl rfl _]
                  exact e.trans t1
                have hwb : 0 ≤ pw_g h231 149 (Int.toNat 1) ∧ pw_g h231 149 (Int.toNat 1) ≤ 99 := by rw [hwas]; omega
                have hw1 : _ = (pu_ft p (pw_g h 133 k.toNat) (pw_g h 136 (12 * (pw_g h 132 k.toNat) + mo).toNat) (pw_g h 132 k.toNat) mo (pw_g h 137 (12 * (pw_g h 132 k.toNat) + mo).toNat) dr) 1 := hwas.trans pu_ft1.symm
                have hMS : pt_MS h231 l th C := hp1.fr I h231F rfl rfl rfl
                have hgd : th 1 = 1 → pe_ok 9 (C 1) ∧ pe_h (C 1) = 1 := fun q => hp2 1 (by omega) (by decide)
                obtain ⟨f247l, f247h, -⟩ := pw_obj (c := 125) h231I rfl
                refine pw_call (m' := 266) (As := [.ref 141, pw_i l, pw_i 1, pw_i (pw_g h231 149 (Int.toNat 1))]) (rest := [pw_i ((12 * k) + mo), .ref 168]) (ls'' := [some (.ref 141), some (pw_i l), some (pw_i 1), some (pw_i (pw_g h231 149 (Int.toNat 1))), none]) (Nat.le_trans (by decide) hd) E rfl (fun _ => pw_iV rfl rfl rfl rfl (pw_cellI f247h rfl)) (rfl : pm_ent 266 = some (4, 5, 12, 0, pmc_266)) rfl rfl (cm_266_x (pw_dp hd (by decide)) h231I (l) (by omega) (by omega) (1) (by omega) (by omega) (pw_g h231 149 (Int.toNat 1)) (by omega) (by omega) th C hMS hgd) ?_
                rintro h248 v249 ⟨h248I, h248E, x250, rfl, hx250a, hx250b, hx250r⟩
                refine ⟨_, rfl, ?_⟩
                have h248F := h231F.tr (h248E.wk (W' := [149, 150, 151, 152, 153]) (by first | rfl | simp))
                show pw X d h248 261 280 [some (.ref 141), some (pw_i l), some (pw_i k), some (pw_i mo), some (pw_i dr), some (pw_i ((12 * k) + mo)), some (pw_i (pw_g h 136 (((12 * (pw_g h 132 (k.toNat))) + mo).toNat))), some (pw_i (pw_g h 153 ((((12 * k) + mo) - 1).toNat))), some (pw_i 0)] [pw_i x250, pw_i ((12 * k) + mo), .ref 168] _
                change (th 1 = 0 ∧ x250 = (pw_g h231 149 (Int.toNat 1))) ∨ (th 1 = 1 ∧ ((((pe_s (pe_F h231 149 10) (C 1)).getD 0 0) < 0 ∧ x250 = 0) ∨ (99 < ((pe_s (pe_F h231 149 10) (C 1)).getD 0 0) ∧ x250 = 99) ∨ (0 ≤ ((pe_s (pe_F h231 149 10) (C 1)).getD 0 0) ∧ ((pe_s (pe_F h231 149 10) (C 1)).getD 0 0) ≤ 99 ∧ x250 = ((pe_s (pe_F h231 149 10) (C 1)).getD 0 0)))) at hx250r
                rw [pe_Fcg (h := h203) (h' := h231) (r := 149) (fun j => by rw [← h231w, pw_g_ne (by omega), pw_Eg (c := 149) h212I h228E rfl rfl _, ← h212w, pw_g_ne (by omega), pw_Eg (c := 149) h203I h207E rfl rfl _])] at hx250r
                rw [hF] at hx250r
                refine pw_ast0 h248I E (c := 152) (pc' := 281) rfl rfl rfl (by decide) rfl (by decide) (by omega) (by omega) rfl (by omega) (by omega) (by omega) (by omega) rfl ?_
                intro h251I h251E
                generalize h251w : pw_w h248 152 (((12 * k) + mo).toNat) (pw_i x250) = h251 at h251I h251E ⊢
                have h251F := h248F.tr (h251E.wk (W' := [149, 150, 151, 152, 153]) (by first | rfl | simp))
                have a153 : pw_g h251 153 (12 * k + mo).toNat = 0 := by
                  rw [← h251w, pw_g_ne (by omega), pw_Eg (c := 153) h231I h248E rfl rfl _, ← h231w, pw_g_ne (by omega), pw_Eg (c := 153) h212I h228E rfl rfl _, ← h212w]
                  exact pw_g_eqA h207I rfl (by omega) (by omega) (by omega)
                have b153 : ∀ j : Nat, j ≠ (12 * k + mo).toNat → pw_g h251 153 j = pw_g h 153 j := fun j hj => by rw [← h251w, pw_g_ne (by omega), pw_Eg (c := 153) h231I h248E rfl rfl _, ← h231w, pw_g_ne (by omega), pw_Eg (c := 153) h212I h228E rfl rfl _, ← h212w, pw_g_ne (fun q => hj q.2.symm), pw_Eg (c := 153) h203I h207E rfl rfl _, ← h203w, pw_g_ne (by omega), ← h147w, pw_g_ne (by omega), ← h146w, pw_g_ne (by omega), ← h143w, pw_g_ne (by omega), ← h142w, pw_g_ne (by omega), ← h140w, pw_g_ne (by omega), ← h10w, pw_g_ne (by omega), ← h9w, pw_g_ne (by omega), ← h7w, pw_g_ne (by omega), ← h5w, pw_g_ne (by omega)]
                have a151 : pw_g h251 151 (12 * k + mo).toNat = x230 := by
                  rw [← h251w, pw_g_ne (by omega), pw_Eg (c := 151) h231I h248E rfl rfl _, ← h231w]
                  exact pw_g_eqA h228I rfl (by omega) (by omega) (by omega)
                have b151 : ∀ j : Nat, j ≠ (12 * k + mo).toNat → pw_g h251 151 j = pw_g h 151 j := fun j hj => by rw [← h251w, pw_g_ne (by omega), pw_Eg (c := 151) h231I h248E rfl rfl _, ← h231w, pw_g_ne (fun q => hj q.2.symm), pw_Eg (c := 151) h212I h228E rfl rfl _, ← h212w, pw_g_ne (by omega), pw_Eg (c := 151) h203I h207E rfl rfl _, ← h203w, pw_g_ne (by omega), ← h147w, pw_g_ne (by omega), ← h146w, pw_g_ne (by omega), ← h143w, pw_g_ne (by omega), ← h142w, pw_g_ne (by omega), ← h140w, pw_g_ne (by omega), ← h10w, pw_g_ne (by omega), ← h9w, pw_g_ne (by omega), ← h7w, pw_g_ne (by omega), ← h5w, pw_g_ne (by omega)]
                have a152 : pw_g h251 152 (12 * k + mo).toNat = x250 := by
                  rw [← h251w]
                  exact pw_g_eqA h248I rfl (by omega) (by omega) (by omega)
                have b152 : ∀ j : Nat, j ≠ (12 * k + mo).toNat → pw_g h251 152 j = pw_g h 152 j := fun j hj => by rw [← h251w, pw_g_ne (fun q => hj q.2.symm), pw_Eg (c := 152) h231I h248E rfl rfl _, ← h231w, pw_g_ne (by omega), pw_Eg (c := 152) h212I h228E rfl rfl _, ← h212w, pw_g_ne (by omega), pw_Eg (c := 152) h203I h207E rfl rfl _, ← h203w, pw_g_ne (by omega), ← h147w, pw_g_ne (by omega), ← h146w, pw_g_ne (by omega), ← h143w, pw_g_ne (by omega), ← h142w, pw_g_ne (by omega), ← h140w, pw_g_ne (by omega), ← h10w, pw_g_ne (by omega), ← h9w, pw_g_ne (by omega), ← h7w, pw_g_ne (by omega), ← h5w, pw_g_ne (by omega)]
                refine pw_vret E rfl ?_
                have hy0 := pu_nM (F := (pu_ft p (pw_g h 133 k.toNat) (pw_g h 136 (12 * (pw_g h 132 k.toNat) + mo).toNat) (pw_g h 132 k.toNat) mo (pw_g h 137 (12 * (pw_g h 132 k.toNat) + mo).toNat) dr)) (k := 0) (hx230r.imp (fun q => ⟨q.1, q.2.trans hw0⟩) id)
                have hy1 := pu_nM (F := (pu_ft p (pw_g h 133 k.toNat) (pw_g h 136 (12 * (pw_g h 132 k.toNat) + mo).toNat) (pw_g h 132 k.toNat) mo (pw_g h 137 (12 * (pw_g h 132 k.toNat) + mo).toNat) dr)) (k := 1) (hx250r.imp (fun q => ⟨q.1, q.2.trans hw1⟩) id)
                exact ⟨h251I, h251F, ⟨pu_Wr.n (by omega) (by omega) (a151.trans hy0) (a152.trans hy1) (by omega) (by omega) (by omega) (by omega), fun j hj => ⟨b153 j hj, b151 j hj, b152 j hj⟩⟩, rfl⟩
              · intro hc252
                change ¬ ((0 : Int) = (0 : Int)) at hc252
                exfalso; omega
            · intro hc253
              change ¬ ((0 : Int) = (0 : Int)) at hc253
              exfalso; omega
          · intro hc254
            change ¬ (x209 ≠ (0 : Int)) at hc254
            exfalso; omega
        · skip
          rw [hF] at hx209r
          refine pw_if E (pc' := 204) rfl (by decide) (by omega) (by omega) ?_ ?_
          · intro hc256
            change x209 ≠ (0 : Int) at hc256
            exfalso; omega
          · intro hc257
            change ¬ (x209 ≠ (0 : Int)) at hc257
            refine pw_ld E (pc' := 201) (st' := [pw_i 1]) rfl (fun _ => rfl) ?_
            refine pw_goto E (pc' := 214) rfl (by decide) ?_
            refine pw_ist E (pc' := 216) (ls' := [some (.ref 141), some (pw_i l), some (pw_i k), some (pw_i mo), some (pw_i dr), some (pw_i ((12 * k) + mo)), some (pw_i (pw_g h 136 (((12 * (pw_g h 132 (k.toNat))) + mo).toNat))), some (pw_i (pw_g h 153 ((((12 * k) + mo) - 1).toNat))), some (pw_i 1)]) rfl rfl rfl rfl ?_
            have hO : pu_o th C (pu_ft p (pw_g h 133 k.toNat) (pw_g h 136 (12 * (pw_g h 132 k.toNat) + mo).toNat) (pw_g h 132 k.toNat) mo (pw_g h 137 (12 * (pw_g h 132 k.toNat) + mo).toNat) dr) p = 1 - 1 := by unfold pu_o pu_v; (repeat' split) <;> omega
            refine pw_ld E (pc' := 217) (st' := [.ref 141]) rfl (fun _ => rfl) ?_
            refine pw_getR (b := 169) h207I E (c := 125) (k := 40) (pc' := 220) rfl rfl rfl rfl rfl rfl rfl ?_
            refine pw_ld E (pc' := 222) (st' := [pw_i ((12 * k) + mo), .ref 169]) rfl (fun _ => rfl) ?_
            refine pw_ld E (pc' := 224) (st' := [pw_i 1, pw_i ((12 * k) + mo), .ref 169]) rfl (fun _ => rfl) ?_
            refine pw_ast0 h207I E (c := 153) (pc' := 225) rfl rfl rfl (by decide) rfl (by decide) (by omega) (by omega) (pw_b1 (by omega) (by omega)) (by omega) (by omega) (by omega) (by omega) rfl ?_
            intro h258I h258E
            generalize h258w : pw_w h207 153 (((12 * k) + mo).toNat) (pw_i 1) = h258 at h258I h258E ⊢
            have h258F := h207F.tr (h258E.wk (W' := [149, 150, 151, 152, 153]) (by first | rfl | simp))
            refine pw_ld E (pc' := 226) (st' := [.ref 141]) rfl (fun _ => rfl) ?_
            refine pw_getR (b := 167) h258I E (c := 125) (k := 38) (pc' := 229) rfl rfl rfl rfl rfl rfl rfl ?_
            refine pw_ld E (pc' := 231) (st' := [pw_i ((12 * k) + mo), .ref 167]) rfl (fun _ => rfl) ?_
            refine pw_ld E (pc' := 233) (st' := [pw_i 1, pw_i ((12 * k) + mo), .ref 167]) rfl (fun _ => rfl) ?_
            refine pw_if E (pc' := 240) rfl (by decide) (by decide) (by decide) ?_ ?_
            · intro hc259
              change (1 : Int) = (0 : Int) at hc259
              exfalso; omega
            · intro hc260
              change ¬ ((1 : Int) = (0 : Int)) at hc260
              refine pw_ld E (pc' := 237) (st' := [pw_i 0, pw_i ((12 * k) + mo), .ref 167]) rfl (fun _ => rfl) ?_
              refine pw_goto E (pc' := 252) rfl (by decide) ?_
              refine pw_ast0 h258I E (c := 151) (pc' := 253) rfl rfl rfl (by decide) rfl (by decide) (by omega) (by omega) rfl (by omega) (by omega) (by omega) (by omega) rfl ?_
              intro h261I h261E
              generalize h261w : pw_w h258 151 (((12 * k) + mo).toNat) (pw_i 0) = h261 at h261I h261E ⊢
              have h261F := h258F.tr (h261E.wk (W' := [149, 150, 151, 152, 153]) (by first | rfl | simp))
              refine pw_ld E (pc' := 254) (st' := [.ref 141]) rfl (fun _ => rfl) ?_
              refine pw_getR (b := 168) h261I E (c := 125) (k := 39) (pc' := 257) rfl rfl rfl rfl rfl rfl rfl ?_
              refine pw_ld E (pc' := 259) (st' := [pw_i ((12 * k) + mo), .ref 168]) rfl (fun _ => rfl) ?_
              refine pw_ld E (pc' := 261) (st' := [pw_i 1, pw_i ((12 * k) + mo), .ref 168]) rfl (fun _ => rfl) ?_
              refine pw_if E (pc' := 268) rfl (by decide) (by decide) (by decide) ?_ ?_
              · intro hc262
                change (1 : Int) = (0 : Int) at hc262
                exfalso; omega
              · intro hc263
                change ¬ ((1 : Int) = (0 : Int)) at hc263
                refine pw_ld E (pc' := 265) (st' := [pw_i 0, pw_i ((12 * k) + mo), .ref 168]) rfl (fun _ => rfl) ?_
                refine pw_goto E (pc' := 280) rfl (by decide) ?_
                refine pw_ast0 h261I E (c := 152) (pc' := 281) rfl rfl rfl (by decide) rfl (by decide) (by omega) (by omega) rfl (by omega) (by omega) (by omega) (by omega) rfl ?_
                intro h264I h264E
                generalize h264w : pw_w h261 152 (((12 * k) + mo).toNat) (pw_i 0) = h264 at h264I h264E ⊢
                have h264F := h261F.tr (h264E.wk (W' := [149, 150, 151, 152, 153]) (by first | rfl | simp))
                have a153 : pw_g h264 153 (12 * k + mo).toNat = 1 := by
                  rw [← h264w, pw_g_ne (by omega), ← h261w, pw_g_ne (by omega), ← h258w]
                  exact pw_g_eqA h207I rfl (by omega) (by omega) (by omega)
                have b153 : ∀ j : Nat, j ≠ (12 * k + mo).toNat → pw_g h264 153 j = pw_g h 153 j := fun j hj => by rw [← h264w, pw_g_ne (by omega), ← h261w, pw_g_ne (by omega), ← h258w, pw_g_ne (fun q => hj q.2.symm), pw_Eg (c := 153) h203I h207E rfl rfl _, ← h203w, pw_g_ne (by omega), ← h147w, pw_g_ne (by omega), ← h146w, pw_g_ne (by omega), ← h143w, pw_g_ne (by omega), ← h142w, pw_g_ne (by omega), ← h140w, pw_g_ne (by omega), ← h10w, pw_g_ne (by omega), ← h9w, pw_g_ne (by omega), ← h7w, pw_g_ne (by omega), ← h5w, pw_g_ne (by omega)]
                have a151 : pw_g h264 151 (12 * k + mo).toNat = 0 := by
                  rw [← h264w, pw_g_ne (by omega), ← h261w]
                  exact pw_g_eqA h258I rfl (by omega) (by omega) (by omega)
                have b151 : ∀ j : Nat, j ≠ (12 * k + mo).toNat → pw_g h264 151 j = pw_g h 151 j := fun j hj => by rw [← h264w, pw_g_ne (by omega), ← h261w, pw_g_ne (fun q => hj q.2.symm), ← h258w, pw_g_ne (by omega), pw_Eg (c := 151) h203I h207E rfl rfl _, ← h203w, pw_g_ne (by omega), ← h147w, pw_g_ne (by omega), ← h146w, pw_g_ne (by omega), ← h143w, pw_g_ne (by omega), ← h142w, pw_g_ne (by omega), ← h140w, pw_g_ne (by omega), ← h10w, pw_g_ne (by omega), ← h9w, pw_g_ne (by omega), ← h7w, pw_g_ne (by omega), ← h5w, pw_g_ne (by omega)]
                have a152 : pw_g h264 152 (12 * k + mo).toNat = 0 := by
                  rw [← h264w]
                  exact pw_g_eqA h261I rfl (by omega) (by omega) (by omega)
                have b152 : ∀ j : Nat, j ≠ (12 * k + mo).toNat → pw_g h264 152 j = pw_g h 152 j := fun j hj => by rw [← h264w, pw_g_ne (fun q => hj q.2.symm), ← h261w, pw_g_ne (by omega), ← h258w, pw_g_ne (by omega), pw_Eg (c := 152) h203I h207E rfl rfl _, ← h203w, pw_g_ne (by omega), ← h147w, pw_g_ne (by omega), ← h146w, pw_g_ne (by omega), ← h143w, pw_g_ne (by omega), ← h142w, pw_g_ne (by omega), ← h140w, pw_g_ne (by omega), ← h10w, pw_g_ne (by omega), ← h9w, pw_g_ne (by omega), ← h7w, pw_g_ne (by omega), ← h5w, pw_g_ne (by omega)]
                refine pw_vret E rfl ?_
                exact ⟨h264I, h264F, ⟨pu_Wr.s (by omega) (by omega) a151 a152, fun j hj => ⟨b153 j hj, b151 j hj, b152 j hj⟩⟩, rfl⟩
end
section
/-! worlds: the model runs -/
def pu_Wm (v s w g : Int) : Prop := (v = -1 ∧ s = 2 ∧ w = 0 ∧ g = 0) ∨ (v ≠ -1 ∧ s ≠ 2 ∧ v = w * 100 + g ∧ 0 ≤ w ∧ w ≤ 99 ∧ 0 ≤ g ∧ g ≤ 99)
def pu_Wi (h : pm_H) (r : Nat → Int) : Prop := ∀ k : Nat, k < 24 → pu_Wm (r (12 * k)) (pw_g h 138 (12 * k)) (pw_g h 139 (12 * k)) (pw_g h 140 (12 * k))
def pu_W3 (h : pm_H) (v : Int) (c : Nat) : Prop := pu_Wr v (pw_g h 153 c) (pw_g h 151 c) (pw_g h 152 c)
def pu_w0 (r : Nat → Int) (h : pm_H) (n : Int) : Prop := ∀ k : Nat, (k : Int) < n → pu_W3 h (r (12 * k)) (12 * k)
/-- the months before m, and the first n kitchens of month m -/
def pu_w (td r : Nat → Int) (h : pm_H) (m n : Int) : Prop := ∀ k e : Nat, k < 24 → ((e : Int) < m ∨ ((e : Int) = m ∧ (k : Int) < n)) → e = 0 ∨ td k ≠ 0 → pu_W3 h (r (12 * k + e)) (12 * k + e)
theorem pu_w0.w {td r : Nat → Int} {h : pm_H} (H : pu_w0 r h 24) : pu_w td r h 1 0 := by
  intro k e hk a b
  have e0 : e = 0 := by omega
  subst e0
  exact H k (by omega)
theorem pu_w.mo {td r : Nat → Int} {h : pm_H} {m : Int} (H : pu_w td r h m 24) : pu_w td r h (m + 1) 0 := fun k e hk a b => H k e hk (by omega) b
theorem pu_w.no {td r : Nat → Int} {h : pm_H} {m n : Int} (m1 : 1 ≤ m) (n0 : 0 ≤ n) (H : pu_w td r h m n) (ht : td n.toNat = 0) : pu_w td r h m (n + 1) := by
  intro k e hk a b
  by_cases q : (k : Int) = n ∧ (e : Int) = m
  · exfalso
    rw [show n.toNat = k by omega] at ht
    rcases b with b | b
    · omega
    · exact b ht
  · exact H k e hk (by omega) b
theorem pu_w.yes {td r r' : Nat → Int} {h h' : pm_H} {m n : Int} (m1 : 1 ≤ m) (m2 : m ≤ 11) (n0 : 0 ≤ n) (H : pu_w td r h m n) (hr : ∀ c : Nat, c ≠ (12 * n + m).toNat → r' c = r c) (hh : ∀ j : Nat, j ≠ (12 * n + m).toNat → pw_g h' 153 j = pw_g h 153 j ∧ pw_g h' 151 j = pw_g h 151 j ∧ pw_g h' 152 j = pw_g h 152 j) (hn : pu_W3 h' (r' (12 * n + m).toNat) (12 * n + m).toNat) : pu_w td r' h' m (n + 1) := by
  intro k e hk a b
  by_cases q : 12 * k + e = (12 * n + m).toNat
  · rw [q]; exact hn
  · obtain ⟨e1, e2, e3⟩ := hh _ q
    unfold pu_W3
    rw [hr _ q, e1, e2, e3]
    exact H k e hk (by omega) b
theorem pu_w0.S {r : Nat → Int} {h h' : pm_H} {n : Int} (n0 : 0 ≤ n) (H : pu_w0 r h n) (hh : ∀ j : Nat, j ≠ (12 * n).toNat → pw_g h' 153 j = pw_g h 153 j ∧ pw_g h' 151 j = pw_g h 151 j ∧ pw_g h' 152 j = pw_g h 152 j) (hn : pu_W3 h' (r (12 * n).toNat) (12 * n).toNat) : pu_w0 r h' (n + 1) := by
  intro k hk
  by_cases q : 12 * k = (12 * n).toNat
  · rw [q]; exact hn
  · obtain ⟨e1, e2, e3⟩ := hh _ q
    unfold pu_W3
    rw [e1, e2, e3]
    exact H k (by omega)
theorem pu_Wm.r {h' : pm_H} {v s w g : Int} {c : Nat} (H : pu_Wm v s w g) (hw : pw_g h' 151 c = w) (hg : pw_g h' 152 c = g) (hs : (s = 2 ∧ pw_g h' 153 c = 1) ∨ (s ≠ 2 ∧ pw_g h' 153 c = 0)) : pu_W3 h' v c := by
  unfold pu_W3 pu_Wr
  unfold pu_Wm at H
  rw [hw, hg]
  omega
section Pv
variable {td bk wg fl tr : Nat → Int} {th : Int → Int} {C : Int → List Int} {sd : Int} {r : Nat → Int}
def pu_S (td bk wg fl tr : Nat → Int) (th : Int → Int) (C : Int → List Int) (sd : Int) (r : Nat → Int) (m : Int) : Int × (Nat → Int) := pu_ms td bk wg fl tr th C (m - 1).toNat (sd, r)
def pu_K (td bk wg fl tr : Nat → Int) (th : Int → Int) (C : Int → List Int) (sd : Int) (r : Nat → Int) (m n : Int) : Int × (Nat → Int) := pu_ks td bk wg fl tr th C ((m - 1).toNat + 1) n.toNat (pu_S td bk wg fl tr th C sd r m)
theorem pu_KS {m : Int} (m1 : 1 ≤ m) : pu_S td bk wg fl tr th C sd r (m + 1) = pu_K td bk wg fl tr th C sd r m 24 := by
  unfold pu_S
  rw [show (m + 1 - 1).toNat = (m - 1).toNat + 1 by omega]
  rfl
theorem pu_Kk {m n : Int} (n0 : 0 ≤ n) : pu_K td bk wg fl tr th C sd r m (n + 1) = pu_k td bk wg fl tr th C ((m - 1).toNat + 1) n.toNat (pu_K td bk wg fl tr th C sd r m n) := by
  unfold pu_K
  rw [show (n + 1).toNat = n.toNat + 1 by omega]
  rfl
theorem pu_Kno {m n : Int} (n0 : 0 ≤ n) (ht : td n.toNat = 0) : pu_K td bk wg fl tr th C sd r m (n + 1) = pu_K td bk wg fl tr th C sd r m n := by
  rw [pu_Kk n0]
  unfold pu_k
  rw [if_pos ht]
theorem pu_Kyes {m n : Int} (m1 : 1 ≤ m) (n0 : 0 ≤ n) (ht : td n.toNat ≠ 0) : (pu_K td bk wg fl tr th C sd r m (n + 1)).1 = pu_g (pu_K td bk wg fl tr th C sd r m n).1 ∧ (pu_K td bk wg fl tr th C sd r m (n + 1)).2 (12 * n + m).toNat = pu_lv th C (pu_ft ((pu_K td bk wg fl tr th C sd r m n).2 (12 * n + m - 1).toNat) (wg n.toNat) (fl (12 * bk n.toNat + m).toNat) (bk n.toNat) m (tr (12 * bk n.toNat + m).toNat) (pu_d (pu_g (pu_K td bk wg fl tr th C sd r m n).1))) ((pu_K td bk wg fl tr th C sd r m n).2 (12 * n + m - 1).toNat) ∧ ∀ c : Nat, c ≠ (12 * n + m).toNat → (pu_K td bk wg fl tr th C sd r m (n + 1)).2 c = (pu_K td bk wg fl tr th C sd r m n).2 c := by
  rw [pu_Kk n0]
  generalize pu_K td bk wg fl tr th C sd r m n = s
  unfold pu_k
  rw [if_neg ht]
  have i1 : 12 * n.toNat + ((m - 1).toNat + 1) = (12 * n + m).toNat := by omega
  have i2 : (12 * n + m).toNat - 1 = (12 * n + m - 1).toNat := by omega
  rw [i1, i2]
  refine ⟨rfl, ?_, fun c hc => if_neg hc⟩
  show (if (12 * n + m).toNat = (12 * n + m).toNat then _ else _) = _
  rw [if_pos rfl]
  unfold pu_F
  rw [show (((m - 1).toNat + 1 : Nat) : Int) = m by omega]
end Pv
end
