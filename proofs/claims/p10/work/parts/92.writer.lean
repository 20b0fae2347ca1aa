/-! the model (printed by wip/tool/mall.py) -/
set_option maxHeartbeats 4000000 in
theorem cm_277 {X : List (Nat × List Value)} {d : Nat} {h : pm_H} (hd : 34 ≤ d) (I : pw_I h) (ix : Int) (hix1 : (-2147483648) ≤ ix) (hix2 : ix ≤ 2147483647) (hp0 : pw_K h) : pw X d h 277 0 [some (.ref 141), some (pw_i ix), none] [] (fun h' v => pw_I h' ∧ pw_E [125, 127, 128, 129, 146, 147, 157, 158, 159, 160, 161, 1002] h h' ∧ (pw_K h') ∧ (∃ a : Int, v = .inl (some (pw_i a)) ∧ (-2147483648) ≤ a ∧ a ≤ 2147483647)) := by
  have E : pm_ent 277 = some (2, 3, 12, 0, pmc_277) := rfl
  have E0 : pw_E [125, 127, 128, 129, 146, 147, 157, 158, 159, 160, 161, 1002] h h := pw_E.rf _ _
  refine pw_ld E (pc' := 1) (st' := [.ref 141]) rfl (fun _ => rfl) ?_
  refine pw_ld E (pc' := 2) (st' := [pw_i 0, .ref 141]) rfl (fun _ => rfl) ?_
  refine pw_putI I E (c := 125) (k := 0) (pc' := 5) rfl rfl rfl rfl (by omega) (by omega) (by omega) (by omega) rfl rfl ?_
  intro h1I h1E
  generalize h1w : pw_w h 125 0 (pw_i 0) = h1 at h1I h1E ⊢
  have h1F := E0.tr (h1E.wk (W' := [125, 127, 128, 129, 146, 147, 157, 158, 159, 160, 161, 1002]) (by first | rfl | simp))
  refine pw_ld E (pc' := 6) (st' := [pw_i ix]) rfl (fun _ => rfl) ?_
  refine pw_call (m' := 278) (As := [pw_i ix]) (rest := []) (ls'' := [some (pw_i ix)]) (by omega) E rfl (fun _ => pw_iS rfl rfl rfl) (rfl : pm_ent 278 = some (1, 1, 12, 1, pmc_278)) rfl rfl (cm_278 (by omega) h1I (ix) (by omega) (by omega)) ?_
  rintro u3 v2 ⟨rfl, x4, rfl, hx4a, hx4b, hx4r⟩
  refine ⟨_, rfl, ?_⟩
  show pw X d h1 277 9 [some (.ref 141), some (pw_i ix), none] [pw_i x4] _
  have hx4r : (x4 = 1 ∧ 0 ≤ ix ∧ ix ≤ 3) ∨ (x4 = 0 ∧ ¬ (0 ≤ ix ∧ ix ≤ 3)) := hx4r
  rcases (by omega : x4 = 1 ∨ x4 = 0) with hb5 | hb5
  · have hb5 : x4 = 1 := by omega
    refine pw_if E (pc' := 19) rfl (by decide) (by omega) (by omega) ?_ ?_
    · intro hc6
      have hc6 : x4 ≠ (0 : Int) := hc6
      refine pw_ld E (pc' := 20) (st' := [.ref 141]) rfl (fun _ => rfl) ?_
      obtain ⟨f7l, f7h, -⟩ := pw_obj (c := 125) h1I rfl
      refine pw_call (m' := 238) (As := [.ref 141]) (rest := []) (ls'' := [some (.ref 141), none, none, none, none, none, none]) (by omega) E rfl (fun _ => pw_iV rfl rfl rfl rfl (pw_cellI f7h rfl)) (rfl : pm_ent 238 = some (1, 7, 12, 4, pmc_238)) rfl rfl (cm_238 (by omega) h1I ) ?_
      rintro h8 v9 ⟨h8I, h8E, hqcut, rfl⟩
      refine ⟨_, rfl, ?_⟩
      have h8F := h1F.tr (h8E.wk (W' := [125, 127, 128, 129, 146, 147, 157, 158, 159, 160, 161, 1002]) (by first | rfl | simp))
      show pw X d h8 277 23 [some (.ref 141), some (pw_i ix), none] [] _
      obtain ⟨n, hA0, hz7, hz8, hV0⟩ := hqcut
      refine pw_ld E (pc' := 24) (st' := [.ref 141]) rfl (fun _ => rfl) ?_
      refine pw_ld E (pc' := 25) (st' := [pw_i 0, .ref 141]) rfl (fun _ => rfl) ?_
      refine pw_putI h8I E (c := 125) (k := 32) (pc' := 28) rfl rfl rfl rfl (by omega) (by omega) (by omega) (by omega) rfl rfl ?_
      intro h10I h10E
      generalize h10w : pw_w h8 125 32 (pw_i 0) = h10 at h10I h10E ⊢
      have h10F := h8F.tr (h10E.wk (W' := [125, 127, 128, 129, 146, 147, 157, 158, 159, 160, 161, 1002]) (by first | rfl | simp))
      refine pw_ld E (pc' := 29) (st' := [.ref 141]) rfl (fun _ => rfl) ?_
      refine pw_ld E (pc' := 30) (st' := [pw_i 1, .ref 141]) rfl (fun _ => rfl) ?_
      refine pw_putZ h10I E (c := 125) (k := 45) (pc' := 33) rfl rfl rfl rfl (by omega) (by omega) (by omega) rfl rfl ?_
      intro h11I h11E
      generalize h11w : pw_w h10 125 45 (pw_i 1) = h11 at h11I h11E ⊢
      have h11F := h10F.tr (h11E.wk (W' := [125, 127, 128, 129, 146, 147, 157, 158, 159, 160, 161, 1002]) (by first | rfl | simp))
      refine pw_ld E (pc' := 34) (st' := [pw_i 0]) rfl (fun _ => rfl) ?_
      refine pw_istn E (pc' := 35) (ls' := [some (.ref 141), some (pw_i ix), some (pw_i 0)]) rfl rfl rfl rfl ?_
      refine pw_ld E (pc' := 36) (st' := [pw_i 0]) rfl (fun _ => rfl) ?_
      refine pw_ld E (pc' := 37) (st' := [pw_i 4, pw_i 0]) rfl (fun _ => rfl) ?_
      refine pw_if2 E (pc' := 53) rfl (by decide) (by decide) (by decide) (by decide) (by decide) ?_ ?_
      · intro hc12
        have hc12 : (4 : Int) ≤ (0 : Int) := hc12
        exfalso; omega
      · intro hc13
        have hc13 : ¬ ((4 : Int) ≤ (0 : Int)) := hc13
        refine pw_ld E (pc' := 41) (st' := [.ref 141]) rfl (fun _ => rfl) ?_
        refine pw_getR (b := 177) h11I E (c := 125) (k := 50) (pc' := 44) rfl rfl rfl rfl rfl rfl rfl ?_
        refine pw_ld E (pc' := 45) (st' := [pw_i 0, .ref 177]) rfl (fun _ => rfl) ?_
        refine pw_ld E (pc' := 46) (st' := [pw_i ((-1)), pw_i 0, .ref 177]) rfl (fun _ => rfl) ?_
        refine pw_ast0 h11I E (c := 161) (pc' := 47) rfl rfl rfl (by decide) rfl (by decide) (by omega) (by omega) rfl (by omega) (by omega) (by omega) (by omega) rfl ?_
        intro h14I h14E
        generalize h14w : pw_w h11 161 (Int.toNat 0) (pw_i ((-1))) = h14 at h14I h14E ⊢
        have h14F := h11F.tr (h14E.wk (W' := [125, 127, 128, 129, 146, 147, 157, 158, 159, 160, 161, 1002]) (by first | rfl | simp))
        refine pw_inc E (pc' := 50) (ls' := [some (.ref 141), some (pw_i ix), some (pw_i (0 + 1))]) rfl rfl rfl rfl ?_
        refine pw_goto E (pc' := 35) rfl (by decide) ?_
        refine pw_ld E (pc' := 36) (st' := [pw_i (0 + 1)]) rfl (fun _ => rfl) ?_
        refine pw_ld E (pc' := 37) (st' := [pw_i 4, pw_i (0 + 1)]) rfl (fun _ => rfl) ?_
        refine pw_if2 E (pc' := 53) rfl (by decide) (by decide) (by decide) (by decide) (by decide) ?_ ?_
        · intro hc15
          have hc15 : (4 : Int) ≤ 0 + 1 := hc15
          exfalso; omega
        · intro hc16
          have hc16 : ¬ ((4 : Int) ≤ 0 + 1) := hc16
          refine pw_ld E (pc' := 41) (st' := [.ref 141]) rfl (fun _ => rfl) ?_
          refine pw_getR (b := 177) h14I E (c := 125) (k := 50) (pc' := 44) rfl rfl rfl rfl rfl rfl rfl ?_
          refine pw_ld E (pc' := 45) (st' := [pw_i (0 + 1), .ref 177]) rfl (fun _ => rfl) ?_
          refine pw_ld E (pc' := 46) (st' := [pw_i ((-1)), pw_i (0 + 1), .ref 177]) rfl (fun _ => rfl) ?_
          refine pw_ast0 h14I E (c := 161) (pc' := 47) rfl rfl rfl (by decide) rfl (by decide) (by omega) (by omega) rfl (by omega) (by omega) (by omega) (by omega) rfl ?_
          intro h17I h17E
          generalize h17w : pw_w h14 161 (((0 + 1) : Int).toNat) (pw_i ((-1))) = h17 at h17I h17E ⊢
          have h17F := h14F.tr (h17E.wk (W' := [125, 127, 128, 129, 146, 147, 157, 158, 159, 160, 161, 1002]) (by first | rfl | simp))
          refine pw_inc E (pc' := 50) (ls' := [some (.ref 141), some (pw_i ix), some (pw_i ((0 + 1) + 1))]) rfl rfl rfl rfl ?_
          refine pw_goto E (pc' := 35) rfl (by decide) ?_
          refine pw_ld E (pc' := 36) (st' := [pw_i ((0 + 1) + 1)]) rfl (fun _ => rfl) ?_
          refine pw_ld E (pc' := 37) (st' := [pw_i 4, pw_i ((0 + 1) + 1)]) rfl (fun _ => rfl) ?_
          refine pw_if2 E (pc' := 53) rfl (by decide) (by decide) (by decide) (by decide) (by decide) ?_ ?_
          · intro hc18
            have hc18 : (4 : Int) ≤ (0 + 1) + 1 := hc18
            exfalso; omega
          · intro hc19
            have hc19 : ¬ ((4 : Int) ≤ (0 + 1) + 1) := hc19
            refine pw_ld E (pc' := 41) (st' := [.ref 141]) rfl (fun _ => rfl) ?_
            refine pw_getR (b := 177) h17I E (c := 125) (k := 50) (pc' := 44) rfl rfl rfl rfl rfl rfl rfl ?_
            refine pw_ld E (pc' := 45) (st' := [pw_i ((0 + 1) + 1), .ref 177]) rfl (fun _ => rfl) ?_
            refine pw_ld E (pc' := 46) (st' := [pw_i ((-1)), pw_i ((0 + 1) + 1), .ref 177]) rfl (fun _ => rfl) ?_
            refine pw_ast0 h17I E (c := 161) (pc' := 47) rfl rfl rfl (by decide) rfl (by decide) (by omega) (by omega) rfl (by omega) (by omega) (by omega) (by omega) rfl ?_
            intro h20I h20E
            generalize h20w : pw_w h17 161 ((((0 + 1) + 1) : Int).toNat) (pw_i ((-1))) = h20 at h20I h20E ⊢
            have h20F := h17F.tr (h20E.wk (W' := [125, 127, 128, 129, 146, 147, 157, 158, 159, 160, 161, 1002]) (by first | rfl | simp))
            refine pw_inc E (pc' := 50) (ls' := [some (.ref 141), some (pw_i ix), some (pw_i (((0 + 1) + 1) + 1))]) rfl rfl rfl rfl ?_
            refine pw_goto E (pc' := 35) rfl (by decide) ?_
            refine pw_ld E (pc' := 36) (st' := [pw_i (((0 + 1) + 1) + 1)]) rfl (fun _ => rfl) ?_
            refine pw_ld E (pc' := 37) (st' := [pw_i 4, pw_i (((0 + 1) + 1) + 1)]) rfl (fun _ => rfl) ?_
            refine pw_if2 E (pc' := 53) rfl (by decide) (by decide) (by decide) (by decide) (by decide) ?_ ?_
            · intro hc21
              have hc21 : (4 : Int) ≤ ((0 + 1) + 1) + 1 := hc21
              exfalso; omega
            · intro hc22
              have hc22 : ¬ ((4 : Int) ≤ ((0 + 1) + 1) + 1) := hc22
              refine pw_ld E (pc' := 41) (st' := [.ref 141]) rfl (fun _ => rfl) ?_
              refine pw_getR (b := 177) h20I E (c := 125) (k := 50) (pc' := 44) rfl rfl rfl rfl rfl rfl rfl ?_
              refine pw_ld E (pc' := 45) (st' := [pw_i (((0 + 1) + 1) + 1), .ref 177]) rfl (fun _ => rfl) ?_
              refine pw_ld E (pc' := 46) (st' := [pw_i ((-1)), pw_i (((0 + 1) + 1) + 1), .ref 177]) rfl (fun _ => rfl) ?_
              refine pw_ast0 h20I E (c := 161) (pc' := 47) rfl rfl rfl (by decide) rfl (by decide) (by omega) (by omega) rfl (by omega) (by omega) (by omega) (by omega) rfl ?_
              intro h23I h23E
              generalize h23w : pw_w h20 161 (((((0 + 1) + 1) + 1) : Int).toNat) (pw_i ((-1))) = h23 at h23I h23E ⊢
              have h23F := h20F.tr (h23E.wk (W' := [125, 127, 128, 129, 146, 147, 157, 158, 159, 160, 161, 1002]) (by first | rfl | simp))
              refine pw_inc E (pc' := 50) (ls' := [some (.ref 141), some (pw_i ix), some (pw_i ((((0 + 1) + 1) + 1) + 1))]) rfl rfl rfl rfl ?_
              refine pw_goto E (pc' := 35) rfl (by decide) ?_
              refine pw_ld E (pc' := 36) (st' := [pw_i ((((0 + 1) + 1) + 1) + 1)]) rfl (fun _ => rfl) ?_
              refine pw_ld E (pc' := 37) (st' := [pw_i 4, pw_i ((((0 + 1) + 1) + 1) + 1)]) rfl (fun _ => rfl) ?_
              refine pw_if2 E (pc' := 53) rfl (by decide) (by decide) (by decide) (by decide) (by decide) ?_ ?_
              · intro hc24
                have hc24 : (4 : Int) ≤ (((0 + 1) + 1) + 1) + 1 := hc24
                have b7 : pw_g h23 125 7 = pw_g h8 125 7 := by rw [← h23w, pw_g_ne (by omega), ← h20w, pw_g_ne (by omega), ← h17w, pw_g_ne (by omega), ← h14w, pw_g_ne (by omega), ← h11w, pw_g_ne (by omega), ← h10w, pw_g_ne (by omega)]
                have b8 : pw_g h23 125 8 = pw_g h8 125 8 := by rw [← h23w, pw_g_ne (by omega), ← h20w, pw_g_ne (by omega), ← h17w, pw_g_ne (by omega), ← h14w, pw_g_ne (by omega), ← h11w, pw_g_ne (by omega), ← h10w, pw_g_ne (by omega)]
                have b9 : pw_g h23 125 32 = pw_g h10 125 32 := by rw [← h23w, pw_g_ne (by omega), ← h20w, pw_g_ne (by omega), ← h17w, pw_g_ne (by omega), ← h14w, pw_g_ne (by omega), ← h11w, pw_g_ne (by omega)]
                have bc : pw_g h10 125 32 = 0 := by rw [← h10w]; exact pw_g_eq (c := 125) (k := 32) h8I rfl rfl (by omega) (by omega)
                have hl25 : ∀ j : Nat, pw_g h23 127 j = pw_g h8 127 j := fun j => ((((((by rw [← h23w]; exact pw_g_ne (by omega) : pw_g h23 127 j = pw_g h20 127 j)).trans (by rw [← h20w]; exact pw_g_ne (by omega) : pw_g h20 127 j = pw_g h17 127 j)).trans (by rw [← h17w]; exact pw_g_ne (by omega) : pw_g h17 127 j = pw_g h14 127 j)).trans (by rw [← h14w]; exact pw_g_ne (by omega) : pw_g h14 127 j = pw_g h11 127 j)).trans (by rw [← h11w]; exact pw_g_ne (by omega) : pw_g h11 127 j = pw_g h10 127 j)).trans (by rw [← h10w]; exact pw_g_ne (by omega) : pw_g h10 127 j = pw_g h8 127 j)
                have bA : pw_A n h23 := ⟨hA0.1, by rw [hl25]; exact hA0.2.1, by omega, by omega, by omega, by omega⟩
                have bV : pw_NV n h23 := fun j hj hq => by rw [← h23w, pw_gm_ne (by omega), ← h20w, pw_gm_ne (by omega), ← h17w, pw_gm_ne (by omega), ← h14w, pw_gm_ne (by omega), ← h11w, pw_gm_ne (by omega), ← h10w, pw_gm_ne (by omega)]; exact hV0 j hj (by rw [← hl25]; exact hq)
                have bl0 : pw_g h23 161 0 = -1 := by rw [← h23w, pw_g_ne (by decide), ← h20w, pw_g_ne (by decide), ← h17w, pw_g_ne (by decide), ← h14w]; exact pw_g_eqA h11I rfl (by decide) (by decide) (by decide)
                have bl1 : pw_g h23 161 1 = -1 := by rw [← h23w, pw_g_ne (by decide), ← h20w, pw_g_ne (by decide), ← h17w]; exact pw_g_eqA h14I rfl (by decide) (by decide) (by decide)
                have bl2 : pw_g h23 161 2 = -1 := by rw [← h23w, pw_g_ne (by decide), ← h20w]; exact pw_g_eqA h17I rfl (by decide) (by decide) (by decide)
                have bl3 : pw_g h23 161 3 = -1 := by rw [← h23w]; exact pw_g_eqA h20I rfl (by decide) (by decide) (by decide)
                have bL : pw_Lw h23 := ⟨Or.inl (by omega), by omega, by omega, by omega⟩
                have hl26 : ∀ j : Nat, pw_g h23 145 j = pw_g h 145 j := fun j => ((((((((by rw [← h23w]; exact pw_g_ne (by omega) : pw_g h23 145 j = pw_g h20 145 j)).trans (by rw [← h20w]; exact pw_g_ne (by omega) : pw_g h20 145 j = pw_g h17 145 j)).trans (by rw [← h17w]; exact pw_g_ne (by omega) : pw_g h17 145 j = pw_g h14 145 j)).trans (by rw [← h14w]; exact pw_g_ne (by omega) : pw_g h14 145 j = pw_g h11 145 j)).trans (by rw [← h11w]; exact pw_g_ne (by omega) : pw_g h11 145 j = pw_g h10 145 j)).trans (by rw [← h10w]; exact pw_g_ne (by omega) : pw_g h10 145 j = pw_g h8 145 j)).trans (pw_Eg (c := 145) h1I h8E rfl rfl j : pw_g h8 145 j = pw_g h1 145 j)).trans (by rw [← h1w]; exact pw_g_ne (by omega) : pw_g h1 145 j = pw_g h 145 j)
                have hl27 : ∀ j : Nat, pw_g h23 146 j = pw_g h 146 j := fun j => ((((((((by rw [← h23w]; exact pw_g_ne (by omega) : pw_g h23 146 j = pw_g h20 146 j)).trans (by rw [← h20w]; exact pw_g_ne (by omega) : pw_g h20 146 j = pw_g h17 146 j)).trans (by rw [← h17w]; exact pw_g_ne (by omega) : pw_g h17 146 j = pw_g h14 146 j)).trans (by rw [← h14w]; exact pw_g_ne (by omega) : pw_g h14 146 j = pw_g h11 146 j)).trans (by rw [← h11w]; exact pw_g_ne (by omega) : pw_g h11 146 j = pw_g h10 146 j)).trans (by rw [← h10w]; exact pw_g_ne (by omega) : pw_g h10 146 j = pw_g h8 146 j)).trans (pw_Eg (c := 146) h1I h8E rfl rfl j : pw_g h8 146 j = pw_g h1 146 j)).trans (by rw [← h1w]; exact pw_g_ne (by omega) : pw_g h1 146 j = pw_g h 146 j)
                have hl28 : ∀ j : Nat, pw_g h23 147 j = pw_g h 147 j := fun j => ((((((((by rw [← h23w]; exact pw_g_ne (by omega) : pw_g h23 147 j = pw_g h20 147 j)).trans (by rw [← h20w]; exact pw_g_ne (by omega) : pw_g h20 147 j = pw_g h17 147 j)).trans (by rw [← h17w]; exact pw_g_ne (by omega) : pw_g h17 147 j = pw_g h14 147 j)).trans (by rw [← h14w]; exact pw_g_ne (by omega) : pw_g h14 147 j = pw_g h11 147 j)).trans (by rw [← h11w]; exact pw_g_ne (by omega) : pw_g h11 147 j = pw_g h10 147 j)).trans (by rw [← h10w]; exact pw_g_ne (by omega) : pw_g h10 147 j = pw_g h8 147 j)).trans (pw_Eg (c := 147) h1I h8E rfl rfl j : pw_g h8 147 j = pw_g h1 147 j)).trans (by rw [← h1w]; exact pw_g_ne (by omega) : pw_g h1 147 j = pw_g h 147 j)
                have hl29 : ∀ j : Nat, pw_g h23 157 j = pw_g h 157 j := fun j => ((((((((by rw [← h23w]; exact pw_g_ne (by omega) : pw_g h23 157 j = pw_g h20 157 j)).trans (by rw [← h20w]; exact pw_g_ne (by omega) : pw_g h20 157 j = pw_g h17 157 j)).trans (by rw [← h17w]; exact pw_g_ne (by omega) : pw_g h17 157 j = pw_g h14 157 j)).trans (by rw [← h14w]; exact pw_g_ne (by omega) : pw_g h14 157 j = pw_g h11 157 j)).trans (by rw [← h11w]; exact pw_g_ne (by omega) : pw_g h11 157 j = pw_g h10 157 j)).trans (by rw [← h10w]; exact pw_g_ne (by omega) : pw_g h10 157 j = pw_g h8 157 j)).trans (pw_Eg (c := 157) h1I h8E rfl rfl j : pw_g h8 157 j = pw_g h1 157 j)).trans (by rw [← h1w]; exact pw_g_ne (by omega) : pw_g h1 157 j = pw_g h 157 j)
                have bO : pw_O h h23 := ⟨fun j _ => hl26 j, fun j _ => ⟨hl27 j, hl28 j⟩, hl29⟩
                have L53 : ∀ (n53 : Nat)  (gh53 : pm_H), pw_I gh53 → pw_E [125, 127, 128, 129, 146, 147, 157, 158, 159, 160, 161, 1002] h gh53 → pw_A n gh53 → pw_g gh53 125 32 ≤ pw_g gh53 125 7 → (pw_g gh53 125 8 = 0 → pw_Lw gh53) → pw_O h gh53 → pw_NV n gh53 → ((n : Int) - pw_g gh53 125 7 + 1 - min (pw_g gh53 125 8) 1).toNat = n53 → pw X d gh53 277 53 [some (.ref 141), some (pw_i ix), some (pw_i ((((0 + 1) + 1) + 1) + 1))] [] (fun h' v => pw_I h' ∧ pw_E [125, 127, 128, 129, 146, 147, 157, 158, 159, 160, 161, 1002] h h' ∧ (pw_K h') ∧ (∃ a : Int, v = .inl (some (pw_i a)) ∧ (-2147483648) ≤ a ∧ a ≤ 2147483647)) := by
                  intro n53
                  induction n53 using Nat.strongRecOn with
                  | ind n53 ih53 =>
                    intro  gh53 I53 E53 hx53_0 hx53_1 hx53_2 hx53_3 hx53_4 hm53
                    refine pw_ld E (pc' := 54) (st' := [.ref 141]) rfl (fun _ => rfl) ?_
                    refine pw_getI I53 E (c := 125) (k := 8) (pc' := 57) rfl rfl rfl rfl rfl rfl (fun hf30a hf30b hf30c hf30d => ?_)
                    refine pw_if E (pc' := 79) rfl (by decide) (by omega) (by omega) ?_ ?_
                    · intro hc31
                      have hc31 : pw_g gh53 125 8 ≠ (0 : Int) := hc31
                      have hA53 : pw_g gh53 125 7 ≤ n ∧ 0 ≤ pw_g gh53 125 8 ∧ 0 ≤ pw_g gh53 125 7 ∧ 0 ≤ pw_g gh53 125 32 := hx53_0.2.2
                      have hn1 : n ≤ 1000 := hx53_0.1
                      refine pw_ld E (pc' := 80) (st' := [.ref 141]) rfl (fun _ => rfl) ?_
                      refine pw_getI I53 E (c := 125) (k := 8) (pc' := 83) rfl rfl rfl rfl rfl rfl (fun hf32a hf32b hf32c hf32d => ?_)
                      refine pw_if E (pc' := 91) rfl (by decide) (by omega) (by omega) ?_ ?_
                      · intro hc33
                        have hc33 : pw_g gh53 125 8 ≤ (0 : Int) := hc33
                        refine pw_ld E (pc' := 92) (st' := [.ref 141]) rfl (fun _ => rfl) ?_
                        refine pw_ld E (pc' := 93) (st' := [pw_i 5, .ref 141]) rfl (fun _ => rfl) ?_
                        refine pw_ld E (pc' := 94) (st' := [pw_i ix, pw_i 5, .ref 141]) rfl (fun _ => rfl) ?_
                        refine pw_add E (pc' := 95) rfl rfl ?_
                        obtain ⟨f34l, f34h, -⟩ := pw_obj (c := 125) I53 rfl
                        refine pw_call (m' := 258) (As := [.ref 141, pw_i (5 + ix)]) (rest := []) (ls'' := [some (.ref 141), some (pw_i (5 + ix)), none]) (by omega) E rfl (fun _ => pw_iV rfl rfl rfl rfl (pw_cellI f34h rfl)) (rfl : pm_ent 258 = some (2, 3, 12, 4, pmc_258)) rfl rfl (cm_258 (by omega) I53 (5 + ix) (by omega) (by omega) (by omega) (by omega)) ?_
                        rintro h35 v36 ⟨h35I, h35E, hqkeep, rfl⟩
                        refine ⟨_, rfl, ?_⟩
                        have h35F := E53.tr (h35E.wk (W' := [125, 127, 128, 129, 146, 147, 157, 158, 159, 160, 161, 1002]) (by first | rfl | simp))
                        show pw X d h35 277 98 [some (.ref 141), some (pw_i ix), some (pw_i ((((0 + 1) + 1) + 1) + 1))] [] _
                        refine pw_ld E (pc' := 99) (st' := [.ref 141]) rfl (fun _ => rfl) ?_
                        refine pw_getR (b := 173) h35I E (c := 125) (k := 46) (pc' := 102) rfl rfl rfl rfl rfl rfl rfl ?_
                        refine pw_ld E (pc' := 103) (st' := [pw_i ix, .ref 173]) rfl (fun _ => rfl) ?_
                        refine pw_ld E (pc' := 104) (st' := [.ref 141, pw_i ix, .ref 173]) rfl (fun _ => rfl) ?_
                        refine pw_getR (b := 177) h35I E (c := 125) (k := 50) (pc' := 107) rfl rfl rfl rfl rfl rfl rfl ?_
                        refine pw_ld E (pc' := 108) (st' := [pw_i 0, .ref 177, pw_i ix, .ref 173]) rfl (fun _ => rfl) ?_
                        refine pw_ald h35I E (c := 161) (pc' := 109) rfl rfl rfl (by decide) rfl (by decide) (by omega) (by omega) rfl (fun hf37a hf37b hf37c hf37d => ?_)
                        refine pw_ast0 h35I E (c := 157) (pc' := 110) rfl rfl rfl (by decide) rfl (by decide) (by omega) (by omega) rfl (by omega) (by omega) (by omega) (by omega) rfl ?_
                        intro h38I h38E
                        generalize h38w : pw_w h35 157 (ix.toNat) (pw_i (pw_g h35 161 (Int.toNat 0))) = h38 at h38I h38E ⊢
                        have h38F := h35F.tr (h38E.wk (W' := [125, 127, 128, 129, 146, 147, 157, 158, 159, 160, 161, 1002]) (by first | rfl | simp))
                        have hl39 : ∀ j : Nat, pw_g h38 161 j = pw_g gh53 161 j := fun j => ((by rw [← h38w]; exact pw_g_ne (by omega) : pw_g h38 161 j = pw_g h35 161 j)).trans (pw_Eg (c := 161) I53 h35E rfl rfl j : pw_g h35 161 j = pw_g gh53 161 j)
                        have hr40 : pw_g h38 161 (Int.toNat 1) ≤ 11 := by rw [hl39]; exact (hx53_2 (by omega)).2.1
                        refine pw_ld E (pc' := 111) (st' := [.ref 141]) rfl (fun _ => rfl) ?_
                        refine pw_getR (b := 174) h38I E (c := 125) (k := 47) (pc' := 114) rfl rfl rfl rfl rfl rfl rfl ?_
                        refine pw_ld E (pc' := 115) (st' := [pw_i ix, .ref 174]) rfl (fun _ => rfl) ?_
                        refine pw_ld E (pc' := 116) (st' := [.ref 141, pw_i ix, .ref 174]) rfl (fun _ => rfl) ?_
                        refine pw_getR (b := 177) h38I E (c := 125) (k := 50) (pc' := 119) rfl rfl rfl rfl rfl rfl rfl ?_
                        refine pw_ld E (pc' := 120) (st' := [pw_i 1, .ref 177, pw_i ix, .ref 174]) rfl (fun _ => rfl) ?_
                        refine pw_ald h38I E (c := 161) (pc' := 121) rfl rfl rfl (by decide) rfl (by decide) (by omega) (by omega) rfl (fun hf41a hf41b hf41c hf41d => ?_)
                        refine pw_if E (pc' := 128) rfl (by decide) (by omega) (by omega) ?_ ?_
                        · intro hc42
                          have hc42 : (0 : Int) ≤ pw_g h38 161 (Int.toNat 1) := hc42
                          refine pw_ld E (pc' := 129) (st' := [.ref 141, pw_i ix, .ref 174]) rfl (fun _ => rfl) ?_
                          refine pw_getR (b := 177) h38I E (c := 125) (k := 50) (pc' := 132) rfl rfl rfl rfl rfl rfl rfl ?_
                          refine pw_ld E (pc' := 133) (st' := [pw_i 1, .ref 177, pw_i ix, .ref 174]) rfl (fun _ => rfl) ?_
                          refine pw_ald h38I E (c := 161) (pc' := 134) rfl rfl rfl (by decide) rfl (by decide) (by omega) (by omega) rfl (fun hf43a hf43b hf43c hf43d => ?_)
                          refine pw_ast0 h38I E (c := 158) (pc' := 135) rfl rfl rfl (by decide) rfl (by decide) (by omega) (by omega) rfl (by omega) (by omega) (by omega) (by omega) rfl ?_
                          intro h44I h44E
                          generalize h44w : pw_w h38 158 (ix.toNat) (pw_i (pw_g h38 161 (Int.toNat 1))) = h44 at h44I h44E ⊢
                          have h44F := h38F.tr (h44E.wk (W' := [125, 127, 128, 129, 146, 147, 157, 158, 159, 160, 161, 1002]) (by first | rfl | simp))
                          have hl45 : ∀ j : Nat, pw_g h44 161 j = pw_g gh53 161 j := fun j => (((by rw [← h44w]; exact pw_g_ne (by omega) : pw_g h44 161 j = pw_g h38 161 j)).trans (by rw [← h38w]; exact pw_g_ne (by omega) : pw_g h38 161 j = pw_g h35 161 j)).trans (pw_Eg (c := 161) I53 h35E rfl rfl j : pw_g h35 161 j = pw_g gh53 161 j)
                          have hr46 : pw_g h44 161 (Int.toNat 2) ≤ 11 := by rw [hl45]; exact (hx53_2 (by omega)).2.2.1
                          refine pw_ld E (pc' := 136) (st' := [.ref 141]) rfl (fun _ => rfl) ?_
                          refine pw_getR (b := 175) h44I E (c := 125) (k := 48) (pc' := 139) rfl rfl rfl rfl rfl rfl rfl ?_
                          refine pw_ld E (pc' := 140) (st' := [pw_i ix, .ref 175]) rfl (fun _ => rfl) ?_
                          refine pw_ld E (pc' := 141) (st' := [.ref 141, pw_i ix, .ref 175]) rfl (fun _ => rfl) ?_
                          refine pw_getR (b := 177) h44I E (c := 125) (k := 50) (pc' := 144) rfl rfl rfl rfl rfl rfl rfl ?_
                          refine pw_ld E (pc' := 145) (st' := [pw_i 2, .ref 177, pw_i ix, .ref 175]) rfl (fun _ => rfl) ?_
                          refine pw_ald h44I E (c := 161) (pc' := 146) rfl rfl rfl (by decide) rfl (by decide) (by omega) (by omega) rfl (fun hf47a hf47b hf47c hf47d => ?_)
                          refine pw_if E (pc' := 154) rfl (by decide) (by omega) (by omega) ?_ ?_
                          · intro hc48
                            have hc48 : (0 : Int) ≤ pw_g h44 161 (Int.toNat 2) := hc48
                            refine pw_ld E (pc' := 155) (st' := [.ref 141, pw_i ix, .ref 175]) rfl (fun _ => rfl) ?_
                            refine pw_getR (b := 177) h44I E (c := 125) (k := 50) (pc' := 158) rfl rfl rfl rfl rfl rfl rfl ?_
                            refine pw_ld E (pc' := 159) (st' := [pw_i 2, .ref 177, pw_i ix, .ref 175]) rfl (fun _ => rfl) ?_
                            refine pw_ald h44I E (c := 161) (pc' := 160) rfl rfl rfl (by decide) rfl (by decide) (by omega) (by omega) rfl (fun hf49a hf49b hf49c hf49d => ?_)
                            refine pw_ast0 h44I E (c := 159) (pc' := 161) rfl rfl rfl (by decide) rfl (by decide) (by omega) (by omega) rfl (by omega) (by omega) (by omega) (by omega) rfl ?_
                            intro h50I h50E
                            generalize h50w : pw_w h44 159 (ix.toNat) (pw_i (pw_g h44 161 (Int.toNat 2))) = h50 at h50I h50E ⊢
                            have h50F := h44F.tr (h50E.wk (W' := [125, 127, 128, 129, 146, 147, 157, 158, 159, 160, 161, 1002]) (by first | rfl | simp))
                            have hl51 : ∀ j : Nat, pw_g h50 161 j = pw_g gh53 161 j := fun j => ((((by rw [← h50w]; exact pw_g_ne (by omega) : pw_g h50 161 j = pw_g h44 161 j)).trans (by rw [← h44w]; exact pw_g_ne (by omega) : pw_g h44 161 j = pw_g h38 161 j)).trans (by rw [← h38w]; exact pw_g_ne (by omega) : pw_g h38 161 j = pw_g h35 161 j)).trans (pw_Eg (c := 161) I53 h35E rfl rfl j : pw_g h35 161 j = pw_g gh53 161 j)
                            have hr52 : pw_g h50 161 (Int.toNat 3) ≤ 10 := by rw [hl51]; exact (hx53_2 (by omega)).2.2.2
                            refine pw_ld E (pc' := 162) (st' := [.ref 141]) rfl (fun _ => rfl) ?_
                            refine pw_getR (b := 176) h50I E (c := 125) (k := 49) (pc' := 165) rfl rfl rfl rfl rfl rfl rfl ?_
                            refine pw_ld E (pc' := 166) (st' := [pw_i ix, .ref 176]) rfl (fun _ => rfl) ?_
                            refine pw_ld E (pc' := 167) (st' := [.ref 141, pw_i ix, .ref 176]) rfl (fun _ => rfl) ?_
                            refine pw_getR (b := 177) h50I E (c := 125) (k := 50) (pc' := 170) rfl rfl rfl rfl rfl rfl rfl ?_
                            refine pw_ld E (pc' := 171) (st' := [pw_i 3, .ref 177, pw_i ix, .ref 176]) rfl (fun _ => rfl) ?_
                            refine pw_ald h50I E (c := 161) (pc' := 172) rfl rfl rfl (by decide) rfl (by decide) (by omega) (by omega) rfl (fun hf53a hf53b hf53c hf53d => ?_)
                            refine pw_ast0 h50I E (c := 160) (pc' := 173) rfl rfl rfl (by decide) rfl (by decide) (by omega) (by omega) rfl (by omega) (by omega) (by omega) (by omega) rfl ?_
                            intro h54I h54E
                            generalize h54w : pw_w h50 160 (ix.toNat) (pw_i (pw_g h50 161 (Int.toNat 3))) = h54 at h54I h54E ⊢
                            have h54F := h50F.tr (h54E.wk (W' := [125, 127, 128, 129, 146, 147, 157, 158, 159, 160, 161, 1002]) (by first | rfl | simp))
                            refine pw_ld E (pc' := 174) (st' := [pw_i 0]) rfl (fun _ => rfl) ?_
                            refine pw_iret E rfl ?_
                            have hl55 : ∀ j : Nat, pw_g h35 161 j = pw_g gh53 161 j := fun j => (pw_Eg (c := 161) I53 h35E rfl rfl j : pw_g h35 161 j = pw_g gh53 161 j)
                            have hl56 : ∀ j : Nat, pw_g h54 145 j = pw_g gh53 145 j := fun j => (((((by rw [← h54w]; exact pw_g_ne (by omega) : pw_g h54 145 j = pw_g h50 145 j)).trans (by rw [← h50w]; exact pw_g_ne (by omega) : pw_g h50 145 j = pw_g h44 145 j)).trans (by rw [← h44w]; exact pw_g_ne (by omega) : pw_g h44 145 j = pw_g h38 145 j)).trans (by rw [← h38w]; exact pw_g_ne (by omega) : pw_g h38 145 j = pw_g h35 145 j)).trans (pw_Eg (c := 145) I53 h35E rfl rfl j : pw_g h35 145 j = pw_g gh53 145 j)
                            have hl57 : ∀ j : Nat, pw_g h54 146 j = pw_g h35 146 j := fun j => ((((by rw [← h54w]; exact pw_g_ne (by omega) : pw_g h54 146 j = pw_g h50 146 j)).trans (by rw [← h50w]; exact pw_g_ne (by omega) : pw_g h50 146 j = pw_g h44 146 j)).trans (by rw [← h44w]; exact pw_g_ne (by omega) : pw_g h44 146 j = pw_g h38 146 j)).trans (by rw [← h38w]; exact pw_g_ne (by omega) : pw_g h38 146 j = pw_g h35 146 j)
                            have hl58 : ∀ j : Nat, pw_g h54 147 j = pw_g h35 147 j := fun j => ((((by rw [← h54w]; exact pw_g_ne (by omega) : pw_g h54 147 j = pw_g h50 147 j)).trans (by rw [← h50w]; exact pw_g_ne (by omega) : pw_g h50 147 j = pw_g h44 147 j)).trans (by rw [← h44w]; exact pw_g_ne (by omega) : pw_g h44 147 j = pw_g h38 147 j)).trans (by rw [← h38w]; exact pw_g_ne (by omega) : pw_g h38 147 j = pw_g h35 147 j)
                            have hl59 : ∀ j : Nat, pw_g h54 157 j = pw_g h38 157 j := fun j => (((by rw [← h54w]; exact pw_g_ne (by omega) : pw_g h54 157 j = pw_g h50 157 j)).trans (by rw [← h50w]; exact pw_g_ne (by omega) : pw_g h50 157 j = pw_g h44 157 j)).trans (by rw [← h44w]; exact pw_g_ne (by omega) : pw_g h44 157 j = pw_g h38 157 j)
                            have hl60 : ∀ j : Nat, pw_g h35 157 j = pw_g gh53 157 j := fun j => (pw_Eg (c := 157) I53 h35E rfl rfl j : pw_g h35 157 j = pw_g gh53 157 j)
                            have hw0 : pw_g h38 157 (ix.toNat) = pw_g h35 161 (Int.toNat 0) := by rw [← h38w]; exact pw_g_eqA h35I rfl (by omega) (by omega) (by omega)
                            have hw1 : ∀ j : Nat, j ≠ ix.toNat → pw_g h38 157 j = pw_g h35 157 j := fun j hj => by rw [← h38w]; exact pw_g_ne (fun q => hj q.2.symm)
                            have hkc : pw_KC gh53 h54 (5 + ix) (pw_g gh53 125 32) := ⟨fun j hj => ⟨(hl57 _).trans (hqkeep.1 j hj).1, (hl58 _).trans (hqkeep.1 j hj).2⟩, fun j hj => ⟨(hl57 _).trans (hqkeep.2 j hj).1, (hl58 _).trans (hqkeep.2 j hj).2⟩⟩
                            exact ⟨h54I, h54F, (hp0.of hx53_3.1 hx53_3.2.1 hx53_3.2.2).wri (L := pw_g gh53 161 0) (by omega) (by omega) (hx53_2 (by omega)).1 (by omega) ((hl59 _).trans (hw0.trans (hl55 0))) (fun j hj => (hl59 j).trans ((hw1 j hj).trans (hl60 j))) hkc hl56, ⟨_, rfl, by omega, by omega⟩⟩
                          · intro hc61
                            have hc61 : ¬ ((0 : Int) ≤ pw_g h44 161 (Int.toNat 2)) := hc61
                            refine pw_bip E (pc' := 151) rfl rfl (by decide) ?_
                            refine pw_goto E (pc' := 160) rfl (by decide) ?_
                            refine pw_ast0 h44I E (c := 159) (pc' := 161) rfl rfl rfl (by decide) rfl (by decide) (by omega) (by omega) rfl (by omega) (by omega) (by omega) (by omega) rfl ?_
                            intro h62I h62E
                            generalize h62w : pw_w h44 159 (ix.toNat) (pw_i 11) = h62 at h62I h62E ⊢
                            have h62F := h44F.tr (h62E.wk (W' := [125, 127, 128, 129, 146, 147, 157, 158, 159, 160, 161, 1002]) (by first | rfl | simp))
                            have hl63 : ∀ j : Nat, pw_g h62 161 j = pw_g gh53 161 j := fun j => ((((by rw [← h62w]; exact pw_g_ne (by omega) : pw_g h62 161 j = pw_g h44 161 j)).trans (by rw [← h44w]; exact pw_g_ne (by omega) : pw_g h44 161 j = pw_g h38 161 j)).trans (by rw [← h38w]; exact pw_g_ne (by omega) : pw_g h38 161 j = pw_g h35 161 j)).trans (pw_Eg (c := 161) I53 h35E rfl rfl j : pw_g h35 161 j = pw_g gh53 161 j)
                            have hr64 : pw_g h62 161 (Int.toNat 3) ≤ 10 := by rw [hl63]; exact (hx53_2 (by omega)).2.2.2
                            refine pw_ld E (pc' := 162) (st' := [.ref 141]) rfl (fun _ => rfl) ?_
                            refine pw_getR (b := 176) h62I E (c := 125) (k := 49) (pc' := 165) rfl rfl rfl rfl rfl rfl rfl ?_
                            refine pw_ld E (pc' := 166) (st' := [pw_i ix, .ref 176]) rfl (fun _ => rfl) ?_
                            refine pw_ld E (pc' := 167) (st' := [.ref 141, pw_i ix, .ref 176]) rfl (fun _ => rfl) ?_
                            refine pw_getR (b := 177) h62I E (c := 125) (k := 50) (pc' := 170) rfl rfl rfl rfl rfl rfl rfl ?_
                            refine pw_ld E (pc' := 171) (st' := [pw_i 3, .ref 177, pw_i ix, .ref 176]) rfl (fun _ => rfl) ?_
                            refine pw_ald h62I E (c := 161) (pc' := 172) rfl rfl rfl (by decide) rfl (by decide) (by omega) (by omega) rfl (fun hf65a hf65b hf65c hf65d => ?_)
                            refine pw_ast0 h62I E (c := 160) (pc' := 173) rfl rfl rfl (by decide) rfl (by decide) (by omega) (by omega) rfl (by omega) (by omega) (by omega) (by omega) rfl ?_
                            intro h66I h66E
                            generalize h66w : pw_w h62 160 (ix.toNat) (pw_i (pw_g h62 161 (Int.toNat 3))) = h66 at h66I h66E ⊢
                            have h66F := h62F.tr (h66E.wk (W' := [125, 127, 128, 129, 146, 147, 157, 158, 159, 160, 161, 1002]) (by first | rfl | simp))
                            refine pw_ld E (pc' := 174) (st' := [pw_i 0]) rfl (fun _ => rfl) ?_
                            refine pw_iret E rfl ?_
                            have hl67 : ∀ j : Nat, pw_g h35 161 j = pw_g gh53 161 j := fun j => (pw_Eg (c := 161) I53 h35E rfl rfl j : pw_g h35 161 j = pw_g gh53 161 j)
                            have hl68 : ∀ j : Nat, pw_g h66 145 j = pw_g gh53 145 j := fun j => (((((by rw [← h66w]; exact pw_g_ne (by omega) : pw_g h66 145 j = pw_g h62 145 j)).trans (by rw [← h62w]; exact pw_g_ne (by omega) : pw_g h62 145 j = pw_g h44 145 j)).trans (by rw [← h44w]; exact pw_g_ne (by omega) : pw_g h44 145 j = pw_g h38 145 j)).trans (by rw [← h38w]; exact pw_g_ne (by omega) : pw_g h38 145 j = pw_g h35 145 j)).trans (pw_Eg (c := 145) I53 h35E rfl rfl j : pw_g h35 145 j = pw_g gh53 145 j)
                            have hl69 : ∀ j : Nat, pw_g h66 146 j = pw_g h35 146 j := fun j => ((((by rw [← h66w]; exact pw_g_ne (by omega) : pw_g h66 146 j = pw_g h62 146 j)).trans (by rw [← h62w]; exact pw_g_ne (by omega) : pw_g h62 146 j = pw_g h44 146 j)).trans (by rw [← h44w]; exact pw_g_ne (by omega) : pw_g h44 146 j = pw_g h38 146 j)).trans (by rw [← h38w]; exact pw_g_ne (by omega) : pw_g h38 146 j = pw_g h35 146 j)
                            have hl70 : ∀ j : Nat, pw_g h66 147 j = pw_g h35 147 j := fun j => ((((by rw [← h66w]; exact pw_g_ne (by omega) : pw_g h66 147 j = pw_g h62 147 j)).trans (by rw [← h62w]; exact pw_g_ne (by omega) : pw_g h62 147 j = pw_g h44 147 j)).trans (by rw [← h44w]; exact pw_g_ne (by omega) : pw_g h44 147 j = pw_g h38 147 j)).trans (by rw [← h38w]; exact pw_g_ne (by omega) : pw_g h38 147 j = pw_g h35 147 j)
                            have hl71 : ∀ j : Nat, pw_g h66 157 j = pw_g h38 157 j := fun j => (((by rw [← h66w]; exact pw_g_ne (by omega) : pw_g h66 157 j = pw_g h62 157 j)).trans (by rw [← h62w]; exact pw_g_ne (by omega) : pw_g h62 157 j = pw_g h44 157 j)).trans (by rw [← h44w]; exact pw_g_ne (by omega) : pw_g h44 157 j = pw_g h38 157 j)
                            have hl72 : ∀ j : Nat, pw_g h35 157 j = pw_g gh53 157 j := fun j => (pw_Eg (c := 157) I53 h35E rfl rfl j : pw_g h35 157 j = pw_g gh53 157 j)
                            have hw0 : pw_g h38 157 (ix.toNat) = pw_g h35 161 (Int.toNat 0) := by rw [← h38w]; exact pw_g_eqA h35I rfl (by omega) (by omega) (by omega)
                            have hw1 : ∀ j : Nat, j ≠ ix.toNat → pw_g h38 157 j = pw_g h35 157 j := fun j hj => by rw [← h38w]; exact pw_g_ne (fun q => hj q.2.symm)
                            have hkc : pw_KC gh53 h66 (5 + ix) (pw_g gh53 125 32) := ⟨fun j hj => ⟨(hl69 _).trans (hqkeep.1 j hj).1, (hl70 _).trans (hqkeep.1 j hj).2⟩, fun j hj => ⟨(hl69 _).trans (hqkeep.2 j hj).1, (hl70 _).trans (hqkeep.2 j hj).2⟩⟩
                            exact ⟨h66I, h66F, (hp0.of hx53_3.1 hx53_3.2.1 hx53_3.2.2).wri (L := pw_g gh53 161 0) (by omega) (by omega) (hx53_2 (by omega)).1 (by omega) ((hl71 _).trans (hw0.trans (hl67 0))) (fun j hj => (hl71 j).trans ((hw1 j hj).trans (hl72 j))) hkc hl68, ⟨_, rfl, by omega, by omega⟩⟩
                        · intro hc73
                          have hc73 : ¬ ((0 : Int) ≤ pw_g h38 161 (Int.toNat 1)) := hc73
                          refine pw_ld E (pc' := 125) (st' := [pw_i 0, pw_i ix, .ref 174]) rfl (fun _ => rfl) ?_
                          refine pw_goto E (pc' := 134) rfl (by decide) ?_
                          refine pw_ast0 h38I E (c := 158) (pc' := 135) rfl rfl rfl (by decide) rfl (by decide) (by omega) (by omega) rfl (by omega) (by omega) (by omega) (by omega) rfl ?_
                          intro h74I h74E
                          generalize h74w : pw_w h38 158 (ix.toNat) (pw_i 0) = h74 at h74I h74E ⊢
                          have h74F := h38F.tr (h74E.wk (W' := [125, 127, 128, 129, 146, 147, 157, 158, 159, 160, 161, 1002]) (by first | rfl | simp))
                          have hl75 : ∀ j : Nat, pw_g h74 161 j = pw_g gh53 161 j := fun j => (((by rw [← h74w]; exact pw_g_ne (by omega) : pw_g h74 161 j = pw_g h38 161 j)).trans (by rw [← h38w]; exact pw_g_ne (by omega) : pw_g h38 161 j = pw_g h35 161 j)).trans (pw_Eg (c := 161) I53 h35E rfl rfl j : pw_g h35 161 j = pw_g gh53 161 j)
                          have hr76 : pw_g h74 161 (Int.toNat 2) ≤ 11 := by rw [hl75]; exact (hx53_2 (by omega)).2.2.1
                          refine pw_ld E (pc' := 136) (st' := [.ref 141]) rfl (fun _ => rfl) ?_
                          refine pw_getR (b := 175) h74I E (c := 125) (k := 48) (pc' := 139) rfl rfl rfl rfl rfl rfl rfl ?_
                          refine pw_ld E (pc' := 140) (st' := [pw_i ix, .ref 175]) rfl (fun _ => rfl) ?_
                          refine pw_ld E (pc' := 141) (st' := [.ref 141, pw_i ix, .ref 175]) rfl (fun _ => rfl) ?_
                          refine pw_getR (b := 177) h74I E (c := 125) (k := 50) (pc' := 144) rfl rfl rfl rfl rfl rfl rfl ?_
                          refine pw_ld E (pc' := 145) (st' := [pw_i 2, .ref 177, pw_i ix, .ref 175]) rfl (fun _ => rfl) ?_
                          refine pw_ald h74I E (c := 161) (pc' := 146) rfl rfl rfl (by decide) rfl (by decide) (by omega) (by omega) rfl (fun hf77a hf77b hf77c hf77d => ?_)
                          refine pw_if E (pc' := 154) rfl (by decide) (by omega) (by omega) ?_ ?_
                          · intro hc78
                            have hc78 : (0 : Int) ≤ pw_g h74 161 (Int.toNat 2) := hc78
                            refine pw_ld E (pc' := 155) (st' := [.ref 141, pw_i ix, .ref 175]) rfl (fun _ => rfl) ?_
                            refine pw_getR (b := 177) h74I E (c := 125) (k := 50) (pc' := 158) rfl rfl rfl rfl rfl rfl rfl ?_
                            refine pw_ld E (pc' := 159) (st' := [pw_i 2, .ref 177, pw_i ix, .ref 175]) rfl (fun _ => rfl) ?_
                            refine pw_ald h74I E (c := 161) (pc' := 160) rfl rfl rfl (by decide) rfl (by decide) (by omega) (by omega) rfl (fun hf79a hf79b hf79c hf79d => ?_)
                            refine pw_ast0 h74I E (c := 159) (pc' := 161) rfl rfl rfl (by decide) rfl (by decide) (by omega) (by omega) rfl (by omega) (by omega) (by omega) (by omega) rfl ?_
                            intro h80I h80E
                            generalize h80w : pw_w h74 159 (ix.toNat) (pw_i (pw_g h74 161 (Int.toNat 2))) = h80 at h80I h80E ⊢
                            have h80F := h74F.tr (h80E.wk (W' := [125, 127, 128, 129, 146, 147, 157, 158, 159, 160, 161, 1002]) (by first | rfl | simp))
                            have hl81 : ∀ j : Nat, pw_g h80 161 j = pw_g gh53 161 j := fun j => ((((by rw [← h80w]; exact pw_g_ne (by omega) : pw_g h80 161 j = pw_g h74 161 j)).trans (by rw [← h74w]; exact pw_g_ne (by omega) : pw_g h74 161 j = pw_g h38 161 j)).trans (by rw [← h38w]; exact pw_g_ne (by omega) : pw_g h38 161 j = pw_g h35 161 j)).trans (pw_Eg (c := 161) I53 h35E rfl rfl j : pw_g h35 161 j = pw_g gh53 161 j)
                            have hr82 : pw_g h80 161 (Int.toNat 3) ≤ 10 := by rw [hl81]; exact (hx53_2 (by omega)).2.2.2
                            refine pw_ld E (pc' := 162) (st' := [.ref 141]) rfl (fun _ => rfl) ?_
                            refine pw_getR (b := 176) h80I E (c := 125) (k := 49) (pc' := 165) rfl rfl rfl rfl rfl rfl rfl ?_
                            refine pw_ld E (pc' := 166) (st' := [pw_i ix, .ref 176]) rfl (fun _ => rfl) ?_
                            refine pw_ld E (pc' := 167) (st' := [.ref 141, pw_i ix, .ref 176]) rfl (fun _ => rfl) ?_
                            refine pw_getR (b := 177) h80I E (c := 125) (k := 50) (pc' := 170) rfl rfl rfl rfl rfl rfl rfl ?_
                            refine pw_ld E (pc' := 171) (st' := [pw_i 3, .ref 177, pw_i ix, .ref 176]) rfl (fun _ => rfl) ?_
                            refine pw_ald h80I E (c := 161) (pc' := 172) rfl rfl rfl (by decide) rfl (by decide) (by omega) (by omega) rfl (fun hf83a hf83b hf83c hf83d => ?_)
                            refine pw_ast0 h80I E (c := 160) (pc' := 173) rfl rfl rfl (by decide) rfl (by decide) (by omega) (by omega) rfl (by omega) (by omega) (by omega) (by omega) rfl ?_
                            intro h84I h84E
                            generalize h84w : pw_w h80 160 (ix.toNat) (pw_i (pw_g h80 161 (Int.toNat 3))) = h84 at h84I h84E ⊢
                            have h84F := h80F.tr (h84E.wk (W' := [125, 127, 128, 129, 146, 147, 157, 158, 159, 160, 161, 1002]) (by first | rfl | simp))
                            refine pw_ld E (pc' := 174) (st' := [pw_i 0]) rfl (fun _ => rfl) ?_
                            refine pw_iret E rfl ?_
                            have hl85 : ∀ j : Nat, pw_g h35 161 j = pw_g gh53 161 j := fun j => (pw_Eg (c := 161) I53 h35E rfl rfl j : pw_g h35 161 j = pw_g gh53 161 j)
                            have hl86 : ∀ j : Nat, pw_g h84 145 j = pw_g gh53 145 j := fun j => (((((by rw [← h84w]; exact pw_g_ne (by omega) : pw_g h84 145 j = pw_g h80 145 j)).trans (by rw [← h80w]; exact pw_g_ne (by omega) : pw_g h80 145 j = pw_g h74 145 j)).trans (by rw [← h74w]; exact pw_g_ne (by omega) : pw_g h74 145 j = pw_g h38 145 j)).trans (by rw [← h38w]; exact pw_g_ne (by omega) : pw_g h38 145 j = pw_g h35 145 j)).trans (pw_Eg (c := 145) I53 h35E rfl rfl j : pw_g h35 145 j = pw_g gh53 145 j)
                            have hl87 : ∀ j : Nat, pw_g h84 146 j = pw_g h35 146 j := fun j => ((((by rw [← h84w]; exact pw_g_ne (by omega) : pw_g h84 146 j = pw_g h80 146 j)).trans (by rw [← h80w]; exact pw_g_ne (by omega) : pw_g h80 146 j = pw_g h74 146 j)).trans (by rw [← h74w]; exact pw_g_ne (by omega) : pw_g h74 146 j = pw_g h38 146 j)).trans (by rw [← h38w]; exact pw_g_ne (by omega) : pw_g h38 146 j = pw_g h35 146 j)
                            have hl88 : ∀ j : Nat, pw_g h84 147 j = pw_g h35 147 j := fun j => ((((by rw [← h84w]; exact pw_g_ne (by omega) : pw_g h84 147 j = pw_g h80 147 j)).trans (by rw [← h80w]; exact pw_g_ne (by omega) : pw_g h80 147 j = pw_g h74 147 j)).trans (by rw [← h74w]; exact pw_g_ne (by omega) : pw_g h74 147 j = pw_g h38 147 j)).trans (by rw [← h38w]; exact pw_g_ne (by omega) : pw_g h38 147 j = pw_g h35 147 j)
                            have hl89 : ∀ j : Nat, pw_g h84 157 j = pw_g h38 157 j := fun j => (((by rw [← h84w]; exact pw_g_ne (by omega) : pw_g h84 157 j = pw_g h80 157 j)).trans (by rw [← h80w]; exact pw_g_ne (by omega) : pw_g h80 157 j = pw_g h74 157 j)).trans (by rw [← h74w]; exact pw_g_ne (by omega) : pw_g h74 157 j = pw_g h38 157 j)
                            have hl90 : ∀ j : Nat, pw_g h35 157 j = pw_g gh53 157 j := fun j => (pw_Eg (c := 157) I53 h35E rfl rfl j : pw_g h35 157 j = pw_g gh53 157 j)
                            have hw0 : pw_g h38 157 (ix.toNat) = pw_g h35 161 (Int.toNat 0) := by rw [← h38w]; exact pw_g_eqA h35I rfl (by omega) (by omega) (by omega)
                            have hw1 : ∀ j : Nat, j ≠ ix.toNat → pw_g h38 157 j = pw_g h35 157 j := fun j hj => by rw [← h38w]; exact pw_g_ne (fun q => hj q.2.symm)
                            have hkc : pw_KC gh53 h84 (5 + ix) (pw_g gh53 125 32) := ⟨fun j hj => ⟨(hl87 _).trans (hqkeep.1 j hj).1, (hl88 _).trans (hqkeep.1 j hj).2⟩, fun j hj => ⟨(hl87 _).trans (hqkeep.2 j hj).1, (hl88 _).trans (hqkeep.2 j hj).2⟩⟩
                            exact ⟨h84I, h84F, (hp0.of hx53_3.1 hx53_3.2.1 hx53_3.2.2).wri (L := pw_g gh53 161 0) (by omega) (by omega) (hx53_2 (by omega)).1 (by omega) ((hl89 _).trans (hw0.trans (hl85 0))) (fun j hj => (hl89 j).trans ((hw1 j hj).trans (hl90 j))) hkc hl86, ⟨_, rfl, by omega, by omega⟩⟩
                          · intro hc91
                            have hc91 : ¬ ((0 : Int) ≤ pw_g h74 161 (Int.toNat 2)) := hc91
                            refine pw_bip E (pc' := 151) rfl rfl (by decide) ?_
                            refine pw_goto E (pc' := 160) rfl (by decide) ?_
                            refine pw_ast0 h74I E (c := 159) (pc' := 161) rfl rfl rfl (by decide) rfl (by decide) (by omega) (by omega) rfl (by omega) (by omega) (by omega) (by omega) rfl ?_
                            intro h92I h92E
                            generalize h92w : pw_w h74 159 (ix.toNat) (pw_i 11) = h92 at h92I h92E ⊢
                            have h92F := h74F.tr (h92E.wk (W' := [125, 127, 128, 129, 146, 147, 157, 158, 159, 160, 161, 1002]) (by first | rfl | simp))
                            have hl93 : ∀ j : Nat, pw_g h92 161 j = pw_g gh53 161 j := fun j => ((((by rw [← h92w]; exact pw_g_ne (by omega) : pw_g h92 161 j = pw_g h74 161 j)).trans (by rw [← h74w]; exact pw_g_ne (by omega) : pw_g h74 161 j = pw_g h38 161 j)).trans (by rw [← h38w]; exact pw_g_ne (by omega) : pw_g h38 161 j = pw_g h35 161 j)).trans (pw_Eg (c := 161) I53 h35E rfl rfl j : pw_g h35 161 j = pw_g gh53 161 j)
                            have hr94 : pw_g h92 161 (Int.toNat 3) ≤ 10 := by rw [hl93]; exact (hx53_2 (by omega)).2.2.2
                            refine pw_ld E (pc' := 162) (st' := [.ref 141]) rfl (fun _ => rfl) ?_
                            refine pw_getR (b := 176) h92I E (c := 125) (k := 49) (pc' := 165) rfl rfl rfl rfl rfl rfl rfl ?_
                            refine pw_ld E (pc' := 166) (st' := [pw_i ix, .ref 176]) rfl (fun _ => rfl) ?_
                            refine pw_ld E (pc' := 167) (st' := [.ref 141, pw_i ix, .ref 176]) rfl (fun _ => rfl) ?_
                            refine pw_getR (b := 177) h92I E (c := 125) (k := 50) (pc' := 170) rfl rfl rfl rfl rfl rfl rfl ?_
                            refine pw_ld E (pc' := 171) (st' := [pw_i 3, .ref 177, pw_i ix, .ref 176]) rfl (fun _ => rfl) ?_
                            refine pw_ald h92I E (c := 161) (pc' := 172) rfl rfl rfl (by decide) rfl (by decide) (by omega) (by omega) rfl (fun hf95a hf95b hf95c hf95d => ?_)
                            refine pw_ast0 h92I E (c := 160) (pc' := 173) rfl rfl rfl (by decide) rfl (by decide) (by omega) (by omega) rfl (by omega) (by omega) (by omega) (by omega) rfl ?_
                            intro h96I h96E
                            generalize h96w : pw_w h92 160 (ix.toNat) (pw_i (pw_g h92 161 (Int.toNat 3))) = h96 at h96I h96E ⊢
                            have h96F := h92F.tr (h96E.wk (W' := [125, 127, 128, 129, 146, 147, 157, 158, 159, 160, 161, 1002]) (by first | rfl | simp))
                            refine pw_ld E (pc' := 174) (st' := [pw_i 0]) rfl (fun _ => rfl) ?_
                            refine pw_iret E rfl ?_
                            have hl97 : ∀ j : Nat, pw_g h35 161 j = pw_g gh53 161 j := fun j => (pw_Eg (c := 161) I53 h35E rfl rfl j : pw_g h35 161 j = pw_g gh53 161 j)
                            have hl98 : ∀ j : Nat, pw_g h96 145 j = pw_g gh53 145 j := fun j => (((((by rw [← h96w]; exact pw_g_ne (by omega) : pw_g h96 145 j = pw_g h92 145 j)).trans (by rw [← h92w]; exact pw_g_ne (by omega) : pw_g h92 145 j = pw_g h74 145 j)).trans (by rw [← h74w]; exact pw_g_ne (by omega) : pw_g h74 145 j = pw_g h38 145 j)).trans (by rw [← h38w]; exact pw_g_ne (by omega) : pw_g h38 145 j = pw_g h35 145 j)).trans (pw_Eg (c := 145) I53 h35E rfl rfl j : pw_g h35 145 j = pw_g gh53 145 j)
                            have hl99 : ∀ j : Nat, pw_g h96 146 j = pw_g h35 146 j := fun j => ((((by rw [← h96w]; exact pw_g_ne (by omega) : pw_g h96 146 j = pw_g h92 146 j)).trans (by rw [← h92w]; exact pw_g_ne (by omega) : pw_g h92 146 j = pw_g h74 146 j)).trans (by rw [← h74w]; exact pw_g_ne (by omega) : pw_g h74 146 j = pw_g h38 146 j)).trans (by rw [← h38w]; exact pw_g_ne (by omega) : pw_g h38 146 j = pw_g h35 146 j)
                            have hl100 : ∀ j : Nat, pw_g h96 147 j = pw_g h35 147 j := fun j => ((((by rw [← h96w]; exact pw_g_ne (by omega) : pw_g h96 147 j = pw_g h92 147 j)).trans (by rw [← h92w]; exact pw_g_ne (by omega) : pw_g h92 147 j = pw_g h74 147 j)).trans (by rw [← h74w]; exact pw_g_ne (by omega) : pw_g h74 147 j = pw_g h38 147 j)).trans (by rw [← h38w]; exact pw_g_ne (by omega) : pw_g h38 147 j = pw_g h35 147 j)
                            have hl101 : ∀ j : Nat, pw_g h96 157 j = pw_g h38 157 j := fun j => (((by rw [← h96w]; exact pw_g_ne (by omega) : pw_g h96 157 j = pw_g h92 157 j)).trans (by rw [← h92w]; exact pw_g_ne (by omega) : pw_g h92 157 j = pw_g h74 157 j)).trans (by rw [← h74w]; exact pw_g_ne (by omega) : pw_g h74 157 j = pw_g h38 157 j)
                            have hl102 : ∀ j : Nat, pw_g h35 157 j = pw_g gh53 157 j := fun j => (pw_Eg (c := 157) I53 h35E rfl rfl j : pw_g h35 157 j = pw_g gh53 157 j)
                            have hw0 : pw_g h38 157 (ix.toNat) = pw_g h35 161 (Int.toNat 0) := by rw [← h38w]; exact pw_g_eqA h35I rfl (by omega) (by omega) (by omega)
                            have hw1 : ∀ j : Nat, j ≠ ix.toNat → pw_g h38 157 j = pw_g h35 157 j := fun j hj => by rw [← h38w]; exact pw_g_ne (fun q => hj q.2.symm)
                            have hkc : pw_KC gh53 h96 (5 + ix) (pw_g gh53 125 32) := ⟨fun j hj => ⟨(hl99 _).trans (hqkeep.1 j hj).1, (hl100 _).trans (hqkeep.1 j hj).2⟩, fun j hj => ⟨(hl99 _).trans (hqkeep.2 j hj).1, (hl100 _).trans (hqkeep.2 j hj).2⟩⟩
                            exact ⟨h96I, h96F, (hp0.of hx53_3.1 hx53_3.2.1 hx53_3.2.2).wri (L := pw_g gh53 161 0) (by omega) (by omega) (hx53_2 (by omega)).1 (by omega) ((hl101 _).trans (hw0.trans (hl97 0))) (fun j hj => (hl101 j).trans ((hw1 j hj).trans (hl102 j))) hkc hl98, ⟨_, rfl, by omega, by omega⟩⟩
                      · intro hc103
                        have hc103 : ¬ (pw_g gh53 125 8 ≤ (0 : Int)) := hc103
                        refine pw_ld E (pc' := 87) (st' := [.ref 141]) rfl (fun _ => rfl) ?_
                        refine pw_getI I53 E (c := 125) (k := 8) (pc' := 90) rfl rfl rfl rfl rfl rfl (fun hf104a hf104b hf104c hf104d => ?_)
                        refine pw_iret E rfl ?_
                        exact ⟨I53, E53, (hp0.of hx53_3.1 hx53_3.2.1 hx53_3.2.2), ⟨_, rfl, by omega, by omega⟩⟩
                    · intro hc105
                      have hc105 : ¬ (pw_g gh53 125 8 ≠ (0 : Int)) := hc105
                      refine pw_ld E (pc' := 61) (st' := [.ref 141]) rfl (fun _ => rfl) ?_
                      refine pw_getR (b := 143) I53 E (c := 125) (k := 4) (pc' := 64) rfl rfl rfl rfl rfl rfl rfl ?_
                      refine pw_ld E (pc' := 65) (st' := [.ref 141, .ref 143]) rfl (fun _ => rfl) ?_
                      refine pw_getI I53 E (c := 125) (k := 7) (pc' := 68) rfl rfl rfl rfl rfl rfl (fun hf106a hf106b hf106c hf106d => ?_)
                      refine pw_ald I53 E (c := 127) (pc' := 69) rfl rfl rfl (by decide) rfl (by decide) (by omega) (by omega) rfl (fun hf107a hf107b hf107c hf107d => ?_)
                      refine pw_if E (pc' := 79) rfl (by decide) (by omega) (by omega) ?_ ?_
                      · intro hc108
                        have hc108 : pw_g gh53 127 ((pw_g gh53 125 7).toNat) = (0 : Int) := hc108
                        have hA53 : pw_g gh53 125 7 ≤ n ∧ 0 ≤ pw_g gh53 125 8 ∧ 0 ≤ pw_g gh53 125 7 ∧ 0 ≤ pw_g gh53 125 32 := hx53_0.2.2
                        have hn1 : n ≤ 1000 := hx53_0.1
                        refine pw_ld E (pc' := 80) (st' := [.ref 141]) rfl (fun _ => rfl) ?_
                        refine pw_getI I53 E (c := 125) (k := 8) (pc' := 83) rfl rfl rfl rfl rfl rfl (fun hf109a hf109b hf109c hf109d => ?_)
                        refine pw_if E (pc' := 91) rfl (by decide) (by omega) (by omega) ?_ ?_
                        · intro hc110
                          have hc110 : pw_g gh53 125 8 ≤ (0 : Int) := hc110
                          refine pw_ld E (pc' := 92) (st' := [.ref 141]) rfl (fun _ => rfl) ?_
                          refine pw_ld E (pc' := 93) (st' := [pw_i 5, .ref 141]) rfl (fun _ => rfl) ?_
                          refine pw_ld E (pc' := 94) (st' := [pw_i ix, pw_i 5, .ref 141]) rfl (fun _ => rfl) ?_
                          refine pw_add E (pc' := 95) rfl rfl ?_
                          obtain ⟨f111l, f111h, -⟩ := pw_obj (c := 125) I53 rfl
                          refine pw_call (m' := 258) (As := [.ref 141, pw_i (5 + ix)]) (rest := []) (ls'' := [some (.ref 141), some (pw_i (5 + ix)), none]) (by omega) E rfl (fun _ => pw_iV rfl rfl rfl rfl (pw_cellI f111h rfl)) (rfl : pm_ent 258 = some (2, 3, 12, 4, pmc_258)) rfl rfl (cm_258 (by omega) I53 (5 + ix) (by omega) (by omega) (by omega) (by omega)) ?_
                          rintro h112 v113 ⟨h112I, h112E, hqkeep, rfl⟩
                          refine ⟨_, rfl, ?_⟩
                          have h112F := E53.tr (h112E.wk (W' := [125, 127, 128, 129, 146, 147, 157, 158, 159, 160, 161, 1002]) (by first | rfl | simp))
                          show pw X d h112 277 98 [some (.ref 141), some (pw_i ix), some (pw_i ((((0 + 1) + 1) + 1) + 1))] [] _
                          refine pw_ld E (pc' := 99) (st' := [.ref 141]) rfl (fun _ => rfl) ?_
                          refine pw_getR (b := 173) h112I E (c := 125) (k := 46) (pc' := 102) rfl rfl rfl rfl rfl rfl rfl ?_
                          refine pw_ld E (pc' := 103) (st' := [pw_i ix, .ref 173]) rfl (fun _ => rfl) ?_
                          refine pw_ld E (pc' := 104) (st' := [.ref 141, pw_i ix, .ref 173]) rfl (fun _ => rfl) ?_
                          refine pw_getR (b := 177) h112I E (c := 125) (k := 50) (pc' := 107) rfl rfl rfl rfl rfl rfl rfl ?_
                          refine pw_ld E (pc' := 108) (st' := [pw_i 0, .ref 177, pw_i ix, .ref 173]) rfl (fun _ => rfl) ?_
                          refine pw_ald h112I E (c := 161) (pc' := 109) rfl rfl rfl (by decide) rfl (by decide) (by omega) (by omega) rfl (fun hf114a hf114b hf114c hf114d => ?_)
                          refine pw_ast0 h112I E (c := 157) (pc' := 110) rfl rfl rfl (by decide) rfl (by decide) (by omega) (by omega) rfl (by omega) (by omega) (by omega) (by omega) rfl ?_
                          intro h115I h115E
                          generalize h115w : pw_w h112 157 (ix.toNat) (pw_i (pw_g h112 161 (Int.toNat 0))) = h115 at h115I h115E ⊢
                          have h115F := h112F.tr (h115E.wk (W' := [125, 127, 128, 129, 146, 147, 157, 158, 159, 160, 161, 1002]) (by first | rfl | simp))
                          have hl116 : ∀ j : Nat, pw_g h115 161 j = pw_g gh53 161 j := fun j => ((by rw [← h115w]; exact pw_g_ne (by omega) : pw_g h115 161 j = pw_g h112 161 j)).trans (pw_Eg (c := 161) I53 h112E rfl rfl j : pw_g h112 161 j = pw_g gh53 161 j)
                          have hr117 : pw_g h115 161 (Int.toNat 1) ≤ 11 := by rw [hl116]; exact (hx53_2 (by omega)).2.1
                          refine pw_ld E (pc' := 111) (st' := [.ref 141]) rfl (fun _ => rfl) ?_
                          refine pw_getR (b := 174) h115I E (c := 125) (k := 47) (pc' := 114) rfl rfl rfl rfl rfl rfl rfl ?_
                          refine pw_ld E (pc' := 115) (st' := [pw_i ix, .ref 174]) rfl (fun _ => rfl) ?_
                          refine pw_ld E (pc' := 116) (st' := [.ref 141, pw_i ix, .ref 174]) rfl (fun _ => rfl) ?_
                          refine pw_getR (b := 177) h115I E (c := 125) (k := 50) (pc' := 119) rfl rfl rfl rfl rfl rfl rfl ?_
                          refine pw_ld E (pc' := 120) (st' := [pw_i 1, .ref 177, pw_i ix, .ref 174]) rfl (fun _ => rfl) ?_
                          refine pw_ald h115I E (c := 161) (pc' := 121) rfl rfl rfl (by decide) rfl (by decide) (by omega) (by omega) rfl (fun hf118a hf118b hf118c hf118d => ?_)
                          refine pw_if E (pc' := 128) rfl (by decide) (by omega) (by omega) ?_ ?_
                          · intro hc119
                            have hc119 : (0 : Int) ≤ pw_g h115 161 (Int.toNat 1) := hc119
                            refine pw_ld E (pc' := 129) (st' := [.ref 141, pw_i ix, .ref 174]) rfl (fun _ => rfl) ?_
                            refine pw_getR (b := 177) h115I E (c := 125) (k := 50) (pc' := 132) rfl rfl rfl rfl rfl rfl rfl ?_
                            refine pw_ld E (pc' := 133) (st' := [pw_i 1, .ref 177, pw_i ix, .ref 174]) rfl (fun _ => rfl) ?_
                            refine pw_ald h115I E (c := 161) (pc' := 134) rfl rfl rfl (by decide) rfl (by decide) (by omega) (by omega) rfl (fun hf120a hf120b hf120c hf120d => ?_)
                            refine pw_ast0 h115I E (c := 158) (pc' := 135) rfl rfl rfl (by decide) rfl (by decide) (by omega) (by omega) rfl (by omega) (by omega) (by omega) (by omega) rfl ?_
                            intro h121I h121E
                            generalize h121w : pw_w h115 158 (ix.toNat) (pw_i (pw_g h115 161 (Int.toNat 1))) = h121 at h121I h121E ⊢
                            have h121F := h115F.tr (h121E.wk (W' := [125, 127, 128, 129, 146, 147, 157, 158, 159, 160, 161, 1002]) (by first | rfl | simp))
                            have hl122 : ∀ j : Nat, pw_g h121 161 j = pw_g gh53 161 j := fun j => (((by rw [← h121w]; exact pw_g_ne (by omega) : pw_g h121 161 j = pw_g h115 161 j)).trans (by rw [← h115w]; exact pw_g_ne (by omega) : pw_g h115 161 j = pw_g h112 161 j)).trans (pw_Eg (c := 161) I53 h112E rfl rfl j : pw_g h112 161 j = pw_g gh53 161 j)
                            have hr123 : pw_g h121 161 (Int.toNat 2) ≤ 11 := by rw [hl122]; exact (hx53_2 (by omega)).2.2.1
                            refine pw_ld E (pc' := 136) (st' := [.ref 141]) rfl (fun _ => rfl) ?_
                            refine pw_getR (b := 175) h121I E (c := 125) (k := 48) (pc' := 139) rfl rfl rfl rfl rfl rfl rfl ?_
                            refine pw_ld E (pc' := 140) (st' := [pw_i ix, .ref 175]) rfl (fun _ => rfl) ?_
                            refine pw_ld E (pc' := 141) (st' := [.ref 141, pw_i ix, .ref 175]) rfl (fun _ => rfl) ?_
                            refine pw_getR (b := 177) h121I E (c := 125) (k := 50) (pc' := 144) rfl rfl rfl rfl rfl rfl rfl ?_
                            refine pw_ld E (pc' := 145) (st' := [pw_i 2, .ref 177, pw_i ix, .ref 175]) rfl (fun _ => rfl) ?_
                            refine pw_ald h121I E (c := 161) (pc' := 146) rfl rfl rfl (by decide) rfl (by decide) (by omega) (by omega) rfl (fun hf124a hf124b hf124c hf124d => ?_)
                            refine pw_if E (pc' := 154) rfl (by decide) (by omega) (by omega) ?_ ?_
                            · intro hc125
                              have hc125 : (0 : Int) ≤ pw_g h121 161 (Int.toNat 2) := hc125
                              refine pw_ld E (pc' := 155) (st' := [.ref 141, pw_i ix, .ref 175]) rfl (fun _ => rfl) ?_
                              refine pw_getR (b := 177) h121I E (c := 125) (k := 50) (pc' := 158) rfl rfl rfl rfl rfl rfl rfl ?_
                              refine pw_ld E (pc' := 159) (st' := [pw_i 2, .ref 177, pw_i ix, .ref 175]) rfl (fun _ => rfl) ?_
                              refine pw_ald h121I E (c := 161) (pc' := 160) rfl rfl rfl (by decide) rfl (by decide) (by omega) (by omega) rfl (fun hf126a hf126b hf126c hf126d => ?_)
                              refine pw_ast0 h121I E (c := 159) (pc' := 161) rfl rfl rfl (by decide) rfl (by decide) (by omega) (by omega) rfl (by omega) (by omega) (by omega) (by omega) rfl ?_
                              intro h127I h127E
                              generalize h127w : pw_w h121 159 (ix.toNat) (pw_i (pw_g h121 161 (Int.toNat 2))) = h127 at h127I h127E ⊢
                              have h127F := h121F.tr (h127E.wk (W' := [125, 127, 128, 129, 146, 147, 157, 158, 159, 160, 161, 1002]) (by first | rfl | simp))
                              have hl128 : ∀ j : Nat, pw_g h127 161 j = pw_g gh53 161 j := fun j => ((((by rw [← h127w]; exact pw_g_ne (by omega) : pw_g h127 161 j = pw_g h121 161 j)).trans (by rw [← h121w]; exact pw_g_ne (by omega) : pw_g h121 161 j = pw_g h115 161 j)).trans (by rw [← h115w]; exact pw_g_ne (by omega) : pw_g h115 161 j = pw_g h112 161 j)).trans (pw_Eg (c := 161) I53 h112E rfl rfl j : pw_g h112 161 j = pw_g gh53 161 j)
                              have hr129 : pw_g h127 161 (Int.toNat 3) ≤ 10 := by rw [hl128]; exact (hx53_2 (by omega)).2.2.2
                              refine pw_ld E (pc' := 162) (st' := [.ref 141]) rfl (fun _ => rfl) ?_
                              refine pw_getR (b := 176) h127I E (c := 125) (k := 49) (pc' := 165) rfl rfl rfl rfl rfl rfl rfl ?_
                              refine pw_ld E (pc' := 166) (st' := [pw_i ix, .ref 176]) rfl (fun _ => rfl) ?_
                              refine pw_ld E (pc' := 167) (st' := [.ref 141, pw_i ix, .ref 176]) rfl (fun _ => rfl) ?_
                              refine pw_getR (b := 177) h127I E (c := 125) (k := 50) (pc' := 170) rfl rfl rfl rfl rfl rfl rfl ?_
                              refine pw_ld E (pc' := 171) (st' := [pw_i 3, .ref 177, pw_i ix, .ref 176]) rfl (fun _ => rfl) ?_
                              refine pw_ald h127I E (c := 161) (pc' := 172) rfl rfl rfl (by decide) rfl (by decide) (by omega) (by omega) rfl (fun hf130a hf130b hf130c hf130d => ?_)
                              refine pw_ast0 h127I E (c := 160) (pc' := 173) rfl rfl rfl (by decide) rfl (by decide) (by omega) (by omega) rfl (by omega) (by omega) (by omega) (by omega) rfl ?_
                              intro h131I h131E
                              generalize h131w : pw_w h127 160 (ix.toNat) (pw_i (pw_g h127 161 (Int.toNat 3))) = h131 at h131I h131E ⊢
                              have h131F := h127F.tr (h131E.wk (W' := [125, 127, 128, 129, 146, 147, 157, 158, 159, 160, 161, 1002]) (by first | rfl | simp))
                              refine pw_ld E (pc' := 174) (st' := [pw_i 0]) rfl (fun _ => rfl) ?_
                              refine pw_iret E rfl ?_
                              have hl132 : ∀ j : Nat, pw_g h112 161 j = pw_g gh53 161 j := fun j => (pw_Eg (c := 161) I53 h112E rfl rfl j : pw_g h112 161 j = pw_g gh53 161 j)
                              have hl133 : ∀ j : Nat, pw_g h131 145 j = pw_g gh53 145 j := fun j => (((((by rw [← h131w]; exact pw_g_ne (by omega) : pw_g h131 145 j = pw_g h127 145 j)).trans (by rw [← h127w]; exact pw_g_ne (by omega) : pw_g h127 145 j = pw_g h121 145 j)).trans (by rw [← h121w]; exact pw_g_ne (by omega) : pw_g h121 145 j = pw_g h115 145 j)).trans (by rw [← h115w]; exact pw_g_ne (by omega) : pw_g h115 145 j = pw_g h112 145 j)).trans (pw_Eg (c := 145) I53 h112E rfl rfl j : pw_g h112 145 j = pw_g gh53 145 j)
                              have hl134 : ∀ j : Nat, pw_g h131 146 j = pw_g h112 146 j := fun j => ((((by rw [← h131w]; exact pw_g_ne (by omega) : pw_g h131 146 j = pw_g h127 146 j)).trans (by rw [← h127w]; exact pw_g_ne (by omega) : pw_g h127 146 j = pw_g h121 146 j)).trans (by rw [← h121w]; exact pw_g_ne (by omega) : pw_g h121 146 j = pw_g h115 146 j)).trans (by rw [← h115w]; exact pw_g_ne (by omega) : pw_g h115 146 j = pw_g h112 146 j)
                              have hl135 : ∀ j : Nat, pw_g h131 147 j = pw_g h112 147 j := fun j => ((((by rw [← h131w]; exact pw_g_ne (by omega) : pw_g h131 147 j = pw_g h127 147 j)).trans (by rw [← h127w]; exact pw_g_ne (by omega) : pw_g h127 147 j = pw_g h121 147 j)).trans (by rw [← h121w]; exact pw_g_ne (by omega) : pw_g h121 147 j = pw_g h115 147 j)).trans (by rw [← h115w]; exact pw_g_ne (by omega) : pw_g h115 147 j = pw_g h112 147 j)
                              have hl136 : ∀ j : Nat, pw_g h131 157 j = pw_g h115 157 j := fun j => (((by rw [← h131w]; exact pw_g_ne (by omega) : pw_g h131 157 j = pw_g h127 157 j)).trans (by rw [← h127w]; exact pw_g_ne (by omega) : pw_g h127 157 j = pw_g h121 157 j)).trans (by rw [← h121w]; exact pw_g_ne (by omega) : pw_g h121 157 j = pw_g h115 157 j)
                              have hl137 : ∀ j : Nat, pw_g h112 157 j = pw_g gh53 157 j := fun j => (pw_Eg (c := 157) I53 h112E rfl rfl j : pw_g h112 157 j = pw_g gh53 157 j)
                              have hw0 : pw_g h115 157 (ix.toNat) = pw_g h112 161 (Int.toNat 0) := by rw [← h115w]; exact pw_g_eqA h112I rfl (by omega) (by omega) (by omega)
                              have hw1 : ∀ j : Nat, j ≠ ix.toNat → pw_g h115 157 j = pw_g h112 157 j := fun j hj => by rw [← h115w]; exact pw_g_ne (fun q => hj q.2.symm)
                              have hkc : pw_KC gh53 h131 (5 + ix) (pw_g gh53 125 32) := ⟨fun j hj => ⟨(hl134 _).trans (hqkeep.1 j hj).1, (hl135 _).trans (hqkeep.1 j hj).2⟩, fun j hj => ⟨(hl134 _).trans (hqkeep.2 j hj).1, (hl135 _).trans (hqkeep.2 j hj).2⟩⟩
                              exact ⟨h131I, h131F, (hp0.of hx53_3.1 hx53_3.2.1 hx53_3.2.2).wri (L := pw_g gh53 161 0) (by omega) (by omega) (hx53_2 (by omega)).1 (by omega) ((hl136 _).trans (hw0.trans (hl132 0))) (fun j hj => (hl136 j).trans ((hw1 j hj).trans (hl137 j))) hkc hl133, ⟨_, rfl, by omega, by omega⟩⟩
                            · intro hc138
                              have hc138 : ¬ ((0 : Int) ≤ pw_g h121 161 (Int.toNat 2)) := hc138
                              refine pw_bip E (pc' := 151) rfl rfl (by decide) ?_
                              refine pw_goto E (pc' := 160) rfl (by decide) ?_
                              refine pw_ast0 h121I E (c := 159) (pc' := 161) rfl rfl rfl (by decide) rfl (by decide) (by omega) (by omega) rfl (by omega) (by omega) (by omega) (by omega) rfl ?_
                              intro h139I h139E
                              generalize h139w : pw_w h121 159 (ix.toNat) (pw_i 11) = h139 at h139I h139E ⊢
                              have h139F := h121F.tr (h139E.wk (W' := [125, 127, 128, 129, 146, 147, 157, 158, 159, 160, 161, 1002]) (by first | rfl | simp))
                              have hl140 : ∀ j : Nat, pw_g h139 161 j = pw_g gh53 161 j := fun j => ((((by rw [← h139w]; exact pw_g_ne (by omega) : pw_g h139 161 j = pw_g h121 161 j)).trans (by rw [← h121w]; exact pw_g_ne (by omega) : pw_g h121 161 j = pw_g h115 161 j)).trans (by rw [← h115w]; exact pw_g_ne (by omega) : pw_g h115 161 j = pw_g h112 161 j)).trans (pw_Eg (c := 161) I53 h112E rfl rfl j : pw_g h112 161 j = pw_g gh53 161 j)
                              have hr141 : pw_g h139 161 (Int.toNat 3) ≤ 10 := by rw [hl140]; exact (hx53_2 (by omega)).2.2.2
                              refine pw_ld E (pc' := 162) (st' := [.ref 141]) rfl (fun _ => rfl) ?_
                              refine pw_getR (b := 176) h139I E (c := 125) (k := 49) (pc' := 165) rfl rfl rfl rfl rfl rfl rfl ?_
                              refine pw_ld E (pc' := 166) (st' := [pw_i ix, .ref 176]) rfl (fun _ => rfl) ?_
                              refine pw_ld E (pc' := 167) (st' := [.ref 141, pw_i ix, .ref 176]) rfl (fun _ => rfl) ?_
                              refine pw_getR (b := 177) h139I E (c := 125) (k := 50) (pc' := 170) rfl rfl rfl rfl rfl rfl rfl ?_
                              refine pw_ld E (pc' := 171) (st' := [pw_i 3, .ref 177, pw_i ix, .ref 176]) rfl (fun _ => rfl) ?_
                              refine pw_ald h139I E (c := 161) (pc' := 172) rfl rfl rfl (by decide) rfl (by decide) (by omega) (by omega) rfl (fun hf142a hf142b hf142c hf142d => ?_)
                              refine pw_ast0 h139I E (c := 160) (pc' := 173) rfl rfl rfl (by decide) rfl (by decide) (by omega) (by omega) rfl (by omega) (by omega) (by omega) (by omega) rfl ?_
                              intro h143I h143E
                              generalize h143w : pw_w h139 160 (ix.toNat) (pw_i (pw_g h139 161 (Int.toNat 3))) = h143 at h143I h143E ⊢
                              have h143F := h139F.tr (h143E.wk (W' := [125, 127, 128, 129, 146, 147, 157, 158, 159, 160, 161, 1002]) (by first | rfl | simp))
                              refine pw_ld E (pc' := 174) (st' := [pw_i 0]) rfl (fun _ => rfl) ?_
                              refine pw_iret E rfl ?_
                              have hl144 : ∀ j : Nat, pw_g h112 161 j = pw_g gh53 161 j := fun j => (pw_Eg (c := 161) I53 h112E rfl rfl j : pw_g h112 161 j = pw_g gh53 161 j)
                              have hl145 : ∀ j : Nat, pw_g h143 145 j = pw_g gh53 145 j := fun j => (((((by rw [← h143w]; exact pw_g_ne (by omega) : pw_g h143 145 j = pw_g h139 145 j)).trans (by rw [← h139w]; exact pw_g_ne (by omega) : pw_g h139 145 j = pw_g h121 145 j)).trans (by rw [← h121w]; exact pw_g_ne (by omega) : pw_g h121 145 j = pw_g h115 145 j)).trans (by rw [← h115w]; exact pw_g_ne (by omega) : pw_g h115 145 j = pw_g h112 145 j)).trans (pw_Eg (c := 145) I53 h112E rfl rfl j : pw_g h112 145 j = pw_g gh53 145 j)
                              have hl146 : ∀ j : Nat, pw_g h143 146 j = pw_g h112 146 j := fun j => ((((by rw [← h143w]; exact pw_g_ne (by omega) : pw_g h143 146 j = pw_g h139 146 j)).trans (by rw [← h139w]; exact pw_g_ne (by omega) : pw_g h139 146 j = pw_g h121 146 j)).trans (by rw [← h121w]; exact pw_g_ne (by omega) : pw_g h121 146 j = pw_g h115 146 j)).trans (by rw [← h115w]; exact pw_g_ne (by omega) : pw_g h115 146 j = pw_g h112 146 j)
                              have hl147 : ∀ j : Nat, pw_g h143 147 j = pw_g h112 147 j := fun j => ((((by rw [← h143w]; exact pw_g_ne (by omega) : pw_g h143 147 j = pw_g h139 147 j)).trans (by rw [← h139w]; exact pw_g_ne (by omega) : pw_g h139 147 j = pw_g h121 147 j)).trans (by rw [← h121w]; exact pw_g_ne (by omega) : pw_g h121 147 j = pw_g h115 147 j)).trans (by rw [← h115w]; exact pw_g_ne (by omega) : pw_g h115 147 j = pw_g h112 147 j)
                              have hl148 : ∀ j : Nat, pw_g h143 157 j = pw_g h115 157 j := fun j => (((by rw [← h143w]; exact pw_g_ne (by omega) : pw_g h143 157 j = pw_g h139 157 j)).trans (by rw [← h139w]; exact pw_g_ne (by omega) : pw_g h139 157 j = pw_g h121 157 j)).trans (by rw [← h121w]; exact pw_g_ne (by omega) : pw_g h121 157 j = pw_g h115 157 j)
                              have hl149 : ∀ j : Nat, pw_g h112 157 j = pw_g gh53 157 j := fun j => (pw_Eg (c := 157) I53 h112E rfl rfl j : pw_g h112 157 j = pw_g gh53 157 j)
                              have hw0 : pw_g h115 157 (ix.toNat) = pw_g h112 161 (Int.toNat 0) := by rw [← h115w]; exact pw_g_eqA h112I rfl (by omega) (by omega) (by omega)
                              have hw1 : ∀ j : Nat, j ≠ ix.toNat → pw_g h115 157 j = pw_g h112 157 j := fun j hj => by rw [← h115w]; exact pw_g_ne (fun q => hj q.2.symm)
                              have hkc : pw_KC gh53 h143 (5 + ix) (pw_g gh53 125 32) := ⟨fun j hj => ⟨(hl146 _).trans (hqkeep.1 j hj).1, (hl147 _).trans (hqkeep.1 j hj).2⟩, fun j hj => ⟨(hl146 _).trans (hqkeep.2 j hj).1, (hl147 _).trans (hqkeep.2 j hj).2⟩⟩
                              exact ⟨h143I, h143F, (hp0.of hx53_3.1 hx53_3.2.1 hx53_3.2.2).wri (L := pw_g gh53 161 0) (by omega) (by omega) (hx53_2 (by omega)).1 (by omega) ((hl148 _).trans (hw0.trans (hl144 0))) (fun j hj => (hl148 j).trans ((hw1 j hj).trans (hl149 j))) hkc hl145, ⟨_, rfl, by omega, by omega⟩⟩
                          · intro hc150
                            have hc150 : ¬ ((0 : Int) ≤ pw_g h115 161 (Int.toNat 1)) := hc150
                            refine pw_ld E (pc' := 125) (st' := [pw_i 0, pw_i ix, .ref 174]) rfl (fun _ => rfl) ?_
                            refine pw_goto E (pc' := 134) rfl (by decide) ?_
                            refine pw_ast0 h115I E (c := 158) (pc' := 135) rfl rfl rfl (by decide) rfl (by decide) (by omega) (by omega) rfl (by omega) (by omega) (by omega) (by omega) rfl ?_
                            intro h151I h151E
                            generalize h151w : pw_w h115 158 (ix.toNat) (pw_i 0) = h151 at h151I h151E ⊢
                            have h151F := h115F.tr (h151E.wk (W' := [125, 127, 128, 129, 146, 147, 157, 158, 159, 160, 161, 1002]) (by first | rfl | simp))
                            have hl152 : ∀ j : Nat, pw_g h151 161 j = pw_g gh53 161 j := fun j => (((by rw [← h151w]; exact pw_g_ne (by omega) : pw_g h151 161 j = pw_g h115 161 j)).trans (by rw [← h115w]; exact pw_g_ne (by omega) : pw_g h115 161 j = pw_g h112 161 j)).trans (pw_Eg (c := 161) I53 h112E rfl rfl j : pw_g h112 161 j = pw_g gh53 161 j)
                            have hr153 : pw_g h151 161 (Int.toNat 2) ≤ 11 := by rw [hl152]; exact (hx53_2 (by omega)).2.2.1
                            refine pw_ld E (pc' := 136) (st' := [.ref 141]) rfl (fun _ => rfl) ?_
                            refine pw_getR (b := 175) h151I E (c := 125) (k := 48) (pc' := 139) rfl rfl rfl rfl rfl rfl rfl ?_
                            refine pw_ld E (pc' := 140) (st' := [pw_i ix, .ref 175]) rfl (fun _ => rfl) ?_
                            refine pw_ld E (pc' := 141) (st' := [.ref 141, pw_i ix, .ref 175]) rfl (fun _ => rfl) ?_
                            refine pw_getR (b := 177) h151I E (c := 125) (k := 50) (pc' := 144) rfl rfl rfl rfl rfl rfl rfl ?_
                            refine pw_ld E (pc' := 145) (st' := [pw_i 2, .ref 177, pw_i ix, .ref 175]) rfl (fun _ => rfl) ?_
                            refine pw_ald h151I E (c := 161) (pc' := 146) rfl rfl rfl (by decide) rfl (by decide) (by omega) (by omega) rfl (fun hf154a hf154b hf154c hf154d => ?_)
                            refine pw_if E (pc' := 154) rfl (by decide) (by omega) (by omega) ?_ ?_
                            · intro hc155
                              have hc155 : (0 : Int) ≤ pw_g h151 161 (Int.toNat 2) := hc155
                              refine pw_ld E (pc' := 155) (st' := [.ref 141, pw_i ix, .ref 175]) rfl (fun _ => rfl) ?_
                              refine pw_getR (b := 177) h151I E (c := 125) (k := 50) (pc' := 158) rfl rfl rfl rfl rfl rfl rfl ?_
                              refine pw_ld E (pc' := 159) (st' := [pw_i 2, .ref 177, pw_i ix, .ref 175]) rfl (fun _ => rfl) ?_
                              refine pw_ald h151I E (c := 161) (pc' := 160) rfl rfl rfl (by decide) rfl (by decide) (by omega) (by omega) rfl (fun hf156a hf156b hf156c hf156d => ?_)
                              refine pw_ast0 h151I E (c := 159) (pc' := 161) rfl rfl rfl (by decide) rfl (by decide) (by omega) (by omega) rfl (by omega) (by omega) (by omega) (by omega) rfl ?_
                              intro h157I h157E
                              generalize h157w : pw_w h151 159 (ix.toNat) (pw_i (pw_g h151 161 (Int.toNat 2))) = h157 at h157I h157E ⊢
                              have h157F := h151F.tr (h157E.wk (W' := [125, 127, 128, 129, 146, 147, 157, 158, 159, 160, 161, 1002]) (by first | rfl | simp))
                              have hl158 : ∀ j : Nat, pw_g h157 161 j = pw_g gh53 161 j := fun j => ((((by rw [← h157w]; exact pw_g_ne (by omega) : pw_g h157 161 j = pw_g h151 161 j)).trans (by rw [← h151w]; exact pw_g_ne (by omega) : pw_g h151 161 j = pw_g h115 161 j)).trans (by rw [← h115w]; exact pw_g_ne (by omega) : pw_g h115 161 j = pw_g h112 161 j)).trans (pw_Eg (c := 161) I53 h112E rfl rfl j : pw_g h112 161 j = pw_g gh53 161 j)
                              have hr159 : pw_g h157 161 (Int.toNat 3) ≤ 10 := by rw [hl158]; exact (hx53_2 (by omega)).2.2.2
                              refine pw_ld E (pc' := 162) (st' := [.ref 141]) rfl (fun _ => rfl) ?_
                              refine pw_getR (b := 176) h157I E (c := 125) (k := 49) (pc' := 165) rfl rfl rfl rfl rfl rfl rfl ?_
                              refine pw_ld E (pc' := 166) (st' := [pw_i ix, .ref 176]) rfl (fun _ => rfl) ?_
                              refine pw_ld E (pc' := 167) (st' := [.ref 141, pw_i ix, .ref 176]) rfl (fun _ => rfl) ?_
                              refine pw_getR (b := 177) h157I E (c := 125) (k := 50) (pc' := 170) rfl rfl rfl rfl rfl rfl rfl ?_
                              refine pw_ld E (pc' := 171) (st' := [pw_i 3, .ref 177, pw_i ix, .ref 176]) rfl (fun _ => rfl) ?_
                              refine pw_ald h157I E (c := 161) (pc' := 172) rfl rfl rfl (by decide) rfl (by decide) (by omega) (by omega) rfl (fun hf160a hf160b hf160c hf160d => ?_)
                              refine pw_ast0 h157I E (c := 160) (pc' := 173) rfl rfl rfl (by decide) rfl (by decide) (by omega) (by omega) rfl (by omega) (by omega) (by omega) (by omega) rfl ?_
                              intro h161I h161E
                              generalize h161w : pw_w h157 160 (ix.toNat) (pw_i (pw_g h157 161 (Int.toNat 3))) = h161 at h161I h161E ⊢
                              have h161F := h157F.tr (h161E.wk (W' := [125, 127, 128, 129, 146, 147, 157, 158, 159, 160, 161, 1002]) (by first | rfl | simp))
                              refine pw_ld E (pc' := 174) (st' := [pw_i 0]) rfl (fun _ => rfl) ?_
                              refine pw_iret E rfl ?_
                              have hl162 : ∀ j : Nat, pw_g h112 161 j = pw_g gh53 161 j := fun j => (pw_Eg (c := 161) I53 h112E rfl rfl j : pw_g h112 161 j = pw_g gh53 161 j)
                              have hl163 : ∀ j : Nat, pw_g h161 145 j = pw_g gh53 145 j := fun j => (((((by rw [← h161w]; exact pw_g_ne (by omega) : pw_g h161 145 j = pw_g h157 145 j)).trans (by rw [← h157w]; exact pw_g_ne (by omega) : pw_g h157 145 j = pw_g h151 145 j)).trans (by rw [← h151w]; exact pw_g_ne (by omega) : pw_g h151 145 j = pw_g h115 145 j)).trans (by rw [← h115w]; exact pw_g_ne (by omega) : pw_g h115 145 j = pw_g h112 145 j)).trans (pw_Eg (c := 145) I53 h112E rfl rfl j : pw_g h112 145 j = pw_g gh53 145 j)
                              have hl164 : ∀ j : Nat, pw_g h161 146 j = pw_g h112 146 j := fun j => ((((by rw [← h161w]; exact pw_g_ne (by omega) : pw_g h161 146 j = pw_g h157 146 j)).trans (by rw [← h157w]; exact pw_g_ne (by omega) : pw_g h157 146 j = pw_g h151 146 j)).trans (by rw [← h151w]; exact pw_g_ne (by omega) : pw_g h151 146 j = pw_g h115 146 j)).trans (by rw [← h115w]; exact pw_g_ne (by omega) : pw_g h115 146 j = pw_g h112 146 j)
                              have hl165 : ∀ j : Nat, pw_g h161 147 j = pw_g h112 147 j := fun j => ((((by rw [← h161w]; exact pw_g_ne (by omega) : pw_g h161 147 j = pw_g h157 147 j)).trans (by rw [← h157w]; exact pw_g_ne (by omega) : pw_g h157 147 j = pw_g h151 147 j)).trans (by rw [← h151w]; exact pw_g_ne (by omega) : pw_g h151 147 j = pw_g h115 147 j)).trans (by rw [← h115w]; exact pw_g_ne (by omega) : pw_g h115 147 j = pw_g h112 147 j)
                              have hl166 : ∀ j : Nat, pw_g h161 157 j = pw_g h115 157 j := fun j => (((by rw [← h161w]; exact pw_g_ne (by omega) : pw_g h161 157 j = pw_g h157 157 j)).trans (by rw [← h157w]; exact pw_g_ne (by omega) : pw_g h157 157 j = pw_g h151 157 j)).trans (by rw [← h151w]; exact pw_g_ne (by omega) : pw_g h151 157 j = pw_g h115 157 j)
                              have hl167 : ∀ j : Nat, pw_g h112 157 j = pw_g gh53 157 j := fun j => (pw_Eg (c := 157) I53 h112E rfl rfl j : pw_g h112 157 j = pw_g gh53 157 j)
                              have hw0 : pw_g h115 157 (ix.toNat) = pw_g h112 161 (Int.toNat 0) := by rw [← h115w]; exact pw_g_eqA h112I rfl (by omega) (by omega) (by omega)
                              have hw1 : ∀ j : Nat, j ≠ ix.toNat → pw_g h115 157 j = pw_g h112 157 j := fun j hj => by rw [← h115w]; exact pw_g_ne (fun q => hj q.2.symm)
                              have hkc : pw_KC gh53 h161 (5 + ix) (pw_g gh53 125 32) := ⟨fun j hj => ⟨(hl164 _).trans (hqkeep.1 j hj).1, (hl165 _).trans (hqkeep.1 j hj).2⟩, fun j hj => ⟨(hl164 _).trans (hqkeep.2 j hj).1, (hl165 _).trans (hqkeep.2 j hj).2⟩⟩
                              exact ⟨h161I, h161F, (hp0.of hx53_3.1 hx53_3.2.1 hx53_3.2.2).wri (L := pw_g gh53 161 0) (by omega) (by omega) (hx53_2 (by omega)).1 (by omega) ((hl166 _).trans (hw0.trans (hl162 0))) (fun j hj => (hl166 j).trans ((hw1 j hj).trans (hl167 j))) hkc hl163, ⟨_, rfl, by omega, by omega⟩⟩
                            · intro hc168
                              have hc168 : ¬ ((0 : Int) ≤ pw_g h151 161 (Int.toNat 2)) := hc168
                              refine pw_bip E (pc' := 151) rfl rfl (by decide) ?_
                              refine pw_goto E (pc' := 160) rfl (by decide) ?_
                              refine pw_ast0 h151I E (c := 159) (pc' := 161) rfl rfl rfl (by decide) rfl (by decide) (by omega) (by omega) rfl (by omega) (by omega) (by omega) (by omega) rfl ?_
                              intro h169I h169E
                              generalize h169w : pw_w h151 159 (ix.toNat) (pw_i 11) = h169 at h169I h169E ⊢
                              have h169F := h151F.tr (h169E.wk (W' := [125, 127, 128, 129, 146, 147, 157, 158, 159, 160, 161, 1002]) (by first | rfl | simp))
                              have hl170 : ∀ j : Nat, pw_g h169 161 j = pw_g gh53 161 j := fun j => ((((by rw [← h169w]; exact pw_g_ne (by omega) : pw_g h169 161 j = pw_g h151 161 j)).trans (by rw [← h151w]; exact pw_g_ne (by omega) : pw_g h151 161 j = pw_g h115 161 j)).trans (by rw [← h115w]; exact pw_g_ne (by omega) : pw_g h115 161 j = pw_g h112 161 j)).trans (pw_Eg (c := 161) I53 h112E rfl rfl j : pw_g h112 161 j = pw_g gh53 161 j)
                              have hr171 : pw_g h169 161 (Int.toNat 3) ≤ 10 := by rw [hl170]; exact (hx53_2 (by omega)).2.2.2
                              refine pw_ld E (pc' := 162) (st' := [.ref 141]) rfl (fun _ => rfl) ?_
                              refine pw_getR (b := 176) h169I E (c := 125) (k := 49) (pc' := 165) rfl rfl rfl rfl rfl rfl rfl ?_
                              refine pw_ld E (pc' := 166) (st' := [pw_i ix, .ref 176]) rfl (fun _ => rfl) ?_
                              refine pw_ld E (pc' := 167) (st' := [.ref 141, pw_i ix, .ref 176]) rfl (fun _ => rfl) ?_
                              refine pw_getR (b := 177) h169I E (c := 125) (k := 50) (pc' := 170) rfl rfl rfl rfl rfl rfl rfl ?_
                              refine pw_ld E (pc' := 171) (st' := [pw_i 3, .ref 177, pw_i ix, .ref 176]) rfl (fun _ => rfl) ?_
                              refine pw_ald h169I E (c := 161) (pc' := 172) rfl rfl rfl (by decide) rfl (by decide) (by omega) (by omega) rfl (fun hf172a hf172b hf172c hf172d => ?_)
                              refine pw_ast0 h169I E (c := 160) (pc' := 173) rfl rfl rfl (by decide) rfl (by decide) (by omega) (by omega) rfl (by omega) (by omega) (by omega) (by omega) rfl ?_
                              intro h173I h173E
                              generalize h173w : pw_w h169 160 (ix.toNat) (pw_i (pw_g h169 161 (Int.toNat 3))) = h173 at h173I h173E ⊢
                              have h173F := h169F.tr (h173E.wk (W' := [125, 127, 128, 129, 146, 147, 157, 158, 159, 160, 161, 1002]) (by first | rfl | simp))
                              refine pw_ld E (pc' := 174) (st' := [pw_i 0]) rfl (fun _ => rfl) ?_
                              refine pw_iret E rfl ?_
                              have hl174 : ∀ j : Nat, pw_g h112 161 j = pw_g gh53 161 j := fun j => (pw_Eg (c := 161) I53 h112E rfl rfl j : pw_g h112 161 j = pw_g gh53 161 j)
                              have hl175 : ∀ j : Nat, pw_g h173 145 j = pw_g gh53 145 j := fun j => (((((by rw [← h173w]; exact pw_g_ne (by omega) : pw_g h173 145 j = pw_g h169 145 j)).trans (by rw [← h169w]; exact pw_g_ne (by omega) : pw_g h169 145 j = pw_g h151 145 j)).trans (by rw [← h151w]; exact pw_g_ne (by omega) : pw_g h151 145 j = pw_g h115 145 j)).trans (by rw [← h115w]; exact pw_g_ne (by omega) : pw_g h115 145 j = pw_g h112 145 j)).trans (pw_Eg (c := 145) I53 h112E rfl rfl j : pw_g h112 145 j = pw_g gh53 145 j)
                              have hl176 : ∀ j : Nat, pw_g h173 146 j = pw_g h112 146 j := fun j => ((((by rw [← h173w]; exact pw_g_ne (by omega) : pw_g h173 146 j = pw_g h169 146 j)).trans (by rw [← h169w]; exact pw_g_ne (by omega) : pw_g h169 146 j = pw_g h151 146 j)).trans (by rw [← h151w]; exact pw_g_ne (by omega) : pw_g h151 146 j = pw_g h115 146 j)).trans (by rw [← h115w]; exact pw_g_ne (by omega) : pw_g h115 146 j = pw_g h112 146 j)
                              have hl177 : ∀ j : Nat, pw_g h173 147 j = pw_g h112 147 j := fun j => ((((by rw [← h173w]; exact pw_g_ne (by omega) : pw_g h173 147 j = pw_g h169 147 j)).trans (by rw [← h169w]; exact pw_g_ne (by omega) : pw_g h169 147 j = pw_g h151 147 j)).trans (by rw [← h151w]; exact pw_g_ne (by omega) : pw_g h151 147 j = pw_g h115 147 j)).trans (by rw [← h115w]; exact pw_g_ne (by omega) : pw_g h115 147 j = pw_g h112 147 j)
                              have hl178 : ∀ j : Nat, pw_g h173 157 j = pw_g h115 157 j := fun j => (((by rw [← h173w]; exact pw_g_ne (by omega) : pw_g h173 157 j = pw_g h169 157 j)).trans (by rw [← h169w]; exact pw_g_ne (by omega) : pw_g h169 157 j = pw_g h151 157 j)).trans (by rw [← h151w]; exact pw_g_ne (by omega) : pw_g h151 157 j = pw_g h115 157 j)
                              have hl179 : ∀ j : Nat, pw_g h112 157 j = pw_g gh53 157 j := fun j => (pw_Eg (c := 157) I53 h112E rfl rfl j : pw_g h112 157 j = pw_g gh53 157 j)
                              have hw0 : pw_g h115 157 (ix.toNat) = pw_g h112 161 (Int.toNat 0) := by rw [← h115w]; exact pw_g_eqA h112I rfl (by omega) (by omega) (by omega)
                              have hw1 : ∀ j : Nat, j ≠ ix.toNat → pw_g h115 157 j = pw_g h112 157 j := fun j hj => by rw [← h115w]; exact pw_g_ne (fun q => hj q.2.symm)
                              have hkc : pw_KC gh53 h173 (5 + ix) (pw_g gh53 125 32) := ⟨fun j hj => ⟨(hl176 _).trans (hqkeep.1 j hj).1, (hl177 _).trans (hqkeep.1 j hj).2⟩, fun j hj => ⟨(hl176 _).trans (hqkeep.2 j hj).1, (hl177 _).trans (hqkeep.2 j hj).2⟩⟩
                              exact ⟨h173I, h173F, (hp0.of hx53_3.1 hx53_3.2.1 hx53_3.2.2).wri (L := pw_g gh53 161 0) (by omega) (by omega) (hx53_2 (by omega)).1 (by omega) ((hl178 _).trans (hw0.trans (hl174 0))) (fun j hj => (hl178 j).trans ((hw1 j hj).trans (hl179 j))) hkc hl175, ⟨_, rfl, by omega, by omega⟩⟩
                        · intro hc180
                          have hc180 : ¬ (pw_g gh53 125 8 ≤ (0 : Int)) := hc180
                          exfalso; omega
                      · intro hc181
                        have hc181 : ¬ (pw_g gh53 127 ((pw_g gh53 125 7).toNat) = (0 : Int)) := hc181
                        have hA53 : pw_g gh53 125 7 ≤ n ∧ 0 ≤ pw_g gh53 125 8 ∧ 0 ≤ pw_g gh53 125 7 ∧ 0 ≤ pw_g gh53 125 32 := hx53_0.2.2
                        have hn1 : n ≤ 1000 := hx53_0.1
                        refine pw_ld E (pc' := 73) (st' := [.ref 141]) rfl (fun _ => rfl) ?_
                        obtain ⟨f182l, f182h, -⟩ := pw_obj (c := 125) I53 rfl
                        refine pw_call (m' := 279) (As := [.ref 141]) (rest := []) (ls'' := [some (.ref 141), none, none]) (by omega) E rfl (fun _ => pw_iV rfl rfl rfl rfl (pw_cellI f182h rfl)) (rfl : pm_ent 279 = some (1, 3, 12, 4, pmc_279)) rfl rfl (cm_279 (by omega) I53 hx53_0 (by omega) hx53_4 hx53_2) ?_
                        rintro h183 v184 ⟨h183I, h183E, ⟨rA, rQ, rL⟩, rfl⟩
                        refine ⟨_, rfl, ?_⟩
                        have h183F := E53.tr (h183E.wk (W' := [125, 127, 128, 129, 146, 147, 157, 158, 159, 160, 161, 1002]) (by first | rfl | simp))
                        have rf : pw_g h183 125 7 ≤ n ∧ 0 ≤ pw_g h183 125 8 ∧ 0 ≤ pw_g h183 125 7 ∧ 0 ≤ pw_g h183 125 32 := rA.2.2
                        have rq : pw_g gh53 125 7 - pw_g gh53 125 32 + 0 ≤ pw_g h183 125 7 - pw_g h183 125 32 ∧ pw_g gh53 125 7 ≤ pw_g h183 125 7 := ⟨rQ.2.2.2.1, rQ.2.1⟩
                        have rp : pw_g h183 125 8 = 0 → pw_g gh53 125 7 < pw_g h183 125 7 := fun q => (rL q).2
                        have rV : pw_NV n h183 := pw_NV.E I53 h183E hx53_4 rfl
                        have rO : pw_O gh53 h183 := pw_O.q (by omega) rQ (fun j _ => pw_Eg (c := 145) I53 h183E rfl rfl j) (pw_Eg (c := 157) I53 h183E rfl rfl)
                        show pw X d h183 277 76 [some (.ref 141), some (pw_i ix), some (pw_i ((((0 + 1) + 1) + 1) + 1))] [] _
                        refine pw_goto E (pc' := 53) rfl (by decide) ?_
                        exact ih53 _ (by omega)  h183 h183I h183F  rA (by omega) (fun q => (rL q).1) (hx53_3.tr rO) rV rfl
                have he185 : pw_g h23 125 7 = pw_g h20 125 7 := by rw [← h23w]; exact pw_g_ne (by omega)
                have he186 : pw_g h20 125 7 = pw_g h17 125 7 := by rw [← h20w]; exact pw_g_ne (by omega)
                have he187 : pw_g h17 125 7 = pw_g h14 125 7 := by rw [← h17w]; exact pw_g_ne (by omega)
                have he188 : pw_g h14 125 7 = pw_g h11 125 7 := by rw [← h14w]; exact pw_g_ne (by omega)
                have he189 : pw_g h11 125 7 = pw_g h10 125 7 := by rw [← h11w]; exact pw_g_ne (by omega)
                have he190 : pw_g h10 125 7 = pw_g h8 125 7 := by rw [← h10w]; exact pw_g_ne (by omega)
                have he191 : pw_g h23 125 8 = pw_g h20 125 8 := by rw [← h23w]; exact pw_g_ne (by omega)
                have he192 : pw_g h20 125 8 = pw_g h17 125 8 := by rw [← h20w]; exact pw_g_ne (by omega)
                have he193 : pw_g h17 125 8 = pw_g h14 125 8 := by rw [← h17w]; exact pw_g_ne (by omega)
                have he194 : pw_g h14 125 8 = pw_g h11 125 8 := by rw [← h14w]; exact pw_g_ne (by omega)
                have he195 : pw_g h11 125 8 = pw_g h10 125 8 := by rw [← h11w]; exact pw_g_ne (by omega)
                have he196 : pw_g h10 125 8 = pw_g h8 125 8 := by rw [← h10w]; exact pw_g_ne (by omega)
                have he197 : pw_g h23 125 32 = pw_g h20 125 32 := by rw [← h23w]; exact pw_g_ne (by omega)
                have he198 : pw_g h20 125 32 = pw_g h17 125 32 := by rw [← h20w]; exact pw_g_ne (by omega)
                have he199 : pw_g h17 125 32 = pw_g h14 125 32 := by rw [← h17w]; exact pw_g_ne (by omega)
                have he200 : pw_g h14 125 32 = pw_g h11 125 32 := by rw [← h14w]; exact pw_g_ne (by omega)
                have he201 : pw_g h11 125 32 = pw_g h10 125 32 := by rw [← h11w]; exact pw_g_ne (by omega)
                have he202 : pw_g h10 125 32 = 0 := by rw [← h10w]; exact pw_g_eq (c := 125) (k := 32) h8I rfl rfl (by omega) (by omega)
                exact L53 _  h23 h23I h23F  bA (by omega) (fun _ => bL) bO bV rfl
              · intro hc203
                have hc203 : ¬ ((4 : Int) ≤ (((0 + 1) + 1) + 1) + 1) := hc203
                exfalso; omega
    · intro hc204
      have hc204 : ¬ (x4 ≠ (0 : Int)) := hc204
      exfalso; omega
  · have hb205 : x4 = 0 := by omega
    refine pw_if E (pc' := 19) rfl (by decide) (by omega) (by omega) ?_ ?_
    · intro hc206
      have hc206 : x4 ≠ (0 : Int) := hc206
      exfalso; omega
    · intro hc207
      have hc207 : ¬ (x4 ≠ (0 : Int)) := hc207
      refine pw_ld E (pc' := 13) (st' := [.ref 141]) rfl (fun _ => rfl) ?_
      refine pw_ld E (pc' := 14) (st' := [pw_i 0, .ref 141]) rfl (fun _ => rfl) ?_
      refine pw_putP h1I E (k := 2) (pc' := 17) rfl rfl rfl rfl (by omega) (by omega) (by omega) (by omega) rfl rfl ?_
      intro h208I h208E
      generalize h208w : pw_w h1 125 2 (pw_i 0) = h208 at h208I h208E ⊢
      have h208F := h1F.tr (h208E.wk (W' := [125, 127, 128, 129, 146, 147, 157, 158, 159, 160, 161, 1002]) (by first | rfl | simp))
      refine pw_ld E (pc' := 18) (st' := [pw_i ((-1))]) rfl (fun _ => rfl) ?_
      refine pw_iret E rfl ?_
      have hl209 : ∀ j : Nat, pw_g h208 145 j = pw_g h 145 j := fun j => ((by rw [← h208w]; exact pw_g_ne (by omega) : pw_g h208 145 j = pw_g h1 145 j)).trans (by rw [← h1w]; exact pw_g_ne (by omega) : pw_g h1 145 j = pw_g h 145 j)
      have hl210 : ∀ j : Nat, pw_g h208 146 j = pw_g h 146 j := fun j => ((by rw [← h208w]; exact pw_g_ne (by omega) : pw_g h208 146 j = pw_g h1 146 j)).trans (by rw [← h1w]; exact pw_g_ne (by omega) : pw_g h1 146 j = pw_g h 146 j)
      have hl211 : ∀ j : Nat, pw_g h208 147 j = pw_g h 147 j := fun j => ((by rw [← h208w]; exact pw_g_ne (by omega) : pw_g h208 147 j = pw_g h1 147 j)).trans (by rw [← h1w]; exact pw_g_ne (by omega) : pw_g h1 147 j = pw_g h 147 j)
      have hl212 : ∀ j : Nat, pw_g h208 157 j = pw_g h 157 j := fun j => ((by rw [← h208w]; exact pw_g_ne (by omega) : pw_g h208 157 j = pw_g h1 157 j)).trans (by rw [← h1w]; exact pw_g_ne (by omega) : pw_g h1 157 j = pw_g h 157 j)
      exact ⟨h208I, h208F, hp0.cg hl209 hl210 hl211 hl212, ⟨_, rfl, by omega, by omega⟩⟩
