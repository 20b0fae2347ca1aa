/-! the model (printed by wip/tool/mall.py) -/
set_option maxHeartbeats 4000000 in
theorem cm_237 {X : List (Nat × List Value)} {d : Nat} {h : pm_H} (hd : 34 ≤ d) (I : pw_I h) (l : Int) (hl1 : (-2147483648) ≤ l) (hl2 : l ≤ 2147483647) (hp0 : pw_K h) : pw X d h 237 0 [some (.ref 141), some (pw_i l), none] [] (fun h' v => pw_I h' ∧ pw_E [125, 127, 128, 129, 145, 146, 147, 1002] h h' ∧ (pw_K h') ∧ (∃ a : Int, v = .inl (some (pw_i a)) ∧ (-2147483648) ≤ a ∧ a ≤ 2147483647)) := by
  have E : pm_ent 237 = some (2, 3, 12, 0, pmc_237) := rfl
  have E0 : pw_E [125, 127, 128, 129, 145, 146, 147, 1002] h h := pw_E.rf _ _
  refine pw_ld E (pc' := 1) (st' := [.ref 141]) rfl (fun _ => rfl) ?_
  refine pw_ld E (pc' := 2) (st' := [pw_i 0, .ref 141]) rfl (fun _ => rfl) ?_
  refine pw_putI I E (c := 125) (k := 0) (pc' := 5) rfl rfl rfl rfl (by omega) (by omega) (by omega) (by omega) rfl rfl ?_
  intro h1I h1E
  generalize h1w : pw_w h 125 0 (pw_i 0) = h1 at h1I h1E ⊢
  have h1F := E0.tr (h1E.wk (W' := [125, 127, 128, 129, 145, 146, 147, 1002]) (by first | rfl | simp))
  refine pw_ld E (pc' := 6) (st' := [pw_i l]) rfl (fun _ => rfl) ?_
  refine pw_ld E (pc' := 7) (st' := [pw_i 0, pw_i l]) rfl (fun _ => rfl) ?_
  refine pw_ld E (pc' := 8) (st' := [pw_i 3, pw_i 0, pw_i l]) rfl (fun _ => rfl) ?_
  refine pw_call (m' := 202) (As := [pw_i l, pw_i 0, pw_i 3]) (rest := []) (ls'' := [some (pw_i l), some (pw_i 0), some (pw_i 3)]) (Nat.le_trans (by decide) hd) E rfl (fun _ => pw_iS rfl rfl rfl) (rfl : pm_ent 202 = some (3, 3, 12, 1, pmc_202)) rfl rfl (cm_202 (pw_dp hd (by decide)) h1I (l) (by omega) (by omega) (0) (by omega) (by omega) (3) (by omega) (by omega)) ?_
  rintro u3 v2 ⟨rfl, x4, rfl, hx4a, hx4b, hx4r⟩
  refine ⟨_, rfl, ?_⟩
  show pw X d h1 237 11 [some (.ref 141), some (pw_i l), none] [pw_i x4] _
  change (x4 = 1 ∧ 0 ≤ l ∧ l ≤ 3) ∨ (x4 = 0 ∧ ¬ (0 ≤ l ∧ l ≤ 3)) at hx4r
  rcases (by omega : x4 = 1 ∨ x4 = 0) with hb5 | hb5
  · skip
    refine pw_if E (pc' := 21) rfl (by decide) (by omega) (by omega) ?_ ?_
    · intro hc6
      change x4 ≠ (0 : Int) at hc6
      refine pw_ld E (pc' := 22) (st' := [.ref 141]) rfl (fun _ => rfl) ?_
      obtain ⟨f7l, f7h, -⟩ := pw_obj (c := 125) h1I rfl
      refine pw_call (m' := 238) (As := [.ref 141]) (rest := []) (ls'' := [some (.ref 141), none, none, none, none, none, none]) (Nat.le_trans (by decide) hd) E rfl (fun _ => pw_iV rfl rfl rfl rfl (pw_cellI f7h rfl)) (rfl : pm_ent 238 = some (1, 7, 12, 4, pmc_238)) rfl rfl (cm_238 (pw_dp hd (by decide)) h1I ) ?_
      rintro h8 v9 ⟨h8I, h8E, hqcut, rfl⟩
      refine ⟨_, rfl, ?_⟩
      have h8F := h1F.tr (h8E.wk (W' := [125, 127, 128, 129, 145, 146, 147, 1002]) (by first | rfl | simp))
      show pw X d h8 237 25 [some (.ref 141), some (pw_i l), none] [] _
      obtain ⟨n, hA0, hz7, hz8, hV0⟩ := hqcut
      refine pw_ld E (pc' := 26) (st' := [.ref 141]) rfl (fun _ => rfl) ?_
      refine pw_ld E (pc' := 27) (st' := [pw_i 0, .ref 141]) rfl (fun _ => rfl) ?_
      refine pw_putI h8I E (c := 125) (k := 32) (pc' := 30) rfl rfl rfl rfl (by omega) (by omega) (by omega) (by omega) rfl rfl ?_
      intro h10I h10E
      generalize h10w : pw_w h8 125 32 (pw_i 0) = h10 at h10I h10E ⊢
      have h10F := h8F.tr (h10E.wk (W' := [125, 127, 128, 129, 145, 146, 147, 1002]) (by first | rfl | simp))
      refine pw_ld E (pc' := 31) (st' := [.ref 141]) rfl (fun _ => rfl) ?_
      refine pw_ld E (pc' := 32) (st' := [pw_i 0, .ref 141]) rfl (fun _ => rfl) ?_
      refine pw_putZ h10I E (c := 125) (k := 45) (pc' := 35) rfl rfl rfl rfl (by omega) (by omega) (by omega) rfl rfl ?_
      intro h11I h11E
      generalize h11w : pw_w h10 125 45 (pw_i 0) = h11 at h11I h11E ⊢
      have h11F := h10F.tr (h11E.wk (W' := [125, 127, 128, 129, 145, 146, 147, 1002]) (by first | rfl | simp))
      refine pw_ld E (pc' := 36) (st' := [pw_i 0]) rfl (fun _ => rfl) ?_
      refine pw_istn E (pc' := 37) (ls' := [some (.ref 141), some (pw_i l), some (pw_i 0)]) rfl rfl rfl rfl ?_
      refine pw_ld E (pc' := 38) (st' := [pw_i 0]) rfl (fun _ => rfl) ?_
      refine pw_ld E (pc' := 39) (st' := [pw_i 4, pw_i 0]) rfl (fun _ => rfl) ?_
      refine pw_if2 E (pc' := 58) rfl (by decide) (by decide) (by decide) (by decide) (by decide) ?_ ?_
      · intro hc12
        change (4 : Int) ≤ (0 : Int) at hc12
        exfalso; omega
      · intro hc13
        change ¬ ((4 : Int) ≤ (0 : Int)) at hc13
        refine pw_ld E (pc' := 43) (st' := [.ref 141]) rfl (fun _ => rfl) ?_
        refine pw_getR (b := 161) h11I E (c := 125) (k := 31) (pc' := 46) rfl rfl rfl rfl rfl rfl rfl ?_
        refine pw_bip E (pc' := 48) rfl rfl (by decide) ?_
        refine pw_ld E (pc' := 49) (st' := [pw_i 0, pw_i 16, .ref 161]) rfl (fun _ => rfl) ?_
        refine pw_add E (pc' := 50) rfl rfl ?_
        refine pw_ld E (pc' := 51) (st' := [pw_i ((-1)), pw_i (16 + 0), .ref 161]) rfl (fun _ => rfl) ?_
        refine pw_ast0 h11I E (c := 145) (pc' := 52) rfl rfl rfl (by decide) rfl (by decide) (by omega) (by omega) rfl (by omega) (by omega) (by omega) (by omega) rfl ?_
        intro h14I h14E
        generalize h14w : pw_w h11 145 (((16 + 0) : Int).toNat) (pw_i ((-1))) = h14 at h14I h14E ⊢
        have h14F := h11F.tr (h14E.wk (W' := [125, 127, 128, 129, 145, 146, 147, 1002]) (by first | rfl | simp))
        refine pw_inc E (pc' := 55) (ls' := [some (.ref 141), some (pw_i l), some (pw_i (0 + 1))]) rfl rfl rfl rfl ?_
        refine pw_goto E (pc' := 37) rfl (by decide) ?_
        refine pw_ld E (pc' := 38) (st' := [pw_i (0 + 1)]) rfl (fun _ => rfl) ?_
        refine pw_ld E (pc' := 39) (st' := [pw_i 4, pw_i (0 + 1)]) rfl (fun _ => rfl) ?_
        refine pw_if2 E (pc' := 58) rfl (by decide) (by decide) (by decide) (by decide) (by decide) ?_ ?_
        · intro hc15
          change (4 : Int) ≤ 0 + 1 at hc15
          exfalso; omega
        · intro hc16
          change ¬ ((4 : Int) ≤ 0 + 1) at hc16
          refine pw_ld E (pc' := 43) (st' := [.ref 141]) rfl (fun _ => rfl) ?_
          refine pw_getR (b := 161) h14I E (c := 125) (k := 31) (pc' := 46) rfl rfl rfl rfl rfl rfl rfl ?_
          refine pw_bip E (pc' := 48) rfl rfl (by decide) ?_
          refine pw_ld E (pc' := 49) (st' := [pw_i (0 + 1), pw_i 16, .ref 161]) rfl (fun _ => rfl) ?_
          refine pw_add E (pc' := 50) rfl rfl ?_
          refine pw_ld E (pc' := 51) (st' := [pw_i ((-1)), pw_i (16 + (0 + 1)), .ref 161]) rfl (fun _ => rfl) ?_
          refine pw_ast0 h14I E (c := 145) (pc' := 52) rfl rfl rfl (by decide) rfl (by decide) (by omega) (by omega) rfl (by omega) (by omega) (by omega) (by omega) rfl ?_
          intro h17I h17E
          generalize h17w : pw_w h14 145 (((16 + (0 + 1)) : Int).toNat) (pw_i ((-1))) = h17 at h17I h17E ⊢
          have h17F := h14F.tr (h17E.wk (W' := [125, 127, 128, 129, 145, 146, 147, 1002]) (by first | rfl | simp))
          refine pw_inc E (pc' := 55) (ls' := [some (.ref 141), some (pw_i l), some (pw_i ((0 + 1) + 1))]) rfl rfl rfl rfl ?_
          refine pw_goto E (pc' := 37) rfl (by decide) ?_
          refine pw_ld E (pc' := 38) (st' := [pw_i ((0 + 1) + 1)]) rfl (fun _ => rfl) ?_
          refine pw_ld E (pc' := 39) (st' := [pw_i 4, pw_i ((0 + 1) + 1)]) rfl (fun _ => rfl) ?_
          refine pw_if2 E (pc' := 58) rfl (by decide) (by decide) (by decide) (by decide) (by decide) ?_ ?_
          · intro hc18
            change (4 : Int) ≤ (0 + 1) + 1 at hc18
            exfalso; omega
          · intro hc19
            change ¬ ((4 : Int) ≤ (0 + 1) + 1) at hc19
            refine pw_ld E (pc' := 43) (st' := [.ref 141]) rfl (fun _ => rfl) ?_
            refine pw_getR (b := 161) h17I E (c := 125) (k := 31) (pc' := 46) rfl rfl rfl rfl rfl rfl rfl ?_
            refine pw_bip E (pc' := 48) rfl rfl (by decide) ?_
            refine pw_ld E (pc' := 49) (st' := [pw_i ((0 + 1) + 1), pw_i 16, .ref 161]) rfl (fun _ => rfl) ?_
            refine pw_add E (pc' := 50) rfl rfl ?_
            refine pw_ld E (pc' := 51) (st' := [pw_i ((-1)), pw_i (16 + ((0 + 1) + 1)), .ref 161]) rfl (fun _ => rfl) ?_
            refine pw_ast0 h17I E (c := 145) (pc' := 52) rfl rfl rfl (by decide) rfl (by decide) (by omega) (by omega) rfl (by omega) (by omega) (by omega) (by omega) rfl ?_
            intro h20I h20E
            generalize h20w : pw_w h17 145 (((16 + ((0 + 1) + 1)) : Int).toNat) (pw_i ((-1))) = h20 at h20I h20E ⊢
            have h20F := h17F.tr (h20E.wk (W' := [125, 127, 128, 129, 145, 146, 147, 1002]) (by first | rfl | simp))
            refine pw_inc E (pc' := 55) (ls' := [some (.ref 141), some (pw_i l), some (pw_i (((0 + 1) + 1) + 1))]) rfl rfl rfl rfl ?_
            refine pw_goto E (pc' := 37) rfl (by decide) ?_
            refine pw_ld E (pc' := 38) (st' := [pw_i (((0 + 1) + 1) + 1)]) rfl (fun _ => rfl) ?_
            refine pw_ld E (pc' := 39) (st' := [pw_i 4, pw_i (((0 + 1) + 1) + 1)]) rfl (fun _ => rfl) ?_
            refine pw_if2 E (pc' := 58) rfl (by decide) (by decide) (by decide) (by decide) (by decide) ?_ ?_
            · intro hc21
              change (4 : Int) ≤ ((0 + 1) + 1) + 1 at hc21
              exfalso; omega
            · intro hc22
              change ¬ ((4 : Int) ≤ ((0 + 1) + 1) + 1) at hc22
              refine pw_ld E (pc' := 43) (st' := [.ref 141]) rfl (fun _ => rfl) ?_
              refine pw_getR (b := 161) h20I E (c := 125) (k := 31) (pc' := 46) rfl rfl rfl rfl rfl rfl rfl ?_
              refine pw_bip E (pc' := 48) rfl rfl (by decide) ?_
              refine pw_ld E (pc' := 49) (st' := [pw_i (((0 + 1) + 1) + 1), pw_i 16, .ref 161]) rfl (fun _ => rfl) ?_
              refine pw_add E (pc' := 50) rfl rfl ?_
              refine pw_ld E (pc' := 51) (st' := [pw_i ((-1)), pw_i (16 + (((0 + 1) + 1) + 1)), .ref 161]) rfl (fun _ => rfl) ?_
              refine pw_ast0 h20I E (c := 145) (pc' := 52) rfl rfl rfl (by decide) rfl (by decide) (by omega) (by omega) rfl (by omega) (by omega) (by omega) (by omega) rfl ?_
              intro h23I h23E
              generalize h23w : pw_w h20 145 (((16 + (((0 + 1) + 1) + 1)) : Int).toNat) (pw_i ((-1))) = h23 at h23I h23E ⊢
              have h23F := h20F.tr (h23E.wk (W' := [125, 127, 128, 129, 145, 146, 147, 1002]) (by first | rfl | simp))
              refine pw_inc E (pc' := 55) (ls' := [some (.ref 141), some (pw_i l), some (pw_i ((((0 + 1) + 1) + 1) + 1))]) rfl rfl rfl rfl ?_
              refine pw_goto E (pc' := 37) rfl (by decide) ?_
              refine pw_ld E (pc' := 38) (st' := [pw_i ((((0 + 1) + 1) + 1) + 1)]) rfl (fun _ => rfl) ?_
              refine pw_ld E (pc' := 39) (st' := [pw_i 4, pw_i ((((0 + 1) + 1) + 1) + 1)]) rfl (fun _ => rfl) ?_
              refine pw_if2 E (pc' := 58) rfl (by decide) (by decide) (by decide) (by decide) (by decide) ?_ ?_
              · intro hc24
                change (4 : Int) ≤ (((0 + 1) + 1) + 1) + 1 at hc24
                have b7 : pw_g h23 125 7 = pw_g h8 125 7 := by rw [← h23w, pw_g_ne (by omega), ← h20w, pw_g_ne (by omega), ← h17w, pw_g_ne (by omega), ← h14w, pw_g_ne (by omega), ← h11w, pw_g_ne (by omega), ← h10w, pw_g_ne (by omega)]
                have b8 : pw_g h23 125 8 = pw_g h8 125 8 := by rw [← h23w, pw_g_ne (by omega), ← h20w, pw_g_ne (by omega), ← h17w, pw_g_ne (by omega), ← h14w, pw_g_ne (by omega), ← h11w, pw_g_ne (by omega), ← h10w, pw_g_ne (by omega)]
                have b9 : pw_g h23 125 32 = pw_g h10 125 32 := by rw [← h23w, pw_g_ne (by omega), ← h20w, pw_g_ne (by omega), ← h17w, pw_g_ne (by omega), ← h14w, pw_g_ne (by omega), ← h11w, pw_g_ne (by omega)]
                have bc : pw_g h10 125 32 = 0 := by rw [← h10w]; exact pw_g_eq (c := 125) (k := 32) h8I rfl rfl (by omega) (by omega)
                have hl25 : ∀ j : Nat, pw_g h23 127 j = pw_g h8 127 j := fun j => ((((((by rw [← h23w]; exact pw_g_ne (by omega) : pw_g h23 127 j = pw_g h20 127 j)).trans (by rw [← h20w]; exact pw_g_ne (by omega) : pw_g h20 127 j = pw_g h17 127 j)).trans (by rw [← h17w]; exact pw_g_ne (by omega) : pw_g h17 127 j = pw_g h14 127 j)).trans (by rw [← h14w]; exact pw_g_ne (by omega) : pw_g h14 127 j = pw_g h11 127 j)).trans (by rw [← h11w]; exact pw_g_ne (by omega) : pw_g h11 127 j = pw_g h10 127 j)).trans (by rw [← h10w]; exact pw_g_ne (by omega) : pw_g h10 127 j = pw_g h8 127 j)
                have bA : pw_A n h23 := ⟨hA0.1, by rw [hl25]; exact hA0.2.1, by omega, by omega, by omega, by omega⟩
                have bl0 : pw_g h23 145 16 = -1 := by rw [← h23w, pw_g_ne (by omega), ← h20w, pw_g_ne (by omega), ← h17w, pw_g_ne (by omega), ← h14w]; exact pw_g_eqA h11I rfl (by decide) (by decide) (by decide)
                have bl1 : pw_g h23 145 17 = -1 := by rw [← h23w, pw_g_ne (by omega), ← h20w, pw_g_ne (by omega), ← h17w]; exact pw_g_eqA h14I rfl (by decide) (by decide) (by decide)
                have bl2 : pw_g h23 145 18 = -1 := by rw [← h23w, pw_g_ne (by omega), ← h20w]; exact pw_g_eqA h17I rfl (by decide) (by decide) (by decide)
                have bl3 : pw_g h23 145 19 = -1 := by rw [← h23w]; exact pw_g_eqA h20I rfl (by decide) (by decide) (by decide)
                have bL : pw_Ls h23 := fun k hk => Or.inl (by rcases (by omega : k = 0 ∨ k = 1 ∨ k = 2 ∨ k = 3) with rfl | rfl | rfl | rfl; exact (show pw_g h23 145 16 < 0 by omega); exact (show pw_g h23 145 17 < 0 by omega); exact (show pw_g h23 145 18 < 0 by omega); exact (show pw_g h23 145 19 < 0 by omega))
                have b5 : ∀ j : Nat, j < 16 → pw_g h23 145 j = pw_g h11 145 j := fun j hj => by rw [← h23w, pw_g_ne (fun q => by have := q.2; omega), ← h20w, pw_g_ne (fun q => by have := q.2; omega), ← h17w, pw_g_ne (fun q => by have := q.2; omega), ← h14w, pw_g_ne (fun q => by have := q.2; omega)]
                have hl26 : ∀ j : Nat, pw_g h11 145 j = pw_g h 145 j := fun j => ((((by rw [← h11w]; exact pw_g_ne (by omega) : pw_g h11 145 j = pw_g h10 145 j)).trans (by rw [← h10w]; exact pw_g_ne (by omega) : pw_g h10 145 j = pw_g h8 145 j)).trans (pw_Eg (c := 145) h1I h8E rfl rfl j : pw_g h8 145 j = pw_g h1 145 j)).trans (by rw [← h1w]; exact pw_g_ne (by omega) : pw_g h1 145 j = pw_g h 145 j)
                have hl27 : ∀ j : Nat, pw_g h23 146 j = pw_g h 146 j := fun j => ((((((((by rw [← h23w]; exact pw_g_ne (by omega) : pw_g h23 146 j = pw_g h20 146 j)).trans (by rw [← h20w]; exact pw_g_ne (by omega) : pw_g h20 146 j = pw_g h17 146 j)).trans (by rw [← h17w]; exact pw_g_ne (by omega) : pw_g h17 146 j = pw_g h14 146 j)).trans (by rw [← h14w]; exact pw_g_ne (by omega) : pw_g h14 146 j = pw_g h11 146 j)).trans (by rw [← h11w]; exact pw_g_ne (by omega) : pw_g h11 146 j = pw_g h10 146 j)).trans (by rw [← h10w]; exact pw_g_ne (by omega) : pw_g h10 146 j = pw_g h8 146 j)).trans (pw_Eg (c := 146) h1I h8E rfl rfl j : pw_g h8 146 j = pw_g h1 146 j)).trans (by rw [← h1w]; exact pw_g_ne (by omega) : pw_g h1 146 j = pw_g h 146 j)
                have hl28 : ∀ j : Nat, pw_g h23 147 j = pw_g h 147 j := fun j => ((((((((by rw [← h23w]; exact pw_g_ne (by omega) : pw_g h23 147 j = pw_g h20 147 j)).trans (by rw [← h20w]; exact pw_g_ne (by omega) : pw_g h20 147 j = pw_g h17 147 j)).trans (by rw [← h17w]; exact pw_g_ne (by omega) : pw_g h17 147 j = pw_g h14 147 j)).trans (by rw [← h14w]; exact pw_g_ne (by omega) : pw_g h14 147 j = pw_g h11 147 j)).trans (by rw [← h11w]; exact pw_g_ne (by omega) : pw_g h11 147 j = pw_g h10 147 j)).trans (by rw [← h10w]; exact pw_g_ne (by omega) : pw_g h10 147 j = pw_g h8 147 j)).trans (pw_Eg (c := 147) h1I h8E rfl rfl j : pw_g h8 147 j = pw_g h1 147 j)).trans (by rw [← h1w]; exact pw_g_ne (by omega) : pw_g h1 147 j = pw_g h 147 j)
                have hl29 : ∀ j : Nat, pw_g h23 157 j = pw_g h 157 j := fun j => ((((((((by rw [← h23w]; exact pw_g_ne (by omega) : pw_g h23 157 j = pw_g h20 157 j)).trans (by rw [← h20w]; exact pw_g_ne (by omega) : pw_g h20 157 j = pw_g h17 157 j)).trans (by rw [← h17w]; exact pw_g_ne (by omega) : pw_g h17 157 j = pw_g h14 157 j)).trans (by rw [← h14w]; exact pw_g_ne (by omega) : pw_g h14 157 j = pw_g h11 157 j)).trans (by rw [← h11w]; exact pw_g_ne (by omega) : pw_g h11 157 j = pw_g h10 157 j)).trans (by rw [← h10w]; exact pw_g_ne (by omega) : pw_g h10 157 j = pw_g h8 157 j)).trans (pw_Eg (c := 157) h1I h8E rfl rfl j : pw_g h8 157 j = pw_g h1 157 j)).trans (by rw [← h1w]; exact pw_g_ne (by omega) : pw_g h1 157 j = pw_g h 157 j)
                have bO : pw_O h h23 := ⟨fun j hj => (b5 j hj).trans (hl26 j), fun j _ => ⟨hl27 j, hl28 j⟩, hl29⟩
                have L58 : ∀ (n58 : Nat)  (gh58 : pm_H), pw_I gh58 → pw_E [125, 127, 128, 129, 145, 146, 147, 1002] h gh58 → pw_A n gh58 → pw_g gh58 125 32 ≤ pw_g gh58 125 7 → (pw_g gh58 125 8 = 0 → pw_Ls gh58) → pw_O h gh58 → ((n : Int) - pw_g gh58 125 7 + 1 - min (pw_g gh58 125 8) 1).toNat = n58 → pw X d gh58 237 58 [some (.ref 141), some (pw_i l), some (pw_i ((((0 + 1) + 1) + 1) + 1))] [] (fun h' v => pw_I h' ∧ pw_E [125, 127, 128, 129, 145, 146, 147, 1002] h h' ∧ (pw_K h') ∧ (∃ a : Int, v = .inl (some (pw_i a)) ∧ (-2147483648) ≤ a ∧ a ≤ 2147483647)) := by
                  intro n58
                  induction n58 using Nat.strongRecOn with
                  | ind n58 ih58 =>
                    intro  gh58 I58 E58 hx58_0 hx58_1 hx58_2 hx58_3 hm58
                    refine pw_ld E (pc' := 59) (st' := [.ref 141]) rfl (fun _ => rfl) ?_
                    refine pw_getI2 I58 E (c := 125) (k := 8) (pc' := 62) rfl rfl rfl rfl rfl rfl (fun hf30a hf30b => ?_)
                    refine pw_if E (pc' := 84) rfl (by decide) (by omega) (by omega) ?_ ?_
                    · intro hc31
                      change pw_g gh58 125 8 ≠ (0 : Int) at hc31
                      have hA58 : pw_g gh58 125 7 ≤ n ∧ 0 ≤ pw_g gh58 125 8 ∧ 0 ≤ pw_g gh58 125 7 ∧ 0 ≤ pw_g gh58 125 32 := hx58_0.2.2
                      have hn1 : n ≤ 1000 := hx58_0.1
                      refine pw_ld E (pc' := 85) (st' := [.ref 141]) rfl (fun _ => rfl) ?_
                      refine pw_getI2 I58 E (c := 125) (k := 8) (pc' := 88) rfl rfl rfl rfl rfl rfl (fun hf32a hf32b => ?_)
                      refine pw_if E (pc' := 96) rfl (by decide) (by omega) (by omega) ?_ ?_
                      · intro hc33
                        change pw_g gh58 125 8 ≤ (0 : Int) at hc33
                        refine pw_ld E (pc' := 97) (st' := [pw_i 0]) rfl (fun _ => rfl) ?_
                        refine pw_istn E (pc' := 98) (ls' := [some (.ref 141), some (pw_i l), some (pw_i 0)]) rfl rfl rfl rfl ?_
                        refine pw_ld E (pc' := 99) (st' := [pw_i 0]) rfl (fun _ => rfl) ?_
                        refine pw_ld E (pc' := 100) (st' := [pw_i 4, pw_i 0]) rfl (fun _ => rfl) ?_
                        refine pw_if2 E (pc' := 128) rfl (by decide) (by decide) (by decide) (by decide) (by decide) ?_ ?_
                        · intro hc34
                          change (4 : Int) ≤ (0 : Int) at hc34
                          exfalso; omega
                        · intro hc35
                          change ¬ ((4 : Int) ≤ (0 : Int)) at hc35
                          refine pw_ld E (pc' := 104) (st' := [.ref 141]) rfl (fun _ => rfl) ?_
                          refine pw_getR (b := 161) I58 E (c := 125) (k := 31) (pc' := 107) rfl rfl rfl rfl rfl rfl rfl ?_
                          refine pw_ld E (pc' := 108) (st' := [pw_i 4, .ref 161]) rfl (fun _ => rfl) ?_
                          refine pw_ld E (pc' := 109) (st' := [pw_i l, pw_i 4, .ref 161]) rfl (fun _ => rfl) ?_
                          refine pw_mul E (pc' := 110) rfl rfl ?_
                          refine pw_ld E (pc' := 111) (st' := [pw_i 0, pw_i (4 * l), .ref 161]) rfl (fun _ => rfl) ?_
                          refine pw_add E (pc' := 112) rfl rfl ?_
                          refine pw_ld E (pc' := 113) (st' := [.ref 141, pw_i ((4 * l) + 0), .ref 161]) rfl (fun _ => rfl) ?_
                          refine pw_getR (b := 161) I58 E (c := 125) (k := 31) (pc' := 116) rfl rfl rfl rfl rfl rfl rfl ?_
                          refine pw_bip E (pc' := 118) rfl rfl (by decide) ?_
                          refine pw_ld E (pc' := 119) (st' := [pw_i 0, pw_i 16, .ref 161, pw_i ((4 * l) + 0), .ref 161]) rfl (fun _ => rfl) ?_
                          refine pw_add E (pc' := 120) rfl rfl ?_
                          refine pw_ald2 I58 E (c := 145) (pc' := 121) rfl rfl rfl (by decide) rfl (by decide) (by omega) (by omega) rfl (fun hf36a hf36b => ?_)
                          refine pw_ast0 I58 E (c := 145) (pc' := 122) rfl rfl rfl (by decide) rfl (by decide) (by omega) (by omega) rfl (by omega) (by omega) (by omega) (by omega) rfl ?_
                          intro h37I h37E
                          generalize h37w : pw_w gh58 145 (((4 * l) + 0).toNat) (pw_i (pw_g gh58 145 (((16 + 0) : Int).toNat))) = h37 at h37I h37E ⊢
                          have h37F := E58.tr (h37E.wk (W' := [125, 127, 128, 129, 145, 146, 147, 1002]) (by first | rfl | simp))
                          refine pw_inc E (pc' := 125) (ls' := [some (.ref 141), some (pw_i l), some (pw_i (0 + 1))]) rfl rfl rfl rfl ?_
                          refine pw_goto E (pc' := 98) rfl (by decide) ?_
                          refine pw_ld E (pc' := 99) (st' := [pw_i (0 + 1)]) rfl (fun _ => rfl) ?_
                          refine pw_ld E (pc' := 100) (st' := [pw_i 4, pw_i (0 + 1)]) rfl (fun _ => rfl) ?_
                          refine pw_if2 E (pc' := 128) rfl (by decide) (by decide) (by decide) (by decide) (by decide) ?_ ?_
                          · intro hc38
                            change (4 : Int) ≤ 0 + 1 at hc38
                            exfalso; omega
                          · intro hc39
                            change ¬ ((4 : Int) ≤ 0 + 1) at hc39
                            refine pw_ld E (pc' := 104) (st' := [.ref 141]) rfl (fun _ => rfl) ?_
                            refine pw_getR (b := 161) h37I E (c := 125) (k := 31) (pc' := 107) rfl rfl rfl rfl rfl rfl rfl ?_
                            refine pw_ld E (pc' := 108) (st' := [pw_i 4, .ref 161]) rfl (fun _ => rfl) ?_
                            refine pw_ld E (pc' := 109) (st' := [pw_i l, pw_i 4, .ref 161]) rfl (fun _ => rfl) ?_
                            refine pw_mul E (pc' := 110) rfl rfl ?_
                            refine pw_ld E (pc' := 111) (st' := [pw_i (0 + 1), pw_i (4 * l), .ref 161]) rfl (fun _ => rfl) ?_
                            refine pw_add E (pc' := 112) rfl rfl ?_
                            refine pw_ld E (pc' := 113) (st' := [.ref 141, pw_i ((4 * l) + (0 + 1)), .ref 161]) rfl (fun _ => rfl) ?_
                            refine pw_getR (b := 161) h37I E (c := 125) (k := 31) (pc' := 116) rfl rfl rfl rfl rfl rfl rfl ?_
                            refine pw_bip E (pc' := 118) rfl rfl (by decide) ?_
                            refine pw_ld E (pc' := 119) (st' := [pw_i (0 + 1), pw_i 16, .ref 161, pw_i ((4 * l) + (0 + 1)), .ref 161]) rfl (fun _ => rfl) ?_
                            refine pw_add E (pc' := 120) rfl rfl ?_
                            refine pw_ald2 h37I E (c := 145) (pc' := 121) rfl rfl rfl (by decide) rfl (by decide) (by omega) (by omega) rfl (fun hf40a hf40b => ?_)
                            refine pw_ast0 h37I E (c := 145) (pc' := 122) rfl rfl rfl (by decide) rfl (by decide) (by omega) (by omega) rfl (by omega) (by omega) (by omega) (by omega) rfl ?_
                            intro h41I h41E
                            generalize h41w : pw_w h37 145 (((4 * l) + (0 + 1)).toNat) (pw_i (pw_g h37 145 (((16 + (0 + 1)) : Int).toNat))) = h41 at h41I h41E ⊢
                            have h41F := h37F.tr (h41E.wk (W' := [125, 127, 128, 129, 145, 146, 147, 1002]) (by first | rfl | simp))
                            refine pw_inc E (pc' := 125) (ls' := [some (.ref 141), some (pw_i l), some (pw_i ((0 + 1) + 1))]) rfl rfl rfl rfl ?_
                            refine pw_goto E (pc' := 98) rfl (by decide) ?_
                            refine pw_ld E (pc' := 99) (st' := [pw_i ((0 + 1) + 1)]) rfl (fun _ => rfl) ?_
                            refine pw_ld E (pc' := 100) (st' := [pw_i 4, pw_i ((0 + 1) + 1)]) rfl (fun _ => rfl) ?_
                            refine pw_if2 E (pc' := 128) rfl (by decide) (by decide) (by decide) (by decide) (by decide) ?_ ?_
                            · intro hc42
                              change (4 : Int) ≤ (0 + 1) + 1 at hc42
                              exfalso; omega
                            · intro hc43
                              change ¬ ((4 : Int) ≤ (0 + 1) + 1) at hc43
                              refine pw_ld E (pc' := 104) (st' := [.ref 141]) rfl (fun _ => rfl) ?_
                              refine pw_getR (b := 161) h41I E (c := 125) (k := 31) (pc' := 107) rfl rfl rfl rfl rfl rfl rfl ?_
                              refine pw_ld E (pc' := 108) (st' := [pw_i 4, .ref 161]) rfl (fun _ => rfl) ?_
                              refine pw_ld E (pc' := 109) (st' := [pw_i l, pw_i 4, .ref 161]) rfl (fun _ => rfl) ?_
                              refine pw_mul E (pc' := 110) rfl rfl ?_
                              refine pw_ld E (pc' := 111) (st' := [pw_i ((0 + 1) + 1), pw_i (4 * l), .ref 161]) rfl (fun _ => rfl) ?_
                              refine pw_add E (pc' := 112) rfl rfl ?_
                              refine pw_ld E (pc' := 113) (st' := [.ref 141, pw_i ((4 * l) + ((0 + 1) + 1)), .ref 161]) rfl (fun _ => rfl) ?_
                              refine pw_getR (b := 161) h41I E (c := 125) (k := 31) (pc' := 116) rfl rfl rfl rfl rfl rfl rfl ?_
                              refine pw_bip E (pc' := 118) rfl rfl (by decide) ?_
                              refine pw_ld E (pc' := 119) (st' := [pw_i ((0 + 1) + 1), pw_i 16, .ref 161, pw_i ((4 * l) + ((0 + 1) + 1)), .ref 161]) rfl (fun _ => rfl) ?_
                              refine pw_add E (pc' := 120) rfl rfl ?_
                              refine pw_ald2 h41I E (c := 145) (pc' := 121) rfl rfl rfl (by decide) rfl (by decide) (by omega) (by omega) rfl (fun hf44a hf44b => ?_)
                              refine pw_ast0 h41I E (c := 145) (pc' := 122) rfl rfl rfl (by decide) rfl (by decide) (by omega) (by omega) rfl (by omega) (by omega) (by omega) (by omega) rfl ?_
                              intro h45I h45E
                              generalize h45w : pw_w h41 145 (((4 * l) + ((0 + 1) + 1)).toNat) (pw_i (pw_g h41 145 (((16 + ((0 + 1) + 1)) : Int).toNat))) = h45 at h45I h45E ⊢
                              have h45F := h41F.tr (h45E.wk (W' := [125, 127, 128, 129, 145, 146, 147, 1002]) (by first | rfl | simp))
                              refine pw_inc E (pc' := 125) (ls' := [some (.ref 141), some (pw_i l), some (pw_i (((0 + 1) + 1) + 1))]) rfl rfl rfl rfl ?_
                              refine pw_goto E (pc' := 98) rfl (by decide) ?_
                              refine pw_ld E (pc' := 99) (st' := [pw_i (((0 + 1) + 1) + 1)]) rfl (fun _ => rfl) ?_
                              refine pw_ld E (pc' := 100) (st' := [pw_i 4, pw_i (((0 + 1) + 1) + 1)]) rfl (fun _ => rfl) ?_
                              refine pw_if2 E (pc' := 128) rfl (by decide) (by decide) (by decide) (by decide) (by decide) ?_ ?_
                              · intro hc46
                                change (4 : Int) ≤ ((0 + 1) + 1) + 1 at hc46
                                exfalso; omega
                              · intro hc47
                                change ¬ ((4 : Int) ≤ ((0 + 1) + 1) + 1) at hc47
                                refine pw_ld E (pc' := 104) (st' := [.ref 141]) rfl (fun _ => rfl) ?_
                                refine pw_getR (b := 161) h45I E (c := 125) (k := 31) (pc' := 107) rfl rfl rfl rfl rfl rfl rfl ?_
                                refine pw_ld E (pc' := 108) (st' := [pw_i 4, .ref 161]) rfl (fun _ => rfl) ?_
                                refine pw_ld E (pc' := 109) (st' := [pw_i l, pw_i 4, .ref 161]) rfl (fun _ => rfl) ?_
                                refine pw_mul E (pc' := 110) rfl rfl ?_
                                refine pw_ld E (pc' := 111) (st' := [pw_i (((0 + 1) + 1) + 1), pw_i (4 * l), .ref 161]) rfl (fun _ => rfl) ?_
                                refine pw_add E (pc' := 112) rfl rfl ?_
                                refine pw_ld E (pc' := 113) (st' := [.ref 141, pw_i ((4 * l) + (((0 + 1) + 1) + 1)), .ref 161]) rfl (fun _ => rfl) ?_
                                refine pw_getR (b := 161) h45I E (c := 125) (k := 31) (pc' := 116) rfl rfl rfl rfl rfl rfl rfl ?_
                                refine pw_bip E (pc' := 118) rfl rfl (by decide) ?_
                                refine pw_ld E (pc' := 119) (st' := [pw_i (((0 + 1) + 1) + 1), pw_i 16, .ref 161, pw_i ((4 * l) + (((0 + 1) + 1) + 1)), .ref 161]) rfl (fun _ => rfl) ?_
                                refine pw_add E (pc' := 120) rfl rfl ?_
                                refine pw_ald2 h45I E (c := 145) (pc' := 121) rfl rfl rfl (by decide) rfl (by decide) (by omega) (by omega) rfl (fun hf48a hf48b => ?_)
                                refine pw_ast0 h45I E (c := 145) (pc' := 122) rfl rfl rfl (by decide) rfl (by decide) (by omega) (by omega) rfl (by omega) (by omega) (by omega) (by omega) rfl ?_
                                intro h49I h49E
                                generalize h49w : pw_w h45 145 (((4 * l) + (((0 + 1) + 1) + 1)).toNat) (pw_i (pw_g h45 145 (((16 + (((0 + 1) + 1) + 1)) : Int).toNat))) = h49 at h49I h49E ⊢
                                have h49F := h45F.tr (h49E.wk (W' := [125, 127, 128, 129, 145, 146, 147, 1002]) (by first | rfl | simp))
                                refine pw_inc E (pc' := 125) (ls' := [some (.ref 141), some (pw_i l), some (pw_i ((((0 + 1) + 1) + 1) + 1))]) rfl rfl rfl rfl ?_
                                refine pw_goto E (pc' := 98) rfl (by decide) ?_
                                refine pw_ld E (pc' := 99) (st' := [pw_i ((((0 + 1) + 1) + 1) + 1)]) rfl (fun _ => rfl) ?_
                                refine pw_ld E (pc' := 100) (st' := [pw_i 4, pw_i ((((0 + 1) + 1) + 1) + 1)]) rfl (fun _ => rfl) ?_
                                refine pw_if2 E (pc' := 128) rfl (by decide) (by decide) (by decide) (by decide) (by decide) ?_ ?_
                                · intro hc50
                                  change (4 : Int) ≤ (((0 + 1) + 1) + 1) + 1 at hc50
                                  refine pw_ld E (pc' := 129) (st' := [.ref 141]) rfl (fun _ => rfl) ?_
                                  refine pw_ld E (pc' := 130) (st' := [pw_i l, .ref 141]) rfl (fun _ => rfl) ?_
                                  have he51 : pw_g h49 125 32 = pw_g h45 125 32 := by rw [← h49w]; exact pw_g_ne (by omega)
                                  have he52 : pw_g h45 125 32 = pw_g h41 125 32 := by rw [← h45w]; exact pw_g_ne (by omega)
                                  have he53 : pw_g h41 125 32 = pw_g h37 125 32 := by rw [← h41w]; exact pw_g_ne (by omega)
                                  have he54 : pw_g h37 125 32 = pw_g gh58 125 32 := by rw [← h37w]; exact pw_g_ne (by omega)
                                  obtain ⟨f55l, f55h, -⟩ := pw_obj (c := 125) h49I rfl
                                  refine pw_call (m' := 258) (As := [.ref 141, pw_i l]) (rest := []) (ls'' := [some (.ref 141), some (pw_i l), none]) (Nat.le_trans (by decide) hd) E rfl (fun _ => pw_iV rfl rfl rfl rfl (pw_cellI f55h rfl)) (rfl : pm_ent 258 = some (2, 3, 12, 4, pmc_258)) rfl rfl (cm_258 (pw_dp hd (by decide)) h49I (l) (by omega) (by omega) (by omega) (by omega)) ?_
                                  rintro h56 v57 ⟨h56I, h56E, hqkeep, rfl⟩
                                  refine ⟨_, rfl, ?_⟩
                                  have h56F := h49F.tr (h56E.wk (W' := [125, 127, 128, 129, 145, 146, 147, 1002]) (by first | rfl | simp))
                                  show pw X d h56 237 133 [some (.ref 141), some (pw_i l), some (pw_i ((((0 + 1) + 1) + 1) + 1))] [] _
                                  refine pw_ld E (pc' := 134) (st' := [pw_i 0]) rfl (fun _ => rfl) ?_
                                  refine pw_iret E rfl ?_
                                  have hcp := pw_cp4 (l := l) (by omega) (by omega) I58 h37I h41I h45I h37w h41w h45w h49w
                                  have hl58 : ∀ j : Nat, pw_g h49 146 j = pw_g gh58 146 j := fun j => ((((by rw [← h49w]; exact pw_g_ne (by omega) : pw_g h49 146 j = pw_g h45 146 j)).trans (by rw [← h45w]; exact pw_g_ne (by omega) : pw_g h45 146 j = pw_g h41 146 j)).trans (by rw [← h41w]; exact pw_g_ne (by omega) : pw_g h41 146 j = pw_g h37 146 j)).trans (by rw [← h37w]; exact pw_g_ne (by omega) : pw_g h37 146 j = pw_g gh58 146 j)
                                  have hl59 : ∀ j : Nat, pw_g h49 147 j = pw_g gh58 147 j := fun j => ((((by rw [← h49w]; exact pw_g_ne (by omega) : pw_g h49 147 j = pw_g h45 147 j)).trans (by rw [← h45w]; exact pw_g_ne (by omega) : pw_g h45 147 j = pw_g h41 147 j)).trans (by rw [← h41w]; exact pw_g_ne (by omega) : pw_g h41 147 j = pw_g h37 147 j)).trans (by rw [← h37w]; exact pw_g_ne (by omega) : pw_g h37 147 j = pw_g gh58 147 j)
                                  have hl60 : ∀ j : Nat, pw_g h56 157 j = pw_g gh58 157 j := fun j => (((((pw_Eg (c := 157) h49I h56E rfl rfl j : pw_g h56 157 j = pw_g h49 157 j)).trans (by rw [← h49w]; exact pw_g_ne (by omega) : pw_g h49 157 j = pw_g h45 157 j)).trans (by rw [← h45w]; exact pw_g_ne (by omega) : pw_g h45 157 j = pw_g h41 157 j)).trans (by rw [← h41w]; exact pw_g_ne (by omega) : pw_g h41 157 j = pw_g h37 157 j)).trans (by rw [← h37w]; exact pw_g_ne (by omega) : pw_g h37 157 j = pw_g gh58 157 j)
                                  have hl61 : ∀ j : Nat, pw_g h56 145 j = pw_g h49 145 j := fun j => (pw_Eg (c := 145) h49I h56E rfl rfl j : pw_g h56 145 j = pw_g h49 145 j)
                                  have b9 : pw_g h49 125 32 = pw_g gh58 125 32 := by rw [← h49w, pw_g_ne (by omega), ← h45w, pw_g_ne (by omega), ← h41w, pw_g_ne (by omega), ← h37w, pw_g_ne (by omega)]
                                  have hkc : pw_KC gh58 h56 l (pw_g gh58 125 32) := by rw [← b9]; exact hqkeep.cg hl58 hl59
                                  exact ⟨h56I, h56F, (hp0.of hx58_3.1 hx58_3.2.1 hx58_3.2.2).law (by omega) (by omega) (hx58_2 (by omega)) (by omega) (fun k hk => (hl61 _).trans (hcp.1 k hk)) (fun j _ hj => (hl61 _).trans (hcp.2 j hj)) hkc hl60, ⟨_, rfl, by omega, by omega⟩⟩
                                · intro hc62
                                  change ¬ ((4 : Int) ≤ (((0 + 1) + 1) + 1) + 1) at hc62
                                  exfalso; omega
                      · intro hc63
                        change ¬ (pw_g gh58 125 8 ≤ (0 : Int)) at hc63
                        refine pw_ld E (pc' := 92) (st' := [.ref 141]) rfl (fun _ => rfl) ?_
                        refine pw_getI2 I58 E (c := 125) (k := 8) (pc' := 95) rfl rfl rfl rfl rfl rfl (fun hf64a hf64b => ?_)
                        refine pw_iret E rfl ?_
                        exact ⟨I58, E58, hp0.of hx58_3.1 hx58_3.2.1 hx58_3.2.2, ⟨_, rfl, by omega, by omega⟩⟩
                    · intro hc65
                      change ¬ (pw_g gh58 125 8 ≠ (0 : Int)) at hc65
                      refine pw_ld E (pc' := 66) (st' := [.ref 141]) rfl (fun _ => rfl) ?_
                      refine pw_getR (b := 143) I58 E (c := 125) (k := 4) (pc' := 69) rfl rfl rfl rfl rfl rfl rfl ?_
                      refine pw_ld E (pc' := 70) (st' := [.ref 141, .ref 143]) rfl (fun _ => rfl) ?_
                      refine pw_getI2 I58 E (c := 125) (k := 7) (pc' := 73) rfl rfl rfl rfl rfl rfl (fun hf66a hf66b => ?_)
                      refine pw_ald2 I58 E (c := 127) (pc' := 74) rfl rfl rfl (by decide) rfl (by decide) (by omega) (by omega) rfl (fun hf67a hf67b => ?_)
                      refine pw_if E (pc' := 84) rfl (by decide) (by omega) (by omega) ?_ ?_
                      · intro hc68
                        change pw_g gh58 127 ((pw_g gh58 125 7).toNat) = (0 : Int) at hc68
                        have hA58 : pw_g gh58 125 7 ≤ n ∧ 0 ≤ pw_g gh58 125 8 ∧ 0 ≤ pw_g gh58 125 7 ∧ 0 ≤ pw_g gh58 125 32 := hx58_0.2.2
                        have hn1 : n ≤ 1000 := hx58_0.1
                        refine pw_ld E (pc' := 85) (st' := [.ref 141]) rfl (fun _ => rfl) ?_
                        refine pw_getI2 I58 E (c := 125) (k := 8) (pc' := 88) rfl rfl rfl rfl rfl rfl (fun hf69a hf69b => ?_)
                        refine pw_if E (pc' := 96) rfl (by decide) (by omega) (by omega) ?_ ?_
                        · intro hc70
                          change pw_g gh58 125 8 ≤ (0 : Int) at hc70
                          refine pw_ld E (pc' := 97) (st' := [pw_i 0]) rfl (fun _ => rfl) ?_
                          refine pw_istn E (pc' := 98) (ls' := [some (.ref 141), some (pw_i l), some (pw_i 0)]) rfl rfl rfl rfl ?_
                          refine pw_ld E (pc' := 99) (st' := [pw_i 0]) rfl (fun _ => rfl) ?_
                          refine pw_ld E (pc' := 100) (st' := [pw_i 4, pw_i 0]) rfl (fun _ => rfl) ?_
                          refine pw_if2 E (pc' := 128) rfl (by decide) (by decide) (by decide) (by decide) (by decide) ?_ ?_
                          · intro hc71
                            change (4 : Int) ≤ (0 : Int) at hc71
                            exfalso; omega
                          · intro hc72
                            change ¬ ((4 : Int) ≤ (0 : Int)) at hc72
                            refine pw_ld E (pc' := 104) (st' := [.ref 141]) rfl (fun _ => rfl) ?_
                            refine pw_getR (b := 161) I58 E (c := 125) (k := 31) (pc' := 107) rfl rfl rfl rfl rfl rfl rfl ?_
                            refine pw_ld E (pc' := 108) (st' := [pw_i 4, .ref 161]) rfl (fun _ => rfl) ?_
                            refine pw_ld E (pc' := 109) (st' := [pw_i l, pw_i 4, .ref 161]) rfl (fun _ => rfl) ?_
                            refine pw_mul E (pc' := 110) rfl rfl ?_
                            refine pw_ld E (pc' := 111) (st' := [pw_i 0, pw_i (4 * l), .ref 161]) rfl (fun _ => rfl) ?_
                            refine pw_add E (pc' := 112) rfl rfl ?_
                            refine pw_ld E (pc' := 113) (st' := [.ref 141, pw_i ((4 * l) + 0), .ref 161]) rfl (fun _ => rfl) ?_
                            refine pw_getR (b := 161) I58 E (c := 125) (k := 31) (pc' := 116) rfl rfl rfl rfl rfl rfl rfl ?_
                            refine pw_bip E (pc' := 118) rfl rfl (by decide) ?_
                            refine pw_ld E (pc' := 119) (st' := [pw_i 0, pw_i 16, .ref 161, pw_i ((4 * l) + 0), .ref 161]) rfl (fun _ => rfl) ?_
                            refine pw_add E (pc' := 120) rfl rfl ?_
                            refine pw_ald2 I58 E (c := 145) (pc' := 121) rfl rfl rfl (by decide) rfl (by decide) (by omega) (by omega) rfl (fun hf73a hf73b => ?_)
                            refine pw_ast0 I58 E (c := 145) (pc' := 122) rfl rfl rfl (by decide) rfl (by decide) (by omega) (by omega) rfl (by omega) (by omega) (by omega) (by omega) rfl ?_
                            intro h74I h74E
                            generalize h74w : pw_w gh58 145 (((4 * l) + 0).toNat) (pw_i (pw_g gh58 145 (((16 + 0) : Int).toNat))) = h74 at h74I h74E ⊢
                            have h74F := E58.tr (h74E.wk (W' := [125, 127, 128, 129, 145, 146, 147, 1002]) (by first | rfl | simp))
                            refine pw_inc E (pc' := 125) (ls' := [some (.ref 141), some (pw_i l), some (pw_i (0 + 1))]) rfl rfl rfl rfl ?_
                            refine pw_goto E (pc' := 98) rfl (by decide) ?_
                            refine pw_ld E (pc' := 99) (st' := [pw_i (0 + 1)]) rfl (fun _ => rfl) ?_
                            refine pw_ld E (pc' := 100) (st' := [pw_i 4, pw_i (0 + 1)]) rfl (fun _ => rfl) ?_
                            refine pw_if2 E (pc' := 128) rfl (by decide) (by decide) (by decide) (by decide) (by decide) ?_ ?_
                            · intro hc75
                              change (4 : Int) ≤ 0 + 1 at hc75
                              exfalso; omega
                            · intro hc76
                              change ¬ ((4 : Int) ≤ 0 + 1) at hc76
                              refine pw_ld E (pc' := 104) (st' := [.ref 141]) rfl (fun _ => rfl) ?_
                              refine pw_getR (b := 161) h74I E (c := 125) (k := 31) (pc' := 107) rfl rfl rfl rfl rfl rfl rfl ?_
                              refine pw_ld E (pc' := 108) (st' := [pw_i 4, .ref 161]) rfl (fun _ => rfl) ?_
                              refine pw_ld E (pc' := 109) (st' := [pw_i l, pw_i 4, .ref 161]) rfl (fun _ => rfl) ?_
                              refine pw_mul E (pc' := 110) rfl rfl ?_
                              refine pw_ld E (pc' := 111) (st' := [pw_i (0 + 1), pw_i (4 * l), .ref 161]) rfl (fun _ => rfl) ?_
                              refine pw_add E (pc' := 112) rfl rfl ?_
                              refine pw_ld E (pc' := 113) (st' := [.ref 141, pw_i ((4 * l) + (0 + 1)), .ref 161]) rfl (fun _ => rfl) ?_
                              refine pw_getR (b := 161) h74I E (c := 125) (k := 31) (pc' := 116) rfl rfl rfl rfl rfl rfl rfl ?_
                              refine pw_bip E (pc' := 118) rfl rfl (by decide) ?_
                              refine pw_ld E (pc' := 119) (st' := [pw_i (0 + 1), pw_i 16, .ref 161, pw_i ((4 * l) + (0 + 1)), .ref 161]) rfl (fun _ => rfl) ?_
                              refine pw_add E (pc' := 120) rfl rfl ?_
                              refine pw_ald2 h74I E (c := 145) (pc' := 121) rfl rfl rfl (by decide) rfl (by decide) (by omega) (by omega) rfl (fun hf77a hf77b => ?_)
                              refine pw_ast0 h74I E (c := 145) (pc' := 122) rfl rfl rfl (by decide) rfl (by decide) (by omega) (by omega) rfl (by omega) (by omega) (by omega) (by omega) rfl ?_
                              intro h78I h78E
                              generalize h78w : pw_w h74 145 (((4 * l) + (0 + 1)).toNat) (pw_i (pw_g h74 145 (((16 + (0 + 1)) : Int).toNat))) = h78 at h78I h78E ⊢
                              have h78F := h74F.tr (h78E.wk (W' := [125, 127, 128, 129, 145, 146, 147, 1002]) (by first | rfl | simp))
                              refine pw_inc E (pc' := 125) (ls' := [some (.ref 141), some (pw_i l), some (pw_i ((0 + 1) + 1))]) rfl rfl rfl rfl ?_
                              refine pw_goto E (pc' := 98) rfl (by decide) ?_
                              refine pw_ld E (pc' := 99) (st' := [pw_i ((0 + 1) + 1)]) rfl (fun _ => rfl) ?_
                              refine pw_ld E (pc' := 100) (st' := [pw_i 4, pw_i ((0 + 1) + 1)]) rfl (fun _ => rfl) ?_
                              refine pw_if2 E (pc' := 128) rfl (by decide) (by decide) (by decide) (by decide) (by decide) ?_ ?_
                              · intro hc79
                                change (4 : Int) ≤ (0 + 1) + 1 at hc79
                                exfalso; omega
                              · intro hc80
                                change ¬ ((4 : Int) ≤ (0 + 1) + 1) at hc80
                                refine pw_ld E (pc' := 104) (st' := [.ref 141]) rfl (fun _ => rfl) ?_
                                refine pw_getR (b := 161) h78I E (c := 125) (k := 31) (pc' := 107) rfl rfl rfl rfl rfl rfl rfl ?_
                                refine pw_ld E (pc' := 108) (st' := [pw_i 4, .ref 161]) rfl (fun _ => rfl) ?_
                                refine pw_ld E (pc' := 109) (st' := [pw_i l, pw_i 4, .ref 161]) rfl (fun _ => rfl) ?_
                                refine pw_mul E (pc' := 110) rfl rfl ?_
                                refine pw_ld E (pc' := 111) (st' := [pw_i ((0 + 1) + 1), pw_i (4 * l), .ref 161]) rfl (fun _ => rfl) ?_
                                refine pw_add E (pc' := 112) rfl rfl ?_
                                refine pw_ld E (pc' := 113) (st' := [.ref 141, pw_i ((4 * l) + ((0 + 1) + 1)), .ref 161]) rfl (fun _ => rfl) ?_
                                refine pw_getR (b := 161) h78I E (c := 125) (k := 31) (pc' := 116) rfl rfl rfl rfl rfl rfl rfl ?_
                                refine pw_bip E (pc' := 118) rfl rfl (by decide) ?_
                                refine pw_ld E (pc' := 119) (st' := [pw_i ((0 + 1) + 1), pw_i 16, .ref 161, pw_i ((4 * l) + ((0 + 1) + 1)), .ref 161]) rfl (fun _ => rfl) ?_
                                refine pw_add E (pc' := 120) rfl rfl ?_
                                refine pw_ald2 h78I E (c := 145) (pc' := 121) rfl rfl rfl (by decide) rfl (by decide) (by omega) (by omega) rfl (fun hf81a hf81b => ?_)
                                refine pw_ast0 h78I E (c := 145) (pc' := 122) rfl rfl rfl (by decide) rfl (by decide) (by omega) (by omega) rfl (by omega) (by omega) (by omega) (by omega) rfl ?_
                                intro h82I h82E
                                generalize h82w : pw_w h78 145 (((4 * l) + ((0 + 1) + 1)).toNat) (pw_i (pw_g h78 145 (((16 + ((0 + 1) + 1)) : Int).toNat))) = h82 at h82I h82E ⊢
                                have h82F := h78F.tr (h82E.wk (W' := [125, 127, 128, 129, 145, 146, 147, 1002]) (by first | rfl | simp))
                                refine pw_inc E (pc' := 125) (ls' := [some (.ref 141), some (pw_i l), some (pw_i (((0 + 1) + 1) + 1))]) rfl rfl rfl rfl ?_
                                refine pw_goto E (pc' := 98) rfl (by decide) ?_
                                refine pw_ld E (pc' := 99) (st' := [pw_i (((0 + 1) + 1) + 1)]) rfl (fun _ => rfl) ?_
                                refine pw_ld E (pc' := 100) (st' := [pw_i 4, pw_i (((0 + 1) + 1) + 1)]) rfl (fun _ => rfl) ?_
                                refine pw_if2 E (pc' := 128) rfl (by decide) (by decide) (by decide) (by decide) (by decide) ?_ ?_
                                · intro hc83
                                  change (4 : Int) ≤ ((0 + 1) + 1) + 1 at hc83
                                  exfalso; omega
                                · intro hc84
                                  change ¬ ((4 : Int) ≤ ((0 + 1) + 1) + 1) at hc84
                                  refine pw_ld E (pc' := 104) (st' := [.ref 141]) rfl (fun _ => rfl) ?_
                                  refine pw_getR (b := 161) h82I E (c := 125) (k := 31) (pc' := 107) rfl rfl rfl rfl rfl rfl rfl ?_
                                  refine pw_ld E (pc' := 108) (st' := [pw_i 4, .ref 161]) rfl (fun _ => rfl) ?_
                                  refine pw_ld E (pc' := 109) (st' := [pw_i l, pw_i 4, .ref 161]) rfl (fun _ => rfl) ?_
                                  refine pw_mul E (pc' := 110) rfl rfl ?_
                                  refine pw_ld E (pc' := 111) (st' := [pw_i (((0 + 1) + 1) + 1), pw_i (4 * l), .ref 161]) rfl (fun _ => rfl) ?_
                                  refine pw_add E (pc' := 112) rfl rfl ?_
                                  refine pw_ld E (pc' := 113) (st' := [.ref 141, pw_i ((4 * l) + (((0 + 1) + 1) + 1)), .ref 161]) rfl (fun _ => rfl) ?_
                                  refine pw_getR (b := 161) h82I E (c := 125) (k := 31) (pc' := 116) rfl rfl rfl rfl rfl rfl rfl ?_
                                  refine pw_bip E (pc' := 118) rfl rfl (by decide) ?_
                                  refine pw_ld E (pc' := 119) (st' := [pw_i (((0 + 1) + 1) + 1), pw_i 16, .ref 161, pw_i ((4 * l) + (((0 + 1) + 1) + 1)), .ref 161]) rfl (fun _ => rfl) ?_
                                  refine pw_add E (pc' := 120) rfl rfl ?_
                                  refine pw_ald2 h82I E (c := 145) (pc' := 121) rfl rfl rfl (by decide) rfl (by decide) (by omega) (by omega) rfl (fun hf85a hf85b => ?_)
                                  refine pw_ast0 h82I E (c := 145) (pc' := 122) rfl rfl rfl (by decide) rfl (by decide) (by omega) (by omega) rfl (by omega) (by omega) (by omega) (by omega) rfl ?_
                                  intro h86I h86E
                                  generalize h86w : pw_w h82 145 (((4 * l) + (((0 + 1) + 1) + 1)).toNat) (pw_i (pw_g h82 145 (((16 + (((0 + 1) + 1) + 1)) : Int).toNat))) = h86 at h86I h86E ⊢
                                  have h86F := h82F.tr (h86E.wk (W' := [125, 127, 128, 129, 145, 146, 147, 1002]) (by first | rfl | simp))
                                  refine pw_inc E (pc' := 125) (ls' := [some (.ref 141), some (pw_i l), some (pw_i ((((0 + 1) + 1) + 1) + 1))]) rfl rfl rfl rfl ?_
                                  refine pw_goto E (pc' := 98) rfl (by decide) ?_
                                  refine pw_ld E (pc' := 99) (st' := [pw_i ((((0 + 1) + 1) + 1) + 1)]) rfl (fun _ => rfl) ?_
                                  refine pw_ld E (pc' := 100) (st' := [pw_i 4, pw_i ((((0 + 1) + 1) + 1) + 1)]) rfl (fun _ => rfl) ?_
                                  refine pw_if2 E (pc' := 128) rfl (by decide) (by decide) (by decide) (by decide) (by decide) ?_ ?_
                                  · intro hc87
                                    change (4 : Int) ≤ (((0 + 1) + 1) + 1) + 1 at hc87
                                    refine pw_ld E (pc' := 129) (st' := [.ref 141]) rfl (fun _ => rfl) ?_
                                    refine pw_ld E (pc' := 130) (st' := [pw_i l, .ref 141]) rfl (fun _ => rfl) ?_
                                    have he88 : pw_g h86 125 32 = pw_g h82 125 32 := by rw [← h86w]; exact pw_g_ne (by omega)
                                    have he89 : pw_g h82 125 32 = pw_g h78 125 32 := by rw [← h82w]; exact pw_g_ne (by omega)
                                    have he90 : pw_g h78 125 32 = pw_g h74 125 32 := by rw [← h78w]; exact pw_g_ne (by omega)
                                    have he91 : pw_g h74 125 32 = pw_g gh58 125 32 := by rw [← h74w]; exact pw_g_ne (by omega)
                                    obtain ⟨f92l, f92h, -⟩ := pw_obj (c := 125) h86I rfl
                                    refine pw_call (m' := 258) (As := [.ref 141, pw_i l]) (rest := []) (ls'' := [some (.ref 141), some (pw_i l), none]) (Nat.le_trans (by decide) hd) E rfl (fun _ => pw_iV rfl rfl rfl rfl (pw_cellI f92h rfl)) (rfl : pm_ent 258 = some (2, 3, 12, 4, pmc_258)) rfl rfl (cm_258 (pw_dp hd (by decide)) h86I (l) (by omega) (by omega) (by omega) (by omega)) ?_
                                    rintro h93 v94 ⟨h93I, h93E, hqkeep, rfl⟩
                                    refine ⟨_, rfl, ?_⟩
                                    have h93F := h86F.tr (h93E.wk (W' := [125, 127, 128, 129, 145, 146, 147, 1002]) (by first | rfl | simp))
                                    show pw X d h93 237 133 [some (.ref 141), some (pw_i l), some (pw_i ((((0 + 1) + 1) + 1) + 1))] [] _
                                    refine pw_ld E (pc' := 134) (st' := [pw_i 0]) rfl (fun _ => rfl) ?_
                                    refine pw_iret E rfl ?_
                                    have hcp := pw_cp4 (l := l) (by omega) (by omega) I58 h74I h78I h82I h74w h78w h82w h86w
                                    have hl95 : ∀ j : Nat, pw_g h86 146 j = pw_g gh58 146 j := fun j => ((((by rw [← h86w]; exact pw_g_ne (by omega) : pw_g h86 146 j = pw_g h82 146 j)).trans (by rw [← h82w]; exact pw_g_ne (by omega) : pw_g h82 146 j = pw_g h78 146 j)).trans (by rw [← h78w]; exact pw_g_ne (by omega) : pw_g h78 146 j = pw_g h74 146 j)).trans (by rw [← h74w]; exact pw_g_ne (by omega) : pw_g h74 146 j = pw_g gh58 146 j)
                                    have hl96 : ∀ j : Nat, pw_g h86 147 j = pw_g gh58 147 j := fun j => ((((by rw [← h86w]; exact pw_g_ne (by omega) : pw_g h86 147 j = pw_g h82 147 j)).trans (by rw [← h82w]; exact pw_g_ne (by omega) : pw_g h82 147 j = pw_g h78 147 j)).trans (by rw [← h78w]; exact pw_g_ne (by omega) : pw_g h78 147 j = pw_g h74 147 j)).trans (by rw [← h74w]; exact pw_g_ne (by omega) : pw_g h74 147 j = pw_g gh58 147 j)
                                    have hl97 : ∀ j : Nat, pw_g h93 157 j = pw_g gh58 157 j := fun j => (((((pw_Eg (c := 157) h86I h93E rfl rfl j : pw_g h93 157 j = pw_g h86 157 j)).trans (by rw [← h86w]; exact pw_g_ne (by omega) : pw_g h86 157 j = pw_g h82 157 j)).trans (by rw [← h82w]; exact pw_g_ne (by omega) : pw_g h82 157 j = pw_g h78 157 j)).trans (by rw [← h78w]; exact pw_g_ne (by omega) : pw_g h78 157 j = pw_g h74 157 j)).trans (by rw [← h74w]; exact pw_g_ne (by omega) : pw_g h74 157 j = pw_g gh58 157 j)
                                    have hl98 : ∀ j : Nat, pw_g h93 145 j = pw_g h86 145 j := fun j => (pw_Eg (c := 145) h86I h93E rfl rfl j : pw_g h93 145 j = pw_g h86 145 j)
                                    have b9 : pw_g h86 125 32 = pw_g gh58 125 32 := by rw [← h86w, pw_g_ne (by omega), ← h82w, pw_g_ne (by omega), ← h78w, pw_g_ne (by omega), ← h74w, pw_g_ne (by omega)]
                                    have hkc : pw_KC gh58 h93 l (pw_g gh58 125 32) := by rw [← b9]; exact hqkeep.cg hl95 hl96
                                    exact ⟨h93I, h93F, (hp0.of hx58_3.1 hx58_3.2.1 hx58_3.2.2).law (by omega) (by omega) (hx58_2 (by omega)) (by omega) (fun k hk => (hl98 _).trans (hcp.1 k hk)) (fun j _ hj => (hl98 _).trans (hcp.2 j hj)) hkc hl97, ⟨_, rfl, by omega, by omega⟩⟩
                                  · intro hc99
                                    change ¬ ((4 : Int) ≤ (((0 + 1) + 1) + 1) + 1) at hc99
                                    exfalso; omega
                        · intro hc100
                          change ¬ (pw_g gh58 125 8 ≤ (0 : Int)) at hc100
                          exfalso; omega
                      · intro hc101
                        change ¬ (pw_g gh58 127 ((pw_g gh58 125 7).toNat) = (0 : Int)) at hc101
                        have hA58 : pw_g gh58 125 7 ≤ n ∧ 0 ≤ pw_g gh58 125 8 ∧ 0 ≤ pw_g gh58 125 7 ∧ 0 ≤ pw_g gh58 125 32 := hx58_0.2.2
                        refine pw_ld E (pc' := 78) (st' := [.ref 141]) rfl (fun _ => rfl) ?_
                        obtain ⟨f102l, f102h, -⟩ := pw_obj (c := 125) I58 rfl
                        refine pw_call (m' := 243) (As := [.ref 141]) (rest := []) (ls'' := [some (.ref 141), none, none]) (Nat.le_trans (by decide) hd) E rfl (fun _ => pw_iV rfl rfl rfl rfl (pw_cellI f102h rfl)) (rfl : pm_ent 243 = some (1, 3, 12, 4, pmc_243)) rfl rfl (cm_243 (pw_dp hd (by decide)) I58 hx58_0 (by omega) hx58_2) ?_
                        rintro h103 v104 ⟨h103I, h103E, ⟨rA, rQ, rL, r5⟩, rfl⟩
                        refine ⟨_, rfl, ?_⟩
                        have h103F := E58.tr (h103E.wk (W' := [125, 127, 128, 129, 145, 146, 147, 1002]) (by first | rfl | simp))
                        have rf : pw_g h103 125 7 ≤ n ∧ 0 ≤ pw_g h103 125 8 ∧ 0 ≤ pw_g h103 125 7 ∧ 0 ≤ pw_g h103 125 32 := rA.2.2
                        have rq : pw_g gh58 125 7 - pw_g gh58 125 32 + 0 ≤ pw_g h103 125 7 - pw_g h103 125 32 ∧ pw_g gh58 125 7 ≤ pw_g h103 125 7 := ⟨rQ.2.2.2.1, rQ.2.1⟩
                        have rp : pw_g h103 125 8 = 0 → pw_g gh58 125 7 < pw_g h103 125 7 := fun q => (rL q).2
                        have rO : pw_O gh58 h103 := pw_O.q (by omega) rQ r5 (pw_Eg (c := 157) I58 h103E rfl rfl)
                        show pw X d h103 237 81 [some (.ref 141), some (pw_i l), some (pw_i ((((0 + 1) + 1) + 1) + 1))] [] _
                        refine pw_goto E (pc' := 58) rfl (by decide) ?_
                        exact ih58 _ (by omega)  h103 h103I h103F  rA (by omega) (fun q => (rL q).1) (hx58_3.tr rO) rfl
                have he105 : pw_g h23 125 7 = pw_g h20 125 7 := by rw [← h23w]; exact pw_g_ne (by omega)
                have he106 : pw_g h20 125 7 = pw_g h17 125 7 := by rw [← h20w]; exact pw_g_ne (by omega)
                have he107 : pw_g h17 125 7 = pw_g h14 125 7 := by rw [← h17w]; exact pw_g_ne (by omega)
                have he108 : pw_g h14 125 7 = pw_g h11 125 7 := by rw [← h14w]; exact pw_g_ne (by omega)
                have he109 : pw_g h11 125 7 = pw_g h10 125 7 := by rw [← h11w]; exact pw_g_ne (by omega)
                have he110 : pw_g h10 125 7 = pw_g h8 125 7 := by rw [← h10w]; exact pw_g_ne (by omega)
                have he111 : pw_g h23 125 8 = pw_g h20 125 8 := by rw [← h23w]; exact pw_g_ne (by omega)
                have he112 : pw_g h20 125 8 = pw_g h17 125 8 := by rw [← h20w]; exact pw_g_ne (by omega)
                have he113 : pw_g h17 125 8 = pw_g h14 125 8 := by rw [← h17w]; exact pw_g_ne (by omega)
                have he114 : pw_g h14 125 8 = pw_g h11 125 8 := by rw [← h14w]; exact pw_g_ne (by omega)
                have he115 : pw_g h11 125 8 = pw_g h10 125 8 := by rw [← h11w]; exact pw_g_ne (by omega)
                have he116 : pw_g h10 125 8 = pw_g h8 125 8 := by rw [← h10w]; exact pw_g_ne (by omega)
                have he117 : pw_g h23 125 32 = pw_g h20 125 32 := by rw [← h23w]; exact pw_g_ne (by omega)
                have he118 : pw_g h20 125 32 = pw_g h17 125 32 := by rw [← h20w]; exact pw_g_ne (by omega)
                have he119 : pw_g h17 125 32 = pw_g h14 125 32 := by rw [← h17w]; exact pw_g_ne (by omega)
                have he120 : pw_g h14 125 32 = pw_g h11 125 32 := by rw [← h14w]; exact pw_g_ne (by omega)
                have he121 : pw_g h11 125 32 = pw_g h10 125 32 := by rw [← h11w]; exact pw_g_ne (by omega)
                have he122 : pw_g h10 125 32 = 0 := by rw [← h10w]; exact pw_g_eq (c := 125) (k := 32) h8I rfl rfl (by omega) (by omega)
                exact L58 _  h23 h23I h23F  bA (by omega) (fun _ => bL) bO rfl
              · intro hc123
                change ¬ ((4 : Int) ≤ (((0 + 1) + 1) + 1) + 1) at hc123
                exfalso; omega
    · intro hc124
      change ¬ (x4 ≠ (0 : Int)) at hc124
      exfalso; omega
  · skip
    refine pw_if E (pc' := 21) rfl (by decide) (by omega) (by omega) ?_ ?_
    · intro hc126
      change x4 ≠ (0 : Int) at hc126
      exfalso; omega
    · intro hc127
      change ¬ (x4 ≠ (0 : Int)) at hc127
      refine pw_ld E (pc' := 15) (st' := [.ref 141]) rfl (fun _ => rfl) ?_
      refine pw_ld E (pc' := 16) (st' := [pw_i 0, .ref 141]) rfl (fun _ => rfl) ?_
      refine pw_putP h1I E (k := 2) (pc' := 19) rfl rfl rfl rfl (by omega) (by omega) (by omega) (by omega) rfl rfl ?_
      intro h128I h128E
      generalize h128w : pw_w h1 125 2 (pw_i 0) = h128 at h128I h128E ⊢
      have h128F := h1F.tr (h128E.wk (W' := [125, 127, 128, 129, 145, 146, 147, 1002]) (by first | rfl | simp))
      refine pw_ld E (pc' := 20) (st' := [pw_i ((-1))]) rfl (fun _ => rfl) ?_
      refine pw_iret E rfl ?_
      have hl129 : ∀ j : Nat, pw_g h128 145 j = pw_g h 145 j := fun j => ((by rw [← h128w]; exact pw_g_ne (by omega) : pw_g h128 145 j = pw_g h1 145 j)).trans (by rw [← h1w]; exact pw_g_ne (by omega) : pw_g h1 145 j = pw_g h 145 j)
      have hl130 : ∀ j : Nat, pw_g h128 146 j = pw_g h 146 j := fun j => ((by rw [← h128w]; exact pw_g_ne (by omega) : pw_g h128 146 j = pw_g h1 146 j)).trans (by rw [← h1w]; exact pw_g_ne (by omega) : pw_g h1 146 j = pw_g h 146 j)
      have hl131 : ∀ j : Nat, pw_g h128 147 j = pw_g h 147 j := fun j => ((by rw [← h128w]; exact pw_g_ne (by omega) : pw_g h128 147 j = pw_g h1 147 j)).trans (by rw [← h1w]; exact pw_g_ne (by omega) : pw_g h1 147 j = pw_g h 147 j)
      have hl132 : ∀ j : Nat, pw_g h128 157 j = pw_g h 157 j := fun j => ((by rw [← h128w]; exact pw_g_ne (by omega) : pw_g h128 157 j = pw_g h1 157 j)).trans (by rw [← h1w]; exact pw_g_ne (by omega) : pw_g h1 157 j = pw_g h 157 j)
      exact ⟨h128I, h128F, hp0.cg hl129 hl130 hl131 hl132, ⟨_, rfl, by omega, by omega⟩⟩
