section
/-! odds of the model, exactly -/
set_option maxHeartbeats 4000000 in
theorem cm_233_s {X : List (Nat × List Value)} {d : Nat} {h : pm_H} (hd : 5 ≤ d) (I : pw_I h) (b : Int) (hb1 : (-2147483648) ≤ b) (hb2 : b ≤ 2147483647) (e : Int) (he1 : (-2147483648) ≤ e) (he2 : e ≤ 2147483647) (wt : Int) (hwt1 : (-2147483648) ≤ wt) (hwt2 : wt ≤ 2147483647) : pw X d h 233 0 [some (.ref 141), some (pw_i b), some (pw_i e), some (pw_i wt), none, none, none, none, none, none, none, none, none, none, none, none, none, none, none, none, none, none, none] [] (fun h' v => pw_I h' ∧ pw_E [125, 144] h h' ∧ ∃ a : Int, v = .inl (some (.long (Int64.ofInt a))) ∧ (-1099511627776) ≤ a ∧ a ≤ 1099511627776 ∧ ((((0 ≤ b ∧ b ≤ 11 ∧ 0 ≤ e ∧ e ≤ 11 ∧ b ≠ e ∧ 0 ≤ wt ∧ wt ≤ 1) ∧ pv_OK (pv_sdm h b e) ∧ po_A (pv_sdm h b e) ≤ 14) ∧ a = pv_LW (po_X (pv_sdm h b e) (pv_chm h b e)) (po_Y (pv_sdm h b e)) wt) ∨ (¬ ((0 ≤ b ∧ b ≤ 11 ∧ 0 ≤ e ∧ e ≤ 11 ∧ b ≠ e ∧ 0 ≤ wt ∧ wt ≤ 1) ∧ pv_OK (pv_sdm h b e) ∧ po_A (pv_sdm h b e) ≤ 14) ∧ a = -1))) := by
  have E : pm_ent 233 = some (4, 23, 12, 2, pmc_233) := rfl
  have E0 : pw_E [125, 144] h h := pw_E.rf _ _
  refine pw_ld E (pc' := 1) (st' := [.ref 141]) rfl (fun _ => rfl) ?_
  refine pw_ld E (pc' := 2) (st' := [pw_i 0, .ref 141]) rfl (fun _ => rfl) ?_
  refine pw_putI I E (c := 125) (k := 0) (pc' := 5) rfl rfl rfl rfl (by omega) (by omega) (by omega) (by omega) rfl rfl ?_
  intro h1I h1E
  generalize h1w : pw_w h 125 0 (pw_i 0) = h1 at h1I h1E ⊢
  have h1F := E0.tr (h1E.wk (W' := [125, 144]) (by first | rfl | simp))
  refine pw_ld E (pc' := 6) (st' := [pw_i b]) rfl (fun _ => rfl) ?_
  refine pw_ld E (pc' := 7) (st' := [pw_i e, pw_i b]) rfl (fun _ => rfl) ?_
  refine pw_call (m' := 213) (As := [pw_i b, pw_i e]) (rest := []) (ls'' := [some (pw_i b), some (pw_i e)]) (Nat.le_trans (by decide) hd) E rfl (fun _ => pw_iS rfl rfl rfl) (rfl : pm_ent 213 = some (2, 2, 12, 1, pmc_213)) rfl rfl (cm_213_s (pw_dp hd (by decide)) h1I (b) (by omega) (by omega) (e) (by omega) (by omega)) ?_
  rintro u3 v2 ⟨rfl, x4, rfl, hx4a, hx4b, hx4r⟩
  refine ⟨_, rfl, ?_⟩
  show pw X d h1 233 10 [some (.ref 141), some (pw_i b), some (pw_i e), some (pw_i wt), none, none, none, none, none, none, none, none, none, none, none, none, none, none, none, none, none, none, none] [pw_i x4] _
  change (x4 = 1 ∧ 0 ≤ b ∧ b ≤ 11 ∧ 0 ≤ e ∧ e ≤ 11 ∧ b ≠ e) ∨ (x4 = 0 ∧ ¬ (0 ≤ b ∧ b ≤ 11 ∧ 0 ≤ e ∧ e ≤ 11 ∧ b ≠ e)) at hx4r
  rcases (by omega : x4 = 1 ∨ x4 = 0) with hb5 | hb5
  · skip
    refine pw_if E (pc' := 46) rfl (by decide) (by omega) (by omega) ?_ ?_
    · intro hc6
      change x4 = (0 : Int) at hc6
      exfalso; omega
    · intro hc7
      change ¬ (x4 = (0 : Int)) at hc7
      refine pw_ld E (pc' := 14) (st' := [pw_i wt]) rfl (fun _ => rfl) ?_
      refine pw_call (m' := 217) (As := [pw_i wt]) (rest := []) (ls'' := [some (pw_i wt)]) (Nat.le_trans (by decide) hd) E rfl (fun _ => pw_iS rfl rfl rfl) (rfl : pm_ent 217 = some (1, 1, 12, 1, pmc_217)) rfl rfl (cm_217 (pw_dp hd (by decide)) h1I (wt) (by omega) (by omega)) ?_
      rintro u9 v8 ⟨rfl, x10, rfl, hx10a, hx10b, hx10r⟩
      refine ⟨_, rfl, ?_⟩
      show pw X d h1 233 17 [some (.ref 141), some (pw_i b), some (pw_i e), some (pw_i wt), none, none, none, none, none, none, none, none, none, none, none, none, none, none, none, none, none, none, none] [pw_i x10] _
      change (x10 = 1 ∧ 0 ≤ wt ∧ wt ≤ 1) ∨ (x10 = 0 ∧ ¬ (0 ≤ wt ∧ wt ≤ 1)) at hx10r
      rcases (by omega : x10 = 1 ∨ x10 = 0) with hb11 | hb11
      · skip
        refine pw_if E (pc' := 46) rfl (by decide) (by omega) (by omega) ?_ ?_
        · intro hc12
          change x10 = (0 : Int) at hc12
          exfalso; omega
        · intro hc13
          change ¬ (x10 = (0 : Int)) at hc13
          refine pw_ld E (pc' := 21) (st' := [.ref 141]) rfl (fun _ => rfl) ?_
          refine pw_ld E (pc' := 22) (st' := [pw_i b, .ref 141]) rfl (fun _ => rfl) ?_
          refine pw_ld E (pc' := 23) (st' := [pw_i e, pw_i b, .ref 141]) rfl (fun _ => rfl) ?_
          refine pw_ld E (pc' := 24) (st' := [pw_i ((-1)), pw_i e, pw_i b, .ref 141]) rfl (fun _ => rfl) ?_
          obtain ⟨eS0, eC0⟩ := po_sdmE (b := b) (e := e) I h1F rfl
          obtain ⟨f14l, f14h, -⟩ := pw_obj (c := 125) h1I rfl
          refine pw_call (m' := 218) (As := [.ref 141, pw_i b, pw_i e, pw_i ((-1))]) (rest := []) (ls'' := [some (.ref 141), some (pw_i b), some (pw_i e), some (pw_i ((-1))), none]) (Nat.le_trans (by decide) hd) E rfl (fun _ => pw_iV rfl rfl rfl rfl (pw_cellI f14h rfl)) (rfl : pm_ent 218 = some (4, 5, 12, 1, pmc_218)) rfl rfl (cm_218_s (pw_dp hd (by decide)) h1I (b) (by omega) (by omega) (e) (by omega) (by omega) ((-1)) (by omega) (by omega)) ?_
          rintro h15 v16 ⟨h15I, h15E, x17, rfl, hx17a, hx17b, hx17r⟩
          refine ⟨_, rfl, ?_⟩
          have h15F := h1F.tr (h15E.wk (W' := [125, 144]) (by first | rfl | simp))
          show pw X d h15 233 27 [some (.ref 141), some (pw_i b), some (pw_i e), some (pw_i wt), none, none, none, none, none, none, none, none, none, none, none, none, none, none, none, none, none, none, none] [pw_i x17] _
          change ((x17 = 1 ∧ pv_OK (pv_lo (pv_sdm h1 b e) (-1))) ∨ (x17 = 0 ∧ ¬ pv_OK (pv_lo (pv_sdm h1 b e) (-1)))) ∧ pw_gm h15 125 24 = pv_U (pv_lo (pv_sdm h1 b e) (-1)) (pv_chm h1 b e) ∧ pw_gm h15 125 25 = pv_D (pv_lo (pv_sdm h1 b e) (-1)) ∧ pw_gm h15 125 26 = pv_S (pv_lo (pv_sdm h1 b e) (-1)) (pv_chm h1 b e) 0 24 ∧ pw_gm h15 125 27 = pv_N (pv_lo (pv_sdm h1 b e) (-1)) 0 24 ∧ pw_gm h15 125 28 = pv_S (pv_lo (pv_sdm h1 b e) (-1)) (pv_chm h1 b e) 1 24 ∧ pw_gm h15 125 29 = pv_N (pv_lo (pv_sdm h1 b e) (-1)) 1 24 at hx17r
          rcases (by omega : x17 = 1 ∨ x17 = 0) with hb18 | hb18
          · skip
            refine pw_if E (pc' := 46) rfl (by decide) (by omega) (by omega) ?_ ?_
            · intro hc19
              change x17 = (0 : Int) at hc19
              exfalso; omega
            · intro hc20
              change ¬ (x17 = (0 : Int)) at hc20
              refine pw_ld E (pc' := 31) (st' := [.ref 141]) rfl (fun _ => rfl) ?_
              refine pw_getM h15I E (c := 125) (k := 27) (pc' := 34) rfl rfl rfl rfl rfl rfl (fun hf21a hf21b => ?_)
              refine pw_ld E (pc' := 35) (st' := [.ref 141, .long (Int64.ofInt (pw_gm h15 125 27))]) rfl (fun _ => rfl) ?_
              refine pw_getM h15I E (c := 125) (k := 29) (pc' := 38) rfl rfl rfl rfl rfl rfl (fun hf22a hf22b => ?_)
              refine pw_ladd E (pc' := 39) rfl rfl ?_
              refine pw_ld E (pc' := 42) (st' := [.long (Int64.ofInt 14), .long (Int64.ofInt ((pw_gm h15 125 27) + (pw_gm h15 125 29)))]) rfl (fun _ => rfl) ?_
              refine pw_lcmpC E (pc' := 43) rfl rfl (by omega) (by omega) (by omega) (by omega) (fun c23 hc23 => ?_)
              refine pw_if E (pc' := 50) rfl (by decide) (by omega) (by omega) ?_ ?_
              · intro hc24
                change c23 ≤ (0 : Int) at hc24
                rw [pv_lo_no, eS0, eC0] at hx17r
                obtain ⟨r1, r2, r3, r4, r5, r6, r7⟩ := hx17r
                have hok := (r1.resolve_right (fun q => by have := q.1; omega)).2
                have ho1 := hok.1
                have ho2 := hok.2
                have hbm : ∀ k : Nat, k < 24 → (pv_sdm h b e) k ≠ -1 → -2000 ≤ (pv_chm h b e) k ∧ (pv_chm h b e) k ≤ 2000 := fun k hk _ => pv_chmB I (by omega) (by omega) (by omega) (by omega) k hk
                have hUB := pv_UB (sd := pv_sdm h b e) (ch := pv_chm h b e) (pv_chmB I (by omega) (by omega) (by omega) (by omega))
                have hN0 := pv_NB (sd := pv_sdm h b e) (s := 0) 24
                have hN1 := pv_NB (sd := pv_sdm h b e) (s := 1) 24
                have hS0 := pv_SB (sd := pv_sdm h b e) (ch := pv_chm h b e) (s := 0) 24 (fun k hk _ => pv_chmB I (by omega) (by omega) (by omega) (by omega) k hk)
                have hS1 := pv_SB (sd := pv_sdm h b e) (ch := pv_chm h b e) (s := 1) 24 (fun k hk _ => pv_chmB I (by omega) (by omega) (by omega) (by omega) k hk)
                have eA : po_A (pv_sdm h b e) = pw_gm h15 125 27 + pw_gm h15 125 29 := by unfold po_A; rw [← r5, ← r7]
                have eT : po_T (pv_sdm h b e) (pv_chm h b e) = (pw_gm h15 125 26 + pw_gm h15 125 28) * pw_gm h15 125 27 := by unfold po_T; rw [← r4, ← r6, ← r5]
                have eO : po_O (pv_sdm h b e) (pv_chm h b e) = pw_lab (pw_gm h15 125 24) := by rw [po_UO, r2]
                have lbO := pw_labB (a := pw_gm h15 125 24) (A := 2304000) (by omega) (by omega)
                have hMA : pc_M (pv_sdm h b e) 24 = po_A (pv_sdm h b e) := pc_MN 24 (po_sdm3 I)
                have hp2A := pw_p2_r (a := po_A (pv_sdm h b e)) (by omega) (by omega)
                refine pw_ld E (pc' := 51) (st' := [.ref 141]) rfl (fun _ => rfl) ?_
                refine pw_getLM h15I E (c := 125) (k := 24) (pc' := 54) rfl rfl rfl rfl rfl rfl ?_
                refine pw_ld E (pc' := 55) (st' := [.long (Int64.ofInt 0), .long (Int64.ofInt (pw_gm h15 125 24))]) rfl (fun _ => rfl) ?_
                refine pw_lcmpC E (pc' := 56) rfl rfl (by omega) (by omega) (by omega) (by omega) (fun c25 hc25 => ?_)
                refine pw_if E (pc' := 67) rfl (by decide) (by omega) (by omega) ?_ ?_
                · intro hc26
                  change (0 : Int) ≤ c25 at hc26
                  refine pw_ld E (pc' := 68) (st' := [.ref 141]) rfl (fun _ => rfl) ?_
                  refine pw_getLM h15I E (c := 125) (k := 24) (pc' := 71) rfl rfl rfl rfl rfl rfl ?_
                  have hfar : pw_gm h15 125 24 = po_O (pv_sdm h b e) (pv_chm h b e) := by rw [eO]; omega
                  refine pw_lst E (pc' := 73) (ls' := [some (.ref 141), some (pw_i b), some (pw_i e), some (pw_i wt), some (.long (Int64.ofInt (pw_gm h15 125 24))), none, none, none, none, none, none, none, none, none, none, none, none, none, none, none, none, none, none]) rfl rfl rfl rfl ?_
                  refine pw_ld E (pc' := 74) (st' := [.ref 141]) rfl (fun _ => rfl) ?_
                  refine pw_getM h15I E (c := 125) (k := 27) (pc' := 77) rfl rfl rfl rfl rfl rfl (fun hf27a hf27b => ?_)
                  refine pw_lst E (pc' := 79) (ls' := [some (.ref 141), some (pw_i b), some (pw_i e), some (pw_i wt), some (.long (Int64.ofInt (pw_gm h15 125 24))), none, some (.long (Int64.ofInt (pw_gm h15 125 27))), none, none, none, none, none, none, none, none, none, none, none, none, none, none, none, none]) rfl rfl rfl rfl ?_
                  refine pw_ld E (pc' := 80) (st' := [.ref 141]) rfl (fun _ => rfl) ?_
                  refine pw_getM h15I E (c := 125) (k := 29) (pc' := 83) rfl rfl rfl rfl rfl rfl (fun hf28a hf28b => ?_)
                  refine pw_lst E (pc' := 85) (ls' := [some (.ref 141), some (pw_i b), some (pw_i e), some (pw_i wt), some (.long (Int64.ofInt (pw_gm h15 125 24))), none, some (.long (Int64.ofInt (pw_gm h15 125 27))), none, some (.long (Int64.ofInt (pw_gm h15 125 29))), none, none, none, none, none, none, none, none, none, none, none, none, none, none]) rfl rfl rfl rfl ?_
                  refine pw_ld E (pc' := 86) (st' := [.ref 141]) rfl (fun _ => rfl) ?_
                  refine pw_getLM h15I E (c := 125) (k := 26) (pc' := 89) rfl rfl rfl rfl rfl rfl ?_
                  refine pw_ld E (pc' := 90) (st' := [.ref 141, .long (Int64.ofInt (pw_gm h15 125 26))]) rfl (fun _ => rfl) ?_
                  refine pw_getLM h15I E (c := 125) (k := 28) (pc' := 93) rfl rfl rfl rfl rfl rfl ?_
                  refine pw_ladd E (pc' := 94) rfl rfl ?_
                  refine pw_lst E (pc' := 96) (ls' := [some (.ref 141), some (pw_i b), some (pw_i e), some (pw_i wt), some (.long (Int64.ofInt (pw_gm h15 125 24))), none, some (.long (Int64.ofInt (pw_gm h15 125 27))), none, some (.long (Int64.ofInt (pw_gm h15 125 29))), none, some (.long (Int64.ofInt ((pw_gm h15 125 26) + (pw_gm h15 125 28)))), none, none, none, none, none, none, none, none, none, none, none, none]) rfl rfl rfl rfl ?_
                  refine pw_ld E (pc' := 97) (st' := [pw_i 0]) rfl (fun _ => rfl) ?_
                  refine pw_ist E (pc' := 99) (ls' := [some (.ref 141), some (pw_i b), some (pw_i e), some (pw_i wt), some (.long (Int64.ofInt (pw_gm h15 125 24))), none, some (.long (Int64.ofInt (pw_gm h15 125 27))), none, some (.long (Int64.ofInt (pw_gm h15 125 29))), none, some (.long (Int64.ofInt ((pw_gm h15 125 26) + (pw_gm h15 125 28)))), none, some (pw_i 0), none, none, none, none, none, none, none, none, none, none]) rfl rfl rfl rfl ?_
                  refine pw_ld E (pc' := 100) (st' := [pw_i 0]) rfl (fun _ => rfl) ?_
                  refine pw_ist E (pc' := 102) (ls' := [some (.ref 141), some (pw_i b), some (pw_i e), some (pw_i wt), some (.long (Int64.ofInt (pw_gm h15 125 24))), none, some (.long (Int64.ofInt (pw_gm h15 125 27))), none, some (.long (Int64.ofInt (pw_gm h15 125 29))), none, some (.long (Int64.ofInt ((pw_gm h15 125 26) + (pw_gm h15 125 28)))), none, some (pw_i 0), some (pw_i 0), none, none, none, none, none, none, none, none, none]) rfl rfl rfl rfl ?_
                  have L102 : ∀ (n102 : Nat) (k102_12 : Int) (k102_13 : Int) (gh102 : pm_H), pw_I gh102 → pw_E [125, 144] h gh102 → 0 ≤ k102_12 → k102_12 ≤ 24 → 0 ≤ k102_13 → k102_13 ≤ 24 → k102_12 ≤ k102_13 → k102_12 = pc_M (pv_sdm h b e) (k102_13).toNat → pc_BA (pv_sdm h b e) (pv_chm h b e) (pw_g gh102 144) k102_13 → (24 - k102_13).toNat = n102 → pw X d gh102 233 102 [some (.ref 141), some (pw_i b), some (pw_i e), some (pw_i wt), some (.long (Int64.ofInt (pw_gm h15 125 24))), none, some (.long (Int64.ofInt (pw_gm h15 125 27))), none, some (.long (Int64.ofInt (pw_gm h15 125 29))), none, some (.long (Int64.ofInt ((pw_gm h15 125 26) + (pw_gm h15 125 28)))), none, some (pw_i k102_12), some (pw_i k102_13), none, none, none, none, none, none, none, none, none] [] (fun h' v => pw_I h' ∧ pw_E [125, 144] h h' ∧ ∃ a : Int, v = .inl (some (.long (Int64.ofInt a))) ∧ (-1099511627776) ≤ a ∧ a ≤ 1099511627776 ∧ ((((0 ≤ b ∧ b ≤ 11 ∧ 0 ≤ e ∧ e ≤ 11 ∧ b ≠ e ∧ 0 ≤ wt ∧ wt ≤ 1) ∧ pv_OK (pv_sdm h b e) ∧ po_A (pv_sdm h b e) ≤ 14) ∧ a = pv_LW (po_X (pv_sdm h b e) (pv_chm h b e)) (po_Y (pv_sdm h b e)) wt) ∨ (¬ ((0 ≤ b ∧ b ≤ 11 ∧ 0 ≤ e ∧ e ≤ 11 ∧ b ≠ e ∧ 0 ≤ wt ∧ wt ≤ 1) ∧ pv_OK (pv_sdm h b e) ∧ po_A (pv_sdm h b e) ≤ 14) ∧ a = -1))) := by
                    intro n102
                    induction n102 using Nat.strongRecOn with
                    | ind n102 ih102 =>
                      intro k102_12 k102_13 gh102 I102 E102 k102_12a k102_12b k102_13a k102_13b hx102_0 hx102_1 hx102_2 hm102
                      refine pw_ld E (pc' := 104) (st' := [pw_i k102_13]) rfl (fun _ => rfl) ?_
                      refine pw_bip E (pc' := 106) rfl rfl (by decide) ?_
                      refine pw_if2 E (pc' := 144) rfl (by decide) (by omega) (by omega) (by decide) (by decide) ?_ ?_
                      · intro hc29
                        change (24 : Int) ≤ k102_13 at hc29
                        have hBA : pc_BA (pv_sdm h b e) (pv_chm h b e) (pw_g gh102 144) 24 := by rw [show (24 : Int) = k102_13 by omega]; exact hx102_2
                        rw [show (k102_13).toNat = 24 by omega] at hx102_1
                        have hA : k102_12 = po_A (pv_sdm h b e) := by omega
                        have hpA : pw_p2 k102_12 = pw_p2 (po_A (pv_sdm h b e)) := by rw [hA]
                        refine pw_ld E (pc' := 145) (st' := [.long (Int64.ofInt 0)]) rfl (fun _ => rfl) ?_
                        refine pw_lst E (pc' := 147) (ls' := [some (.ref 141), some (pw_i b), some (pw_i e), some (pw_i wt), some (.long (Int64.ofInt (pw_gm h15 125 24))), none, some (.long (Int64.ofInt (pw_gm h15 125 27))), none, some (.long (Int64.ofInt (pw_gm h15 125 29))), none, some (.long (Int64.ofInt ((pw_gm h15 125 26) + (pw_gm h15 125 28)))), none, some (pw_i k102_12), some (.long (Int64.ofInt 0)), none, none, none, none, none, none, none, none, none]) rfl rfl rfl rfl ?_
                        refine pw_ld E (pc' := 148) (st' := [.long (Int64.ofInt 0)]) rfl (fun _ => rfl) ?_
                        refine pw_lst E (pc' := 150) (ls' := [some (.ref 141), some (pw_i b), some (pw_i e), some (pw_i wt), some (.long (Int64.ofInt (pw_gm h15 125 24))), none, some (.long (Int64.ofInt (pw_gm h15 125 27))), none, some (.long (Int64.ofInt (pw_gm h15 125 29))), none, some (.long (Int64.ofInt ((pw_gm h15 125 26) + (pw_gm h15 125 28)))), none, some (pw_i k102_12), some (.long (Int64.ofInt 0)), none, some (.long (Int64.ofInt 0)), none, none, none, none, none, none, none]) rfl rfl rfl rfl ?_
                        refine pw_ld E (pc' := 151) (st' := [pw_i 0]) rfl (fun _ => rfl) ?_
                        refine pw_ist E (pc' := 153) (ls' := [some (.ref 141), some (pw_i b), some (pw_i e), some (pw_i wt), some (.long (Int64.ofInt (pw_gm h15 125 24))), none, some (.long (Int64.ofInt (pw_gm h15 125 27))), none, some (.long (Int64.ofInt (pw_gm h15 125 29))), none, some (.long (Int64.ofInt ((pw_gm h15 125 26) + (pw_gm h15 125 28)))), none, some (pw_i k102_12), some (.long (Int64.ofInt 0)), none, some (.long (Int64.ofInt 0)), none, some (pw_i 0), none, none, none, none, none]) rfl rfl rfl rfl ?_
                        have L153 : ∀ (n153 : Nat) (k153_13 : Int) (k153_15 : Int) (k153_17 : Int) (k153_18 : Option Value) (k153_19 : Option Value) (k153_21 : Option Value), 0 ≤ k153_13 → k153_13 ≤ 16384 → 0 ≤ k153_15 → k153_15 ≤ 16384 → 0 ≤ k153_17 → k153_17 ≤ 16384 → k153_15 = po_W (pv_N (pv_sdm h b e) 0 24) (po_A (pv_sdm h b e)).toNat (k153_17).toNat → k153_13 = po_F (pc_B (pv_sdm h b e) (pv_chm h b e) 24) (po_A (pv_sdm h b e)) (po_T (pv_sdm h b e) (pv_chm h b e)) (po_O (pv_sdm h b e) (pv_chm h b e)) (pv_N (pv_sdm h b e) 0 24) (po_A (pv_sdm h b e)).toNat (k153_17).toNat → k153_13 ≤ k153_15 → k153_15 ≤ k153_17 → k153_17 ≤ pw_p2 (po_A (pv_sdm h b e)) → (16384 - k153_17).toNat = n153 → pw X d gh102 233 153 [some (.ref 141), some (pw_i b), some (pw_i e), some (pw_i wt), some (.long (Int64.ofInt (pw_gm h15 125 24))), none, some (.long (Int64.ofInt (pw_gm h15 125 27))), none, some (.long (Int64.ofInt (pw_gm h15 125 29))), none, some (.long (Int64.ofInt ((pw_gm h15 125 26) + (pw_gm h15 125 28)))), none, some (pw_i k102_12), some (.long (Int64.ofInt k153_13)), none, some (.long (Int64.ofInt k153_15)), none, some (pw_i k153_17), k153_18, k153_19, none, k153_21, none] [] (fun h' v => pw_I h' ∧ pw_E [125, 144] h h' ∧ ∃ a : Int, v = .inl (some (.long (Int64.ofInt a))) ∧ (-1099511627776) ≤ a ∧ a ≤ 1099511627776 ∧ ((((0 ≤ b ∧ b ≤ 11 ∧ 0 ≤ e ∧ e ≤ 11 ∧ b ≠ e ∧ 0 ≤ wt ∧ wt ≤ 1) ∧ pv_OK (pv_sdm h b e) ∧ po_A (pv_sdm h b e) ≤ 14) ∧ a = pv_LW (po_X (pv_sdm h b e) (pv_chm h b e)) (po_Y (pv_sdm h b e)) wt) ∨ (¬ ((0 ≤ b ∧ b ≤ 11 ∧ 0 ≤ e ∧ e ≤ 11 ∧ b ≠ e ∧ 0 ≤ wt ∧ wt ≤ 1) ∧ pv_OK (pv_sdm h b e) ∧ po_A (pv_sdm h b e) ≤ 14) ∧ a = -1))) := by
                          intro n153
                          induction n153 using Nat.strongRecOn with
                          | ind n153 ih153 =>
                            intro k153_13 k153_15 k153_17 k153_18 k153_19 k153_21 k153_13a k153_13b k153_15a k153_15b k153_17a k153_17b hx153_0 hx153_1 hx153_2 hx153_3 hx153_4 hm153
                            refine pw_ld E (pc' := 155) (st' := [pw_i k153_17]) rfl (fun _ => rfl) ?_
                            refine pw_ld E (pc' := 156) (st' := [pw_i 1, pw_i k153_17]) rfl (fun _ => rfl) ?_
                            refine pw_ld E (pc' := 158) (st' := [pw_i k102_12, pw_i 1, pw_i k153_17]) rfl (fun _ => rfl) ?_
                            refine pw_shlE E (pc' := 159) rfl rfl (by omega) (by omega) ?_
                            have hp30 := pw_p2_r (a := k102_12) (by omega) (by omega)
                            refine pw_if2 E (pc' := 288) rfl (by decide) (by omega) (by omega) (by omega) (by omega) ?_ ?_
                            · intro hc31
                              change pw_p2 k102_12 ≤ k153_17 at hc31
                              have hK : (k153_17).toNat = 2 ^ (po_A (pv_sdm h b e)).toNat := po_p2E (by omega) (by omega)
                              rw [hK] at hx153_0 hx153_1
                              have eY : k153_15 = po_Y (pv_sdm h b e) := hx153_0
                              have eX : k153_13 = po_X (pv_sdm h b e) (pv_chm h b e) := hx153_1
                              have hXB := po_XB (sd := pv_sdm h b e) (ch := pv_chm h b e) hok (by omega)
                              refine pw_ld E (pc' := 289) (st' := [.ref 141]) rfl (fun _ => rfl) ?_
                              refine pw_ld E (pc' := 291) (st' := [.long (Int64.ofInt k153_13), .ref 141]) rfl (fun _ => rfl) ?_
                              refine pw_putL I102 E (c := 125) (k := 24) (pc' := 294) rfl rfl rfl rfl rfl rfl ?_
                              intro h32I h32E
                              generalize h32w : pw_w gh102 125 24 (.long (Int64.ofInt k153_13)) = h32 at h32I h32E ⊢
                              have h32F := E102.tr (h32E.wk (W' := [125, 144]) (by first | rfl | simp))
                              refine pw_ld E (pc' := 295) (st' := [.ref 141]) rfl (fun _ => rfl) ?_
                              refine pw_ld E (pc' := 297) (st' := [.long (Int64.ofInt k153_15), .ref 141]) rfl (fun _ => rfl) ?_
                              refine pw_putM h32I E (c := 125) (k := 25) (pc' := 300) rfl rfl rfl rfl (by omega) (by omega) (by omega) (by omega) rfl rfl ?_
                              intro h33I h33E
                              generalize h33w : pw_w h32 125 25 (.long (Int64.ofInt k153_15)) = h33 at h33I h33E ⊢
                              have h33F := h32F.tr (h33E.wk (W' := [125, 144]) (by first | rfl | simp))
                              refine pw_ld E (pc' := 301) (st' := [.ref 141]) rfl (fun _ => rfl) ?_
                              refine pw_ld E (pc' := 302) (st' := [pw_i wt, .ref 141]) rfl (fun _ => rfl) ?_
                              have he34 : pw_gm h33 125 24 = pw_gm h32 125 24 := by rw [← h33w]; exact pw_gm_ne (by omega)
                              have he35 : pw_gm h32 125 24 = k153_13 := by rw [← h32w]; exact pw_gm_eq (c := 125) (k := 24) I102 rfl rfl (by omega) (by omega)
                              have he36 : pw_gm h33 125 25 = k153_15 := by rw [← h33w]; exact pw_gm_eq (c := 125) (k := 25) h32I rfl rfl (by omega) (by omega)
                              obtain ⟨f37l, f37h, -⟩ := pw_obj (c := 125) h33I rfl
                              refine pw_call (m' := 222) (As := [.ref 141, pw_i wt]) (rest := []) (ls'' := [some (.ref 141), some (pw_i wt), none, none]) (Nat.le_trans (by decide) hd) E rfl (fun _ => pw_iV rfl rfl rfl rfl (pw_cellI f37h rfl)) (rfl : pm_ent 222 = some (2, 4, 12, 2, pmc_222)) rfl rfl (cm_222_g (pw_dp hd (by decide)) h33I (wt) (by omega) (by omega) (by omega) (by omega) (by omega) (by omega)) ?_
                              rintro u39 v38 ⟨rfl, x40, rfl, hx40a, hx40b, hx40r⟩
                              refine ⟨_, rfl, ?_⟩
                              show pw X d h33 233 305 [some (.ref 141), some (pw_i b), some (pw_i e), some (pw_i wt), some (.long (Int64.ofInt (pw_gm h15 125 24))), none, some (.long (Int64.ofInt (pw_gm h15 125 27))), none, some (.long (Int64.ofInt (pw_gm h15 125 29))), none, some (.long (Int64.ofInt ((pw_gm h15 125 26) + (pw_gm h15 125 28)))), none, some (pw_i k102_12), some (.long (Int64.ofInt k153_13)), none, some (.long (Int64.ofInt k153_15)), none, some (pw_i k153_17), k153_18, k153_19, none, k153_21, none] [.long (Int64.ofInt x40)] _
                              change (wt = 0 → x40 = Int.tdiv (pw_gm h33 125 24) (pw_gd (pw_gm h33 125 24) (pw_gm h33 125 25))) ∧ (wt ≠ 0 → x40 = Int.tdiv (pw_gm h33 125 25) (pw_gd (pw_gm h33 125 24) (pw_gm h33 125 25))) at hx40r
                              refine pw_lret E rfl ?_
                              have e4 : pw_gm h33 125 24 = po_X (pv_sdm h b e) (pv_chm h b e) := by omega
                              have e5 : pw_gm h33 125 25 = po_Y (pv_sdm h b e) := by omega
                              rw [e4, e5] at hx40r
                              exact ⟨h33I, h33F, ⟨_, rfl, by omega, by omega, Or.inl ⟨⟨by omega, hok, by omega⟩, pv_low hx40r⟩⟩⟩
                            · intro hc41
                              change ¬ (pw_p2 k102_12 ≤ k153_17) at hc41
                              have hsk : (k153_17).toNat < 2 ^ (po_A (pv_sdm h b e)).toNat := po_p2 (by omega) (by omega) (by omega)
                              refine pw_ld E (pc' := 163) (st' := [pw_i 0]) rfl (fun _ => rfl) ?_
                              refine pw_ist E (pc' := 165) (ls' := [some (.ref 141), some (pw_i b), some (pw_i e), some (pw_i wt), some (.long (Int64.ofInt (pw_gm h15 125 24))), none, some (.long (Int64.ofInt (pw_gm h15 125 27))), none, some (.long (Int64.ofInt (pw_gm h15 125 29))), none, some (.long (Int64.ofInt ((pw_gm h15 125 26) + (pw_gm h15 125 28)))), none, some (pw_i k102_12), some (.long (Int64.ofInt k153_13)), none, some (.long (Int64.ofInt k153_15)), none, some (pw_i k153_17), some (pw_i 0), k153_19, none, k153_21, none]) rfl rfl rfl rfl ?_
                              refine pw_ld E (pc' := 166) (st' := [.long (Int64.ofInt 0)]) rfl (fun _ => rfl) ?_
                              refine pw_lst E (pc' := 168) (ls' := [some (.ref 141), some (pw_i b), some (pw_i e), some (pw_i wt), some (.long (Int64.ofInt (pw_gm h15 125 24))), none, some (.long (Int64.ofInt (pw_gm h15 125 27))), none, some (.long (Int64.ofInt (pw_gm h15 125 29))), none, some (.long (Int64.ofInt ((pw_gm h15 125 26) + (pw_gm h15 125 28)))), none, some (pw_i k102_12), some (.long (Int64.ofInt k153_13)), none, some (.long (Int64.ofInt k153_15)), none, some (pw_i k153_17), some (pw_i 0), some (.long (Int64.ofInt 0)), none, k153_21, none]) rfl rfl rfl rfl ?_
                              refine pw_ld E (pc' := 169) (st' := [pw_i 0]) rfl (fun _ => rfl) ?_
                              refine pw_ist E (pc' := 171) (ls' := [some (.ref 141), some (pw_i b), some (pw_i e), some (pw_i wt), some (.long (Int64.ofInt (pw_gm h15 125 24))), none, some (.long (Int64.ofInt (pw_gm h15 125 27))), none, some (.long (Int64.ofInt (pw_gm h15 125 29))), none, some (.long (Int64.ofInt ((pw_gm h15 125 26) + (pw_gm h15 125 28)))), none, some (pw_i k102_12), some (.long (Int64.ofInt k153_13)), none, some (.long (Int64.ofInt k153_15)), none, some (pw_i k153_17), some (pw_i 0), some (.long (Int64.ofInt 0)), none, some (pw_i 0), none]) rfl rfl rfl rfl ?_
                              have L171 : ∀ (n171 : Nat) (k171_18 : Int) (k171_19 : Int) (k171_21 : Int), 0 ≤ k171_18 → k171_18 ≤ 14 → (-28000) ≤ k171_19 → k171_19 ≤ 28000 → 0 ≤ k171_21 → k171_21 ≤ 14 → k171_18 = (pb_n (k153_17).toNat (k171_21).toNat : Int) → k171_19 = pb_S (pw_g gh102 144) (k153_17).toNat (k171_21).toNat → (-2000) * k171_21 ≤ k171_19 → k171_19 ≤ 2000 * k171_21 → k171_18 ≤ k171_21 → k171_21 ≤ k102_12 → (24 - k171_21).toNat = n171 → pw X d gh102 233 171 [some (.ref 141), some (pw_i b), some (pw_i e), some (pw_i wt), some (.long (Int64.ofInt (pw_gm h15 125 24))), none, some (.long (Int64.ofInt (pw_gm h15 125 27))), none, some (.long (Int64.ofInt (pw_gm h15 125 29))), none, some (.long (Int64.ofInt ((pw_gm h15 125 26) + (pw_gm h15 125 28)))), none, some (pw_i k102_12), some (.long (Int64.ofInt k153_13)), none, some (.long (Int64.ofInt k153_15)), none, some (pw_i k153_17), some (pw_i k171_18), some (.long (Int64.ofInt k171_19)), none, some (pw_i k171_21), none] [] (fun h' v => pw_I h' ∧ pw_E [125, 144] h h' ∧ ∃ a : Int, v = .inl (some (.long (Int64.ofInt a))) ∧ (-1099511627776) ≤ a ∧ a ≤ 1099511627776 ∧ ((((0 ≤ b ∧ b ≤ 11 ∧ 0 ≤ e ∧ e ≤ 11 ∧ b ≠ e ∧ 0 ≤ wt ∧ wt ≤ 1) ∧ pv_OK (pv_sdm h b e) ∧ po_A (pv_sdm h b e) ≤ 14) ∧ a = pv_LW (po_X (pv_sdm h b e) (pv_chm h b e)) (po_Y (pv_sdm h b e)) wt) ∨ (¬ ((0 ≤ b ∧ b ≤ 11 ∧ 0 ≤ e ∧ e ≤ 11 ∧ b ≠ e ∧ 0 ≤ wt ∧ wt ≤ 1) ∧ pv_OK (pv_sdm h b e) ∧ po_A (pv_sdm h b e) ≤ 14) ∧ a = -1))) := by
                                intro n171
                                induction n171 using Nat.strongRecOn with
                                | ind n171 ih171 =>
                                  intro k171_18 k171_19 k171_21 k171_18a k171_18b k171_19a k171_19b k171_21a k171_21b hx171_0 hx171_1 hx171_2 hx171_3 hx171_4 hx171_5 hm171
                                  refine pw_ld E (pc' := 173) (st' := [pw_i k171_21]) rfl (fun _ => rfl) ?_
                                  refine pw_ld E (pc' := 175) (st' := [pw_i k102_12, pw_i k171_21]) rfl (fun _ => rfl) ?_
                                  refine pw_if2 E (pc' := 224) rfl (by decide) (by omega) (by omega) (by omega) (by omega) ?_ ?_
                                  · intro hc42
                                    change k102_12 ≤ k171_21 at hc42
                                    have h21 : k171_21 = po_A (pv_sdm h b e) := by omega
                                    rw [h21] at hx171_0 hx171_1
                                    have e24 : (24 : Int).toNat = 24 := rfl
                                    have hSc : pb_S (pc_B (pv_sdm h b e) (pv_chm h b e) 24) (k153_17).toNat (po_A (pv_sdm h b e)).toNat = k171_19 := by rw [hx171_1]; exact (pb_SC _ (fun j hj _ => hBA j (by rw [e24]; omega))).symm
                                    refine pw_ld E (pc' := 226) (st' := [pw_i k171_18]) rfl (fun _ => rfl) ?_
                                    refine pw_i2l E (pc' := 227) rfl rfl (by omega) (by omega) ?_
                                    refine pw_ld E (pc' := 229) (st' := [.long (Int64.ofInt (pw_gm h15 125 27)), .long (Int64.ofInt k171_18)]) rfl (fun _ => rfl) ?_
                                    refine pw_lcmpC E (pc' := 230) rfl rfl (by omega) (by omega) (by omega) (by omega) (fun c43 hc43 => ?_)
                                    refine pw_if E (pc' := 282) rfl (by decide) (by omega) (by omega) ?_ ?_
                                    · intro hc44
                                      change c43 ≠ (0 : Int) at hc44
                                      have w1 := po_Ws (q := pv_N (pv_sdm h b e) 0 24) (m := (po_A (pv_sdm h b e)).toNat) (s := k153_17) (by omega)
                                      have f1 := po_Fs (r := pc_B (pv_sdm h b e) (pv_chm h b e) 24) (al := po_A (pv_sdm h b e)) (tf := po_T (pv_sdm h b e) (pv_chm h b e)) (ow := po_O (pv_sdm h b e) (pv_chm h b e)) (q := pv_N (pv_sdm h b e) 0 24) (m := (po_A (pv_sdm h b e)).toNat) (s := k153_17) (by omega)
                                      have w2 := w1.2 (by omega)
                                      have f2 := f1.2.2 (by omega)
                                      refine pw_inc E (pc' := 285) (ls' := [some (.ref 141), some (pw_i b), some (pw_i e), some (pw_i wt), some (.long (Int64.ofInt (pw_gm h15 125 24))), none, some (.long (Int64.ofInt (pw_gm h15 125 27))), none, some (.long (Int64.ofInt (pw_gm h15 125 29))), none, some (.long (Int64.ofInt ((pw_gm h15 125 26) + (pw_gm h15 125 28)))), none, some (pw_i k102_12), some (.long (Int64.ofInt k153_13)), none, some (.long (Int64.ofInt k153_15)), none, some (pw_i (k153_17 + 1)), some (pw_i k171_18), some (.long (Int64.ofInt k171_19)), none, some (pw_i k171_21), none]) rfl rfl rfl rfl ?_
                                      refine pw_goto E (pc' := 153) rfl (by decide) ?_
                                      exact ih153 _ (by omega) (k153_13) (k153_15) (k153_17 + 1) (some (pw_i k171_18)) (some (.long (Int64.ofInt k171_19))) (some (pw_i k171_21))  (by omega) (by omega) (by omega) (by omega) (by omega) (by omega) (by omega) (by omega) (by omega) (by omega) (by omega) rfl
                                    · intro hc45
                                      change ¬ (c43 ≠ (0 : Int)) at hc45
                                      refine pw_ld E (pc' := 235) (st' := [.long (Int64.ofInt k171_19)]) rfl (fun _ => rfl) ?_
                                      refine pw_ld E (pc' := 237) (st' := [.long (Int64.ofInt (pw_gm h15 125 29)), .long (Int64.ofInt k171_19)]) rfl (fun _ => rfl) ?_
                                      have hm46 := pw_mulS (a := k171_19) (b := pw_gm h15 125 29) (A := 28000) (B := 14) (by omega) (by omega) (by omega) (by omega)
                                      refine pw_lmul E (pc' := 238) rfl rfl ?_
                                      refine pw_ld E (pc' := 240) (st' := [.long (Int64.ofInt ((pw_gm h15 125 26) + (pw_gm h15 125 28))), .long (Int64.ofInt (k171_19 * (pw_gm h15 125 29)))]) rfl (fun _ => rfl) ?_
                                      refine pw_ld E (pc' := 242) (st' := [.long (Int64.ofInt k171_19), .long (Int64.ofInt ((pw_gm h15 125 26) + (pw_gm h15 125 28))), .long (Int64.ofInt (k171_19 * (pw_gm h15 125 29)))]) rfl (fun _ => rfl) ?_
                                      refine pw_lsub E (pc' := 243) rfl rfl ?_
                                      refine pw_ld E (pc' := 245) (st' := [.long (Int64.ofInt (pw_gm h15 125 27)), .long (Int64.ofInt (((pw_gm h15 125 26) + (pw_gm h15 125 28)) - k171_19)), .long (Int64.ofInt (k171_19 * (pw_gm h15 125 29)))]) rfl (fun _ => rfl) ?_
                                      have hm47 := pw_mulS (a := ((pw_gm h15 125 26) + (pw_gm h15 125 28)) - k171_19) (b := pw_gm h15 125 27) (A := 124000) (B := 14) (by omega) (by omega) (by omega) (by omega)
                                      refine pw_lmul E (pc' := 246) rfl rfl ?_
                                      refine pw_lsub E (pc' := 247) rfl rfl ?_
                                      refine pw_lst E (pc' := 249) (ls' := [some (.ref 141), some (pw_i b), some (pw_i e), some (pw_i wt), some (.long (Int64.ofInt (pw_gm h15 125 24))), none, some (.long (Int64.ofInt (pw_gm h15 125 27))), none, some (.long (Int64.ofInt (pw_gm h15 125 29))), none, some (.long (Int64.ofInt ((pw_gm h15 125 26) + (pw_gm h15 125 28)))), none, some (pw_i k102_12), some (.long (Int64.ofInt k153_13)), none, some (.long (Int64.ofInt k153_15)), none, some (pw_i k153_17), some (pw_i k171_18), some (.long (Int64.ofInt k171_19)), none, some (.long (Int64.ofInt ((k171_19 * (pw_gm h15 125 29)) - ((((pw_gm h15 125 26) + (pw_gm h15 125 28)) - k171_19) * (pw_gm h15 125 27))))), none]) rfl rfl rfl rfl ?_
                                      refine pw_ld E (pc' := 251) (st' := [.long (Int64.ofInt k153_15)]) rfl (fun _ => rfl) ?_
                                      refine pw_ld E (pc' := 252) (st' := [.long (Int64.ofInt 1), .long (Int64.ofInt k153_15)]) rfl (fun _ => rfl) ?_
                                      refine pw_ladd E (pc' := 253) rfl rfl ?_
                                      refine pw_lst E (pc' := 255) (ls' := [some (.ref 141), some (pw_i b), some (pw_i e), some (pw_i wt), some (.long (Int64.ofInt (pw_gm h15 125 24))), none, some (.long (Int64.ofInt (pw_gm h15 125 27))), none, some (.long (Int64.ofInt (pw_gm h15 125 29))), none, some (.long (Int64.ofInt ((pw_gm h15 125 26) + (pw_gm h15 125 28)))), none, some (pw_i k102_12), some (.long (Int64.ofInt k153_13)), none, some (.long (Int64.ofInt (k153_15 + 1))), none, some (pw_i k153_17), some (pw_i k171_18), some (.long (Int64.ofInt k171_19)), none, some (.long (Int64.ofInt ((k171_19 * (pw_gm h15 125 29)) - ((((pw_gm h15 125 26) + (pw_gm h15 125 28)) - k171_19) * (pw_gm h15 125 27))))), none]) rfl rfl rfl rfl ?_
                                      refine pw_ld E (pc' := 257) (st' := [.long (Int64.ofInt k153_13)]) rfl (fun _ => rfl) ?_
                                      refine pw_ld E (pc' := 259) (st' := [.long (Int64.ofInt ((k171_19 * (pw_gm h15 125 29)) - ((((pw_gm h15 125 26) + (pw_gm h15 125 28)) - k171_19) * (pw_gm h15 125 27)))), .long (Int64.ofInt k153_13)]) rfl (fun _ => rfl) ?_
                                      refine pw_ld E (pc' := 261) (st' := [.long (Int64.ofInt (pw_gm h15 125 24)), .long (Int64.ofInt ((k171_19 * (pw_gm h15 125 29)) - ((((pw_gm h15 125 26) + (pw_gm h15 125 28)) - k171_19) * (pw_gm h15 125 27)))), .long (Int64.ofInt k153_13)]) rfl (fun _ => rfl) ?_
                                      refine pw_lcmpC E (pc' := 262) rfl rfl (by omega) (by omega) (by omega) (by omega) (fun c48 hc48 => ?_)
                                      refine pw_if E (pc' := 274) rfl (by decide) (by omega) (by omega) ?_ ?_
                                      · intro hc49
                                        change (0 : Int) ≤ c48 at hc49
                                        refine pw_ld E (pc' := 275) (st' := [.long (Int64.ofInt 1), .long (Int64.ofInt k153_13)]) rfl (fun _ => rfl) ?_
                                        refine pw_goto E (pc' := 279) rfl (by decide) ?_
                                        refine pw_ladd E (pc' := 280) rfl rfl ?_
                                        refine pw_lst E (pc' := 282) (ls' := [some (.ref 141), some (pw_i b), some (pw_i e), some (pw_i wt), some (.long (Int64.ofInt (pw_gm h15 125 24))), none, some (.long (Int64.ofInt (pw_gm h15 125 27))), none, some (.long (Int64.ofInt (pw_gm h15 125 29))), none, some (.long (Int64.ofInt ((pw_gm h15 125 26) + (pw_gm h15 125 28)))), none, some (pw_i k102_12), some (.long (Int64.ofInt (k153_13 + 1))), none, some (.long (Int64.ofInt (k153_15 + 1))), none, some (pw_i k153_17), some (pw_i k171_18), some (.long (Int64.ofInt k171_19)), none, some (.long (Int64.ofInt ((k171_19 * (pw_gm h15 125 29)) - ((((pw_gm h15 125 26) + (pw_gm h15 125 28)) - k171_19) * (pw_gm h15 125 27))))), none]) rfl rfl rfl rfl ?_
                                        have w1 := po_Ws (q := pv_N (pv_sdm h b e) 0 24) (m := (po_A (pv_sdm h b e)).toNat) (s := k153_17) (by omega)
                                        have f1 := po_Fs (r := pc_B (pv_sdm h b e) (pv_chm h b e) 24) (al := po_A (pv_sdm h b e)) (tf := po_T (pv_sdm h b e) (pv_chm h b e)) (ow := po_O (pv_sdm h b e) (pv_chm h b e)) (q := pv_N (pv_sdm h b e) 0 24) (m := (po_A (pv_sdm h b e)).toNat) (s := k153_17) (by omega)
                                        have fv := po_vF hSc eA eT
                                        have w2 := w1.1 (by omega)
                                        have f2 := f1.1 (by omega) (by rw [fv]; omega)
                                        refine pw_inc E (pc' := 285) (ls' := [some (.ref 141), some (pw_i b), some (pw_i e), some (pw_i wt), some (.long (Int64.ofInt (pw_gm h15 125 24))), none, some (.long (Int64.ofInt (pw_gm h15 125 27))), none, some (.long (Int64.ofInt (pw_gm h15 125 29))), none, some (.long (Int64.ofInt ((pw_gm h15 125 26) + (pw_gm h15 125 28)))), none, some (pw_i k102_12), some (.long (Int64.ofInt (k153_13 + 1))), none, some (.long (Int64.ofInt (k153_15 + 1))), none, some (pw_i (k153_17 + 1)), some (pw_i k171_18), some (.long (Int64.ofInt k171_19)), none, some (.long (Int64.ofInt ((k171_19 * (pw_gm h15 125 29)) - ((((pw_gm h15 125 26) + (pw_gm h15 125 28)) - k171_19) * (pw_gm h15 125 27))))), none]) rfl rfl rfl rfl ?_
                                        refine pw_goto E (pc' := 153) rfl (by decide) ?_
                                        exact ih153 _ (by omega) (k153_13 + 1) (k153_15 + 1) (k153_17 + 1) (some (pw_i k171_18)) (some (.long (Int64.ofInt k171_19))) (some (.long (Int64.ofInt ((k171_19 * (pw_gm h15 125 29)) - ((((pw_gm h15 125 26) + (pw_gm h15 125 28)) - k171_19) * (pw_gm h15 125 27))))))  (by omega) (by omega) (by omega) (by omega) (by omega) (by omega) (by omega) (by omega) (by omega) (by omega) (by omega) rfl
                                      · intro hc50
                                        change ¬ ((0 : Int) ≤ c48) at hc50
                                        refine pw_ld E (pc' := 267) (st' := [.long (Int64.ofInt ((k171_19 * (pw_gm h15 125 29)) - ((((pw_gm h15 125 26) + (pw_gm h15 125 28)) - k171_19) * (pw_gm h15 125 27)))), .long (Int64.ofInt k153_13)]) rfl (fun _ => rfl) ?_
                                        refine pw_lnegC E (pc' := 268) rfl rfl ?_
                                        refine pw_ld E (pc' := 270) (st' := [.long (Int64.ofInt (pw_gm h15 125 24)), .long (Int64.ofInt (-((k171_19 * (pw_gm h15 125 29)) - ((((pw_gm h15 125 26) + (pw_gm h15 125 28)) - k171_19) * (pw_gm h15 125 27))))), .long (Int64.ofInt k153_13)]) rfl (fun _ => rfl) ?_
                                        refine pw_lcmpC E (pc' := 271) rfl rfl (by omega) (by omega) (by omega) (by omega) (fun c51 hc51 => ?_)
                                        refine pw_if E (pc' := 278) rfl (by decide) (by omega) (by omega) ?_ ?_
                                        · intro hc52
                                          change c51 < (0 : Int) at hc52
                                          refine pw_ld E (pc' := 279) (st' := [.long (Int64.ofInt 0), .long (Int64.ofInt k153_13)]) rfl (fun _ => rfl) ?_
                                          refine pw_ladd E (pc' := 280) rfl rfl ?_
                                          refine pw_lst E (pc' := 282) (ls' := [some (.ref 141), some (pw_i b), some (pw_i e), some (pw_i wt), some (.long (Int64.ofInt (pw_gm h15 125 24))), none, some (.long (Int64.ofInt (pw_gm h15 125 27))), none, some (.long (Int64.ofInt (pw_gm h15 125 29))), none, some (.long (Int64.ofInt ((pw_gm h15 125 26) + (pw_gm h15 125 28)))), none, some (pw_i k102_12), some (.long (Int64.ofInt (k153_13 + 0))), none, some (.long (Int64.ofInt (k153_15 + 1))), none, some (pw_i k153_17), some (pw_i k171_18), some (.long (Int64.ofInt k171_19)), none, some (.long (Int64.ofInt ((k171_19 * (pw_gm h15 125 29)) - ((((pw_gm h15 125 26) + (pw_gm h15 125 28)) - k171_19) * (pw_gm h15 125 27))))), none]) rfl rfl rfl rfl ?_
                                          have w1 := po_Ws (q := pv_N (pv_sdm h b e) 0 24) (m := (po_A (pv_sdm h b e)).toNat) (s := k153_17) (by omega)
                                          have f1 := po_Fs (r := pc_B (pv_sdm h b e) (pv_chm h b e) 24) (al := po_A (pv_sdm h b e)) (tf := po_T (pv_sdm h b e) (pv_chm h b e)) (ow := po_O (pv_sdm h b e) (pv_chm h b e)) (q := pv_N (pv_sdm h b e) 0 24) (m := (po_A (pv_sdm h b e)).toNat) (s := k153_17) (by omega)
                                          have fv := po_vF hSc eA eT
                                          have w2 := w1.1 (by omega)
                                          have f2 := f1.2.1 (by rw [fv]; omega)
                                          refine pw_inc E (pc' := 285) (ls' := [some (.ref 141), some (pw_i b), some (pw_i e), some (pw_i wt), some (.long (Int64.ofInt (pw_gm h15 125 24))), none, some (.long (Int64.ofInt (pw_gm h15 125 27))), none, some (.long (Int64.ofInt (pw_gm h15 125 29))), none, some (.long (Int64.ofInt ((pw_gm h15 125 26) + (pw_gm h15 125 28)))), none, some (pw_i k102_12), some (.long (Int64.ofInt (k153_13 + 0))), none, some (.long (Int64.ofInt (k153_15 + 1))), none, some (pw_i (k153_17 + 1)), some (pw_i k171_18), some (.long (Int64.ofInt k171_19)), none, some (.long (Int64.ofInt ((k171_19 * (pw_gm h15 125 29)) - ((((pw_gm h15 125 26) + (pw_gm h15 125 28)) - k171_19) * (pw_gm h15 125 27))))), none]) rfl rfl rfl rfl ?_
                                          refine pw_goto E (pc' := 153) rfl (by decide) ?_
                                          exact ih153 _ (by omega) (k153_13 + 0) (k153_15 + 1) (k153_17 + 1) (some (pw_i k171_18)) (some (.long (Int64.ofInt k171_19))) (some (.long (Int64.ofInt ((k171_19 * (pw_gm h15 125 29)) - ((((pw_gm h15 125 26) + (pw_gm h15 125 28)) - k171_19) * (pw_gm h15 125 27))))))  (by omega) (by omega) (by omega) (by omega) (by omega) (by omega) (by omega) (by omega) (by omega) (by omega) (by omega) rfl
                                        · intro hc53
                                          change ¬ (c51 < (0 : Int)) at hc53
                                          refine pw_ld E (pc' := 275) (st' := [.long (Int64.ofInt 1), .long (Int64.ofInt k153_13)]) rfl (fun _ => rfl) ?_
                                          refine pw_goto E (pc' := 279) rfl (by decide) ?_
                                          refine pw_ladd E (pc' := 280) rfl rfl ?_
                                          refine pw_lst E (pc' := 282) (ls' := [some (.ref 141), some (pw_i b), some (pw_i e), some (pw_i wt), some (.long (Int64.ofInt (pw_gm h15 125 24))), none, some (.long (Int64.ofInt (pw_gm h15 125 27))), none, some (.long (Int64.ofInt (pw_gm h15 125 29))), none, some (.long (Int64.ofInt ((pw_gm h15 125 26) + (pw_gm h15 125 28)))), none, some (pw_i k102_12), some (.long (Int64.ofInt (k153_13 + 1))), none, some (.long (Int64.ofInt (k153_15 + 1))), none, some (pw_i k153_17), some (pw_i k171_18), some (.long (Int64.ofInt k171_19)), none, some (.long (Int64.ofInt ((k171_19 * (pw_gm h15 125 29)) - ((((pw_gm h15 125 26) + (pw_gm h15 125 28)) - k171_19) * (pw_gm h15 125 27))))), none]) rfl rfl rfl rfl ?_
                                          have w1 := po_Ws (q := pv_N (pv_sdm h b e) 0 24) (m := (po_A (pv_sdm h b e)).toNat) (s := k153_17) (by omega)
                                          have f1 := po_Fs (r := pc_B (pv_sdm h b e) (pv_chm h b e) 24) (al := po_A (pv_sdm h b e)) (tf := po_T (pv_sdm h b e) (pv_chm h b e)) (ow := po_O (pv_sdm h b e) (pv_chm h b e)) (q := pv_N (pv_sdm h b e) 0 24) (m := (po_A (pv_sdm h b e)).toNat) (s := k153_17) (by omega)
                                          have fv := po_vF hSc eA eT
                                          have w2 := w1.1 (by omega)
                                          have f2 := f1.1 (by omega) (by rw [fv]; omega)
                                          refine pw_inc E (pc' := 285) (ls' := [some (.ref 141), some (pw_i b), some (pw_i e), some (pw_i wt), some (.long (Int64.ofInt (pw_gm h15 125 24))), none, some (.long (Int64.ofInt (pw_gm h15 125 27))), none, some (.long (Int64.ofInt (pw_gm h15 125 29))), none, some (.long (Int64.ofInt ((pw_gm h15 125 26) + (pw_gm h15 125 28)))), none, some (pw_i k102_12), some (.long (Int64.ofInt (k153_13 + 1))), none, some (.long (Int64.ofInt (k153_15 + 1))), none, some (pw_i (k153_17 + 1)), some (pw_i k171_18), some (.long (Int64.ofInt k171_19)), none, some (.long (Int64.ofInt ((k171_19 * (pw_gm h15 125 29)) - ((((pw_gm h15 125 26) + (pw_gm h15 125 28)) - k171_19) * (pw_gm h15 125 27))))), none]) rfl rfl rfl rfl ?_
                                          refine pw_goto E (pc' := 153) rfl (by decide) ?_
                                          exact ih153 _ (by omega) (k153_13 + 1) (k153_15 + 1) (k153_17 + 1) (some (pw_i k171_18)) (some (.long (Int64.ofInt k171_19))) (some (.long (Int64.ofInt ((k171_19 * (pw_gm h15 125 29)) - ((((pw_gm h15 125 26) + (pw_gm h15 125 28)) - k171_19) * (pw_gm h15 125 27))))))  (by omega) (by omega) (by omega) (by omega) (by omega) (by omega) (by omega) (by omega) (by omega) (by omega) (by omega) rfl
                                  · intro hc54
                                    change ¬ (k102_12 ≤ k171_21) at hc54
                                    have hbit := pb_bit (s := k153_17) (k := k171_21) (by omega) (by omega) (by omega) (by omega)
                                    have hb2 := pb_b2 (k153_17).toNat (k171_21).toNat
                                    have n1 := pb_nS (s := (k153_17).toNat) (k := k171_21) (by omega)
                                    have s1 := pb_SS (r := pw_g gh102 144) (s := (k153_17).toNat) (k := k171_21) (by omega)
                                    refine pw_ld E (pc' := 180) (st' := [pw_i k171_18]) rfl (fun _ => rfl) ?_
                                    refine pw_ld E (pc' := 182) (st' := [pw_i k153_17, pw_i k171_18]) rfl (fun _ => rfl) ?_
                                    refine pw_ld E (pc' := 184) (st' := [pw_i k171_21, pw_i k153_17, pw_i k171_18]) rfl (fun _ => rfl) ?_
                                    refine pw_iiE (f := fun x y => x >>> (y &&& 31)) (c := pw_sr k153_17 k171_21) E (pc' := 185) rfl (fun _ => rfl) rfl ?_
                                    have hp55 := pw_sr_r k153_17 k171_21
                                    refine pw_ld E (pc' := 186) (st' := [pw_i 1, pw_i (pw_sr k153_17 k171_21), pw_i k171_18]) rfl (fun _ => rfl) ?_
                                    refine pw_iiE (f := fun x y => x &&& y) (c := pw_an (pw_sr k153_17 k171_21) 1) E (pc' := 187) rfl (fun _ => rfl) rfl ?_
                                    have hp56 := pw_an_r (pw_sr k153_17 k171_21)
                                    refine pw_add E (pc' := 188) rfl rfl ?_
                                    refine pw_ist E (pc' := 190) (ls' := [some (.ref 141), some (pw_i b), some (pw_i e), some (pw_i wt), some (.long (Int64.ofInt (pw_gm h15 125 24))), none, some (.long (Int64.ofInt (pw_gm h15 125 27))), none, some (.long (Int64.ofInt (pw_gm h15 125 29))), none, some (.long (Int64.ofInt ((pw_gm h15 125 26) + (pw_gm h15 125 28)))), none, some (pw_i k102_12), some (.long (Int64.ofInt k153_13)), none, some (.long (Int64.ofInt k153_15)), none, some (pw_i k153_17), some (pw_i (k171_18 + (pw_an (pw_sr k153_17 k171_21) 1))), some (.long (Int64.ofInt k171_19)), none, some (pw_i k171_21), none]) rfl rfl rfl rfl ?_
                                    refine pw_ld E (pc' := 192) (st' := [.long (Int64.ofInt k171_19)]) rfl (fun _ => rfl) ?_
                                    refine pw_ld E (pc' := 194) (st' := [pw_i k153_17, .long (Int64.ofInt k171_19)]) rfl (fun _ => rfl) ?_
                                    refine pw_ld E (pc' := 196) (st' := [pw_i k171_21, pw_i k153_17, .long (Int64.ofInt k171_19)]) rfl (fun _ => rfl) ?_
                                    refine pw_iiE (f := fun x y => x >>> (y &&& 31)) (c := pw_sr k153_17 k171_21) E (pc' := 197) rfl (fun _ => rfl) rfl ?_
                                    have hp57 := pw_sr_r k153_17 k171_21
                                    refine pw_ld E (pc' := 198) (st' := [pw_i 1, pw_i (pw_sr k153_17 k171_21), .long (Int64.ofInt k171_19)]) rfl (fun _ => rfl) ?_
                                    refine pw_iiE (f := fun x y => x &&& y) (c := pw_an (pw_sr k153_17 k171_21) 1) E (pc' := 199) rfl (fun _ => rfl) rfl ?_
                                    have hp58 := pw_an_r (pw_sr k153_17 k171_21)
                                    refine pw_ld E (pc' := 200) (st' := [pw_i 1, pw_i (pw_an (pw_sr k153_17 k171_21) 1), .long (Int64.ofInt k171_19)]) rfl (fun _ => rfl) ?_
                                    refine pw_if2 E (pc' := 214) rfl (by decide) (by omega) (by omega) (by decide) (by decide) ?_ ?_
                                    · intro hc59
                                      change pw_an (pw_sr k153_17 k171_21) 1 ≠ (1 : Int) at hc59
                                      refine pw_ld E (pc' := 215) (st' := [.long (Int64.ofInt 0), .long (Int64.ofInt k171_19)]) rfl (fun _ => rfl) ?_
                                      have s2 := s1.2 (by omega)
                                      refine pw_ladd E (pc' := 216) rfl rfl ?_
                                      refine pw_lst E (pc' := 218) (ls' := [some (.ref 141), some (pw_i b), some (pw_i e), some (pw_i wt), some (.long (Int64.ofInt (pw_gm h15 125 24))), none, some (.long (Int64.ofInt (pw_gm h15 125 27))), none, some (.long (Int64.ofInt (pw_gm h15 125 29))), none, some (.long (Int64.ofInt ((pw_gm h15 125 26) + (pw_gm h15 125 28)))), none, some (pw_i k102_12), some (.long (Int64.ofInt k153_13)), none, some (.long (Int64.ofInt k153_15)), none, some (pw_i k153_17), some (pw_i (k171_18 + (pw_an (pw_sr k153_17 k171_21) 1))), some (.long (Int64.ofInt (k171_19 + 0))), none, some (pw_i k171_21), none]) rfl rfl rfl rfl ?_
                                      refine pw_inc E (pc' := 221) (ls' := [some (.ref 141), some (pw_i b), some (pw_i e), some (pw_i wt), some (.long (Int64.ofInt (pw_gm h15 125 24))), none, some (.long (Int64.ofInt (pw_gm h15 125 27))), none, some (.long (Int64.ofInt (pw_gm h15 125 29))), none, some (.long (Int64.ofInt ((pw_gm h15 125 26) + (pw_gm h15 125 28)))), none, some (pw_i k102_12), some (.long (Int64.ofInt k153_13)), none, some (.long (Int64.ofInt k153_15)), none, some (pw_i k153_17), some (pw_i (k171_18 + (pw_an (pw_sr k153_17 k171_21) 1))), some (.long (Int64.ofInt (k171_19 + 0))), none, some (pw_i (k171_21 + 1)), none]) rfl rfl rfl rfl ?_
                                      refine pw_goto E (pc' := 171) rfl (by decide) ?_
                                      exact ih171 _ (by omega) (k171_18 + (pw_an (pw_sr k153_17 k171_21) 1)) (k171_19 + 0) (k171_21 + 1)  (by omega) (by omega) (by omega) (by omega) (by omega) (by omega) (by omega) (by omega) (by omega) (by omega) (by omega) (by omega) rfl
                                    · intro hc60
                                      change ¬ (pw_an (pw_sr k153_17 k171_21) 1 ≠ (1 : Int)) at hc60
                                      refine pw_ld E (pc' := 204) (st' := [.ref 141, .long (Int64.ofInt k171_19)]) rfl (fun _ => rfl) ?_
                                      refine pw_getR (b := 160) I102 E (c := 125) (k := 30) (pc' := 207) rfl rfl rfl rfl rfl rfl rfl ?_
                                      refine pw_ld E (pc' := 209) (st' := [pw_i k171_21, .ref 160, .long (Int64.ofInt k171_19)]) rfl (fun _ => rfl) ?_
                                      refine pw_ald2 I102 E (c := 144) (pc' := 210) rfl rfl rfl (by decide) rfl (by decide) (by omega) (by omega) rfl (fun hf61a hf61b => ?_)
                                      have o3 := po_rowB hBA hMA hsk hbm (k171_21).toNat (by omega)
                                      refine pw_i2l E (pc' := 211) rfl rfl (by omega) (by omega) ?_
                                      refine pw_goto E (pc' := 215) rfl (by decide) ?_
                                      have s2 := s1.1 (by omega)
                                      refine pw_ladd E (pc' := 216) rfl rfl ?_
                                      refine pw_lst E (pc' := 218) (ls' := [some (.ref 141), some (pw_i b), some (pw_i e), some (pw_i wt), some (.long (Int64.ofInt (pw_gm h15 125 24))), none, some (.long (Int64.ofInt (pw_gm h15 125 27))), none, some (.long (Int64.ofInt (pw_gm h15 125 29))), none, some (.long (Int64.ofInt ((pw_gm h15 125 26) + (pw_gm h15 125 28)))), none, some (pw_i k102_12), some (.long (Int64.ofInt k153_13)), none, some (.long (Int64.ofInt k153_15)), none, some (pw_i k153_17), some (pw_i (k171_18 + (pw_an (pw_sr k153_17 k171_21) 1))), some (.long (Int64.ofInt (k171_19 + (pw_g gh102 144 (k171_21.toNat))))), none, some (pw_i k171_21), none]) rfl rfl rfl rfl ?_
                                      refine pw_inc E (pc' := 221) (ls' := [some (.ref 141), some (pw_i b), some (pw_i e), some (pw_i wt), some (.long (Int64.ofInt (pw_gm h15 125 24))), none, some (.long (Int64.ofInt (pw_gm h15 125 27))), none, some (.long (Int64.ofInt (pw_gm h15 125 29))), none, some (.long (Int64.ofInt ((pw_gm h15 125 26) + (pw_gm h15 125 28)))), none, some (pw_i k102_12), some (.long (Int64.ofInt k153_13)), none, some (.long (Int64.ofInt k153_15)), none, some (pw_i k153_17), some (pw_i (k171_18 + (pw_an (pw_sr k153_17 k171_21) 1))), some (.long (Int64.ofInt (k171_19 + (pw_g gh102 144 (k171_21.toNat))))), none, some (pw_i (k171_21 + 1)), none]) rfl rfl rfl rfl ?_
                                      refine pw_goto E (pc' := 171) rfl (by decide) ?_
                                      exact ih171 _ (by omega) (k171_18 + (pw_an (pw_sr k153_17 k171_21) 1)) (k171_19 + (pw_g gh102 144 (k171_21.toNat))) (k171_21 + 1)  (by omega) (by omega) (by omega) (by omega) (by omega) (by omega) (by omega) (by omega) (by omega) (by omega) (by omega) (by omega) rfl
                              exact L171 _ (0) (0) (0)  (by omega) (by omega) (by omega) (by omega) (by omega) (by omega) rfl rfl (by omega) (by omega) (by omega) (by omega) rfl
                        exact L153 _ (0) (0) (0) (none) (none) (none)  (by omega) (by omega) (by omega) (by omega) (by omega) (by omega) rfl rfl (by omega) (by omega) (by omega) rfl
                      · intro hc62
                        change ¬ ((24 : Int) ≤ k102_13) at hc62
                        have o1 := pc_Ms (sd := pv_sdm h b e) (k := k102_13) (by omega)
                        have od := pv_sdmI (h := h) (b := b) (e := e) (k := k102_13) (by omega)
                        have q1 : pw_g gh102 131 (k102_13).toNat = pw_g h 131 (k102_13).toNat := pw_Eg (c := 131) I E102 rfl rfl _
                        have qb : pw_g gh102 138 (12 * k102_13 + b).toNat = pw_g h 138 (12 * k102_13 + b).toNat := pw_Eg (c := 138) I E102 rfl rfl _
                        have qe : pw_g gh102 138 (12 * k102_13 + e).toNat = pw_g h 138 (12 * k102_13 + e).toNat := pw_Eg (c := 138) I E102 rfl rfl _
                        have q4 : pw_g gh102 132 (k102_13).toNat = pw_g h 132 (k102_13).toNat := pw_Eg (c := 132) I E102 rfl rfl _
                        have hkb : pv_hmk gh102 b k102_13 = pv_hmk h b k102_13 := pv_hmkE I E102 rfl
                        have hke : pv_hmk gh102 e k102_13 = pv_hmk h e k102_13 := pv_hmkE I E102 rfl
                        have hw4 := pw_gA (c := 132) (j := k102_13) I rfl (by decide) (by omega) (by omega)
                        refine pw_ld E (pc' := 110) (st' := [.ref 141]) rfl (fun _ => rfl) ?_
                        refine pw_ld E (pc' := 112) (st' := [pw_i k102_13, .ref 141]) rfl (fun _ => rfl) ?_
                        refine pw_ld E (pc' := 113) (st' := [pw_i b, pw_i k102_13, .ref 141]) rfl (fun _ => rfl) ?_
                        refine pw_ld E (pc' := 114) (st' := [pw_i e, pw_i b, pw_i k102_13, .ref 141]) rfl (fun _ => rfl) ?_
                        obtain ⟨f63l, f63h, -⟩ := pw_obj (c := 125) I102 rfl
                        refine pw_call (m' := 214) (As := [.ref 141, pw_i k102_13, pw_i b, pw_i e]) (rest := []) (ls'' := [some (.ref 141), some (pw_i k102_13), some (pw_i b), some (pw_i e)]) (Nat.le_trans (by decide) hd) E rfl (fun _ => pw_iV rfl rfl rfl rfl (pw_cellI f63h rfl)) (rfl : pm_ent 214 = some (4, 4, 12, 1, pmc_214)) rfl rfl (cm_214_s (pw_dp hd (by decide)) I102 (k102_13) (by omega) (by omega) (b) (by omega) (by omega) (e) (by omega) (by omega)) ?_
                        rintro u65 v64 ⟨rfl, x66, rfl, hx66a, hx66b, hx66r⟩
                        refine ⟨_, rfl, ?_⟩
                        show pw X d gh102 233 117 [some (.ref 141), some (pw_i b), some (pw_i e), some (pw_i wt), some (.long (Int64.ofInt (pw_gm h15 125 24))), none, some (.long (Int64.ofInt (pw_gm h15 125 27))), none, some (.long (Int64.ofInt (pw_gm h15 125 29))), none, some (.long (Int64.ofInt ((pw_gm h15 125 26) + (pw_gm h15 125 28)))), none, some (pw_i k102_12), some (pw_i k102_13), none, none, none, none, none, none, none, none, none] [pw_i x66] _
                        change (x66 = 1 ∧ pw_g gh102 131 k102_13.toNat ≠ 0 ∧ pw_g gh102 138 (12 * k102_13 + b).toNat ≠ 0 ∧ pw_g gh102 138 (12 * k102_13 + e).toNat ≠ 0) ∨ (x66 = 0 ∧ ¬ (pw_g gh102 131 k102_13.toNat ≠ 0 ∧ pw_g gh102 138 (12 * k102_13 + b).toNat ≠ 0 ∧ pw_g gh102 138 (12 * k102_13 + e).toNat ≠ 0)) at hx66r
                        rcases (by omega : x66 = 1 ∨ x66 = 0) with hb67 | hb67
                        · skip
                          refine pw_if E (pc' := 138) rfl (by decide) (by omega) (by omega) ?_ ?_
                          · intro hc68
                            change x66 = (0 : Int) at hc68
                            exfalso; omega
                          · intro hc69
                            change ¬ (x66 = (0 : Int)) at hc69
                            refine pw_ld E (pc' := 121) (st' := [.ref 141]) rfl (fun _ => rfl) ?_
                            refine pw_getR (b := 160) I102 E (c := 125) (k := 30) (pc' := 124) rfl rfl rfl rfl rfl rfl rfl ?_
                            refine pw_ld E (pc' := 126) (st' := [pw_i k102_12, .ref 160]) rfl (fun _ => rfl) ?_
                            refine pw_ld E (pc' := 127) (st' := [.ref 141, pw_i k102_12, .ref 160]) rfl (fun _ => rfl) ?_
                            refine pw_ld E (pc' := 129) (st' := [pw_i k102_13, .ref 141, pw_i k102_12, .ref 160]) rfl (fun _ => rfl) ?_
                            refine pw_ld E (pc' := 130) (st' := [pw_i b, pw_i k102_13, .ref 141, pw_i k102_12, .ref 160]) rfl (fun _ => rfl) ?_
                            refine pw_ld E (pc' := 131) (st' := [pw_i e, pw_i b, pw_i k102_13, .ref 141, pw_i k102_12, .ref 160]) rfl (fun _ => rfl) ?_
                            obtain ⟨f70l, f70h, -⟩ := pw_obj (c := 125) I102 rfl
                            refine pw_call (m' := 215) (As := [.ref 141, pw_i k102_13, pw_i b, pw_i e]) (rest := [pw_i k102_12, .ref 160]) (ls'' := [some (.ref 141), some (pw_i k102_13), some (pw_i b), some (pw_i e)]) (Nat.le_trans (by decide) hd) E rfl (fun _ => pw_iV rfl rfl rfl rfl (pw_cellI f70h rfl)) (rfl : pm_ent 215 = some (4, 4, 12, 0, pmc_215)) rfl rfl (cm_215_s (pw_dp hd (by decide)) I102 (k102_13) (by omega) (by omega) (b) (by omega) (by omega) (e) (by omega) (by omega)) ?_
                            rintro u72 v71 ⟨rfl, x73, rfl, hx73a, hx73b, hx73r⟩
                            refine ⟨_, rfl, ?_⟩
                            show pw X d gh102 233 134 [some (.ref 141), some (pw_i b), some (pw_i e), some (pw_i wt), some (.long (Int64.ofInt (pw_gm h15 125 24))), none, some (.long (Int64.ofInt (pw_gm h15 125 27))), none, some (.long (Int64.ofInt (pw_gm h15 125 29))), none, some (.long (Int64.ofInt ((pw_gm h15 125 26) + (pw_gm h15 125 28)))), none, some (pw_i k102_12), some (pw_i k102_13), none, none, none, none, none, none, none, none, none] [pw_i x73, pw_i k102_12, .ref 160] _
                            change x73 = pv_hmk gh102 e k102_13 - pv_hmk gh102 b k102_13 at hx73r
                            have hch : x73 = pv_chm h b e (k102_13).toNat := by rw [hx73r, hkb, hke]; exact (pv_chmI (by omega)).symm
                            have hsd : (pv_sdm h b e) (k102_13).toNat ≠ -1 := by omega
                            have o2 := o1.1 hsd
                            refine pw_ast0 I102 E (c := 144) (pc' := 135) rfl rfl rfl (by decide) rfl (by decide) (by omega) (by omega) rfl (by omega) (by omega) (by omega) (by omega) rfl ?_
                            intro h74I h74E
                            generalize h74w : pw_w gh102 144 (k102_12.toNat) (pw_i x73) = h74 at h74I h74E ⊢
                            have h74F := E102.tr (h74E.wk (W' := [125, 144]) (by first | rfl | simp))
                            refine pw_inc E (pc' := 138) (ls' := [some (.ref 141), some (pw_i b), some (pw_i e), some (pw_i wt), some (.long (Int64.ofInt (pw_gm h15 125 24))), none, some (.long (Int64.ofInt (pw_gm h15 125 27))), none, some (.long (Int64.ofInt (pw_gm h15 125 29))), none, some (.long (Int64.ofInt ((pw_gm h15 125 26) + (pw_gm h15 125 28)))), none, some (pw_i (k102_12 + 1)), some (pw_i k102_13), none, none, none, none, none, none, none, none, none]) rfl rfl rfl rfl ?_
                            clear od hx66r
                            refine pw_inc E (pc' := 141) (ls' := [some (.ref 141), some (pw_i b), some (pw_i e), some (pw_i wt), some (.long (Int64.ofInt (pw_gm h15 125 24))), none, some (.long (Int64.ofInt (pw_gm h15 125 27))), none, some (.long (Int64.ofInt (pw_gm h15 125 29))), none, some (.long (Int64.ofInt ((pw_gm h15 125 26) + (pw_gm h15 125 28)))), none, some (pw_i (k102_12 + 1)), some (pw_i (k102_13 + 1)), none, none, none, none, none, none, none, none, none]) rfl rfl rfl rfl ?_
                            refine pw_goto E (pc' := 102) rfl (by decide) ?_
                            exact ih102 _ (by omega) (k102_12 + 1) (k102_13 + 1) h74 h74I h74F (by omega) (by omega) (by omega) (by omega) (by omega) (by omega) (by first | exact pc_BA.yes hx102_2 rfl (by omega) (by omega) hx102_1 hsd hch (by omega) (by omega) I102 (by assumption) | exact pc_BA.no hx102_2 (by omega) hsd) rfl
                        · skip
                          refine pw_if E (pc' := 138) rfl (by decide) (by omega) (by omega) ?_ ?_
                          · intro hc76
                            change x66 = (0 : Int) at hc76
                            have hsd : (pv_sdm h b e) (k102_13).toNat = -1 := by omega
                            have o2 := o1.2 hsd
                            clear od hx66r
                            refine pw_inc E (pc' := 141) (ls' := [some (.ref 141), some (pw_i b), some (pw_i e), some (pw_i wt), some (.long (Int64.ofInt (pw_gm h15 125 24))), none, some (.long (Int64.ofInt (pw_gm h15 125 27))), none, some (.long (Int64.ofInt (pw_gm h15 125 29))), none, some (.long (Int64.ofInt ((pw_gm h15 125 26) + (pw_gm h15 125 28)))), none, some (pw_i k102_12), some (pw_i (k102_13 + 1)), none, none, none, none, none, none, none, none, none]) rfl rfl rfl rfl ?_
                            refine pw_goto E (pc' := 102) rfl (by decide) ?_
                            exact ih102 _ (by omega) (k102_12) (k102_13 + 1) gh102 I102 E102 (by omega) (by omega) (by omega) (by omega) (by omega) (by omega) (by first | exact pc_BA.yes hx102_2 rfl (by omega) (by omega) hx102_1 hsd hch (by omega) (by omega) I102 (by assumption) | exact pc_BA.no hx102_2 (by omega) hsd) rfl
                          · intro hc77
                            change ¬ (x66 = (0 : Int)) at hc77
                            exfalso; omega
                  exact L102 _ (0) (0) h15 h15I h15F (by omega) (by omega) (by omega) (by omega) (by omega) rfl pc_BA.z rfl
                · intro hc78
                  change ¬ ((0 : Int) ≤ c25) at hc78
                  refine pw_ld E (pc' := 60) (st' := [.ref 141]) rfl (fun _ => rfl) ?_
                  refine pw_getLM h15I E (c := 125) (k := 24) (pc' := 63) rfl rfl rfl rfl rfl rfl ?_
                  refine pw_lnegC E (pc' := 64) rfl rfl ?_
                  refine pw_goto E (pc' := 71) rfl (by decide) ?_
                  have hfar : -(pw_gm h15 125 24) = po_O (pv_sdm h b e) (pv_chm h b e) := by rw [eO]; omega
                  refine pw_lst E (pc' := 73) (ls' := [some (.ref 141), some (pw_i b), some (pw_i e), some (pw_i wt), some (.long (Int64.ofInt (-(pw_gm h15 125 24)))), none, none, none, none, none, none, none, none, none, none, none, none, none, none, none, none, none, none]) rfl rfl rfl rfl ?_
                  refine pw_ld E (pc' := 74) (st' := [.ref 141]) rfl (fun _ => rfl) ?_
                  refine pw_getM h15I E (c := 125) (k := 27) (pc' := 77) rfl rfl rfl rfl rfl rfl (fun hf79a hf79b => ?_)
                  refine pw_lst E (pc' := 79) (ls' := [some (.ref 141), some (pw_i b), some (pw_i e), some (pw_i wt), some (.long (Int64.ofInt (-(pw_gm h15 125 24)))), none, some (.long (Int64.ofInt (pw_gm h15 125 27))), none, none, none, none, none, none, none, none, none, none, none, none, none, none, none, none]) rfl rfl rfl rfl ?_
                  refine pw_ld E (pc' := 80) (st' := [.ref 141]) rfl (fun _ => rfl) ?_
                  refine pw_getM h15I E (c := 125) (k := 29) (pc' := 83) rfl rfl rfl rfl rfl rfl (fun hf80a hf80b => ?_)
                  refine pw_lst E (pc' := 85) (ls' := [some (.ref 141), some (pw_i b), some (pw_i e), some (pw_i wt), some (.long (Int64.ofInt (-(pw_gm h15 125 24)))), none, some (.long (Int64.ofInt (pw_gm h15 125 27))), none, some (.long (Int64.ofInt (pw_gm h15 125 29))), none, none, none, none, none, none, none, none, none, none, none, none, none, none]) rfl rfl rfl rfl ?_
                  refine pw_ld E (pc' := 86) (st' := [.ref 141]) rfl (fun _ => rfl) ?_
                  refine pw_getLM h15I E (c := 125) (k := 26) (pc' := 89) rfl rfl rfl rfl rfl rfl ?_
                  refine pw_ld E (pc' := 90) (st' := [.ref 141, .long (Int64.ofInt (pw_gm h15 125 26))]) rfl (fun _ => rfl) ?_
                  refine pw_getLM h15I E (c := 125) (k := 28) (pc' := 93) rfl rfl rfl rfl rfl rfl ?_
                  refine pw_ladd E (pc' := 94) rfl rfl ?_
                  refine pw_lst E (pc' := 96) (ls' := [some (.ref 141), some (pw_i b), some (pw_i e), some (pw_i wt), some (.long (Int64.ofInt (-(pw_gm h15 125 24)))), none, some (.long (Int64.ofInt (pw_gm h15 125 27))), none, some (.long (Int64.ofInt (pw_gm h15 125 29))), none, some (.long (Int64.ofInt ((pw_gm h15 125 26) + (pw_gm h15 125 28)))), none, none, none, none, none, none, none, none, none, none, none, none]) rfl rfl rfl rfl ?_
                  refine pw_ld E (pc' := 97) (st' := [pw_i 0]) rfl (fun _ => rfl) ?_
                  refine pw_ist E (pc' := 99) (ls' := [some (.ref 141), some (pw_i b), some (pw_i e), some (pw_i wt), some (.long (Int64.ofInt (-(pw_gm h15 125 24)))), none, some (.long (Int64.ofInt (pw_gm h15 125 27))), none, some (.long (Int64.ofInt (pw_gm h15 125 29))), none, some (.long (Int64.ofInt ((pw_gm h15 125 26) + (pw_gm h15 125 28)))), none, some (pw_i 0), none, none, none, none, none, none, none, none, none, none]) rfl rfl rfl rfl ?_
                  refine pw_ld E (pc' := 100) (st' := [pw_i 0]) rfl (fun _ => rfl) ?_
                  refine pw_ist E (pc' := 102) (ls' := [some (.ref 141), some (pw_i b), some (pw_i e), some (pw_i wt), some (.long (Int64.ofInt (-(pw_gm h15 125 24)))), none, some (.long (Int64.ofInt (pw_gm h15 125 27))), none, some (.long (Int64.ofInt (pw_gm h15 125 29))), none, some (.long (Int64.ofInt ((pw_gm h15 125 26) + (pw_gm h15 125 28)))), none, some (pw_i 0), some (pw_i 0), none, none, none, none, none, none, none, none, none]) rfl rfl rfl rfl ?_
                  have L102 : ∀ (n102 : Nat) (k102_12 : Int) (k102_13 : Int) (gh102 : pm_H), pw_I gh102 → pw_E [125, 144] h gh102 → 0 ≤ k102_12 → k102_12 ≤ 24 → 0 ≤ k102_13 → k102_13 ≤ 24 → k102_12 ≤ k102_13 → k102_12 = pc_M (pv_sdm h b e) (k102_13).toNat → pc_BA (pv_sdm h b e) (pv_chm h b e) (pw_g gh102 144) k102_13 → (24 - k102_13).toNat = n102 → pw X d gh102 233 102 [some (.ref 141), some (pw_i b), some (pw_i e), some (pw_i wt), some (.long (Int64.ofInt (-(pw_gm h15 125 24)))), none, some (.long (Int64.ofInt (pw_gm h15 125 27))), none, some (.long (Int64.ofInt (pw_gm h15 125 29))), none, some (.long (Int64.ofInt ((pw_gm h15 125 26) + (pw_gm h15 125 28)))), none, some (pw_i k102_12), some (pw_i k102_13), none, none, none, none, none, none, none, none, none] [] (fun h' v => pw_I h' ∧ pw_E [125, 144] h h' ∧ ∃ a : Int, v = .inl (some (.long (Int64.ofInt a))) ∧ (-1099511627776) ≤ a ∧ a ≤ 1099511627776 ∧ ((((0 ≤ b ∧ b ≤ 11 ∧ 0 ≤ e ∧ e ≤ 11 ∧ b ≠ e ∧ 0 ≤ wt ∧ wt ≤ 1) ∧ pv_OK (pv_sdm h b e) ∧ po_A (pv_sdm h b e) ≤ 14) ∧ a = pv_LW (po_X (pv_sdm h b e) (pv_chm h b e)) (po_Y (pv_sdm h b e)) wt) ∨ (¬ ((0 ≤ b ∧ b ≤ 11 ∧ 0 ≤ e ∧ e ≤ 11 ∧ b ≠ e ∧ 0 ≤ wt ∧ wt ≤ 1) ∧ pv_OK (pv_sdm h b e) ∧ po_A (pv_sdm h b e) ≤ 14) ∧ a = -1))) := by
                    intro n102
                    induction n102 using Nat.strongRecOn with
                    | ind n102 ih102 =>
                      intro k102_12 k102_13 gh102 I102 E102 k102_12a k102_12b k102_13a k102_13b hx102_0 hx102_1 hx102_2 hm102
                      refine pw_ld E (pc' := 104) (st' := [pw_i k102_13]) rfl (fun _ => rfl) ?_
                      refine pw_bip E (pc' := 106) rfl rfl (by decide) ?_
                      refine pw_if2 E (pc' := 144) rfl (by decide) (by omega) (by omega) (by decide) (by decide) ?_ ?_
                      · intro hc81
                        change (24 : Int) ≤ k102_13 at hc81
                        have hBA : pc_BA (pv_sdm h b e) (pv_chm h b e) (pw_g gh102 144) 24 := by rw [show (24 : Int) = k102_13 by omega]; exact hx102_2
                        rw [show (k102_13).toNat = 24 by omega] at hx102_1
                        have hA : k102_12 = po_A (pv_sdm h b e) := by omega
                        have hpA : pw_p2 k102_12 = pw_p2 (po_A (pv_sdm h b e)) := by rw [hA]
                        refine pw_ld E (pc' := 145) (st' := [.long (Int64.ofInt 0)]) rfl (fun _ => rfl) ?_
                        refine pw_lst E (pc' := 147) (ls' := [some (.ref 141), some (pw_i b), some (pw_i e), some (pw_i wt), some (.long (Int64.ofInt (-(pw_gm h15 125 24)))), none, some (.long (Int64.ofInt (pw_gm h15 125 27))), none, some (.long (Int64.ofInt (pw_gm h15 125 29))), none, some (.long (Int64.ofInt ((pw_gm h15 125 26) + (pw_gm h15 125 28)))), none, some (pw_i k102_12), some (.long (Int64.ofInt 0)), none, none, none, none, none, none, none, none, none]) rfl rfl rfl rfl ?_
                        refine pw_ld E (pc' := 148) (st' := [.long (Int64.ofInt 0)]) rfl (fun _ => rfl) ?_
                        refine pw_lst E (pc' := 150) (ls' := [some (.ref 141), some (pw_i b), some (pw_i e), some (pw_i wt), some (.long (Int64.ofInt (-(pw_gm h15 125 24)))), none, some (.long (Int64.ofInt (pw_gm h15 125 27))), none, some (.long (Int64.ofInt (pw_gm h15 125 29))), none, some (.long (Int64.ofInt ((pw_gm h15 125 26) + (pw_gm h15 125 28)))), none, some (pw_i k102_12), some (.long (Int64.ofInt 0)), none, some (.long (Int64.ofInt 0)), none, none, none, none, none, none, none]) rfl rfl rfl rfl ?_
                        refine pw_ld E (pc' := 151) (st' := [pw_i 0]) rfl (fun _ => rfl) ?_
                        refine pw_ist E (pc' := 153) (ls' := [some (.ref 141), some (pw_i b), some (pw_i e), some (pw_i wt), some (.long (Int64.ofInt (-(pw_gm h15 125 24)))), none, some (.long (Int64.ofInt (pw_gm h15 125 27))), none, some (.long (Int64.ofInt (pw_gm h15 125 29))), none, some (.long (Int64.ofInt ((pw_gm h15 125 26) + (pw_gm h15 125 28)))), none, some (pw_i k102_12), some (.long (Int64.ofInt 0)), none, some (.long (Int64.ofInt 0)), none, some (pw_i 0), none, none, none, none, none]) rfl rfl rfl rfl ?_
                        have L153 : ∀ (n153 : Nat) (k153_13 : Int) (k153_15 : Int) (k153_17 : Int) (k153_18 : Option Value) (k153_19 : Option Value) (k153_21 : Option Value), 0 ≤ k153_13 → k153_13 ≤ 16384 → 0 ≤ k153_15 → k153_15 ≤ 16384 → 0 ≤ k153_17 → k153_17 ≤ 16384 → k153_15 = po_W (pv_N (pv_sdm h b e) 0 24) (po_A (pv_sdm h b e)).toNat (k153_17).toNat → k153_13 = po_F (pc_B (pv_sdm h b e) (pv_chm h b e) 24) (po_A (pv_sdm h b e)) (po_T (pv_sdm h b e) (pv_chm h b e)) (po_O (pv_sdm h b e) (pv_chm h b e)) (pv_N (pv_sdm h b e) 0 24) (po_A (pv_sdm h b e)).toNat (k153_17).toNat → k153_13 ≤ k153_15 → k153_15 ≤ k153_17 → k153_17 ≤ pw_p2 (po_A (pv_sdm h b e)) → (16384 - k153_17).toNat = n153 → pw X d gh102 233 153 [some (.ref 141), some (pw_i b), some (pw_i e), some (pw_i wt), some (.long (Int64.ofInt (-(pw_gm h15 125 24)))), none, some (.long (Int64.ofInt (pw_gm h15 125 27))), none, some (.long (Int64.ofInt (pw_gm h15 125 29))), none, some (.long (Int64.ofInt ((pw_gm h15 125 26) + (pw_gm h15 125 28)))), none, some (pw_i k102_12), some (.long (Int64.ofInt k153_13)), none, some (.long (Int64.ofInt k153_15)), none, some (pw_i k153_17), k153_18, k153_19, none, k153_21, none] [] (fun h' v => pw_I h' ∧ pw_E [125, 144] h h' ∧ ∃ a : Int, v = .inl (some (.long (Int64.ofInt a))) ∧ (-1099511627776) ≤ a ∧ a ≤ 1099511627776 ∧ ((((0 ≤ b ∧ b ≤ 11 ∧ 0 ≤ e ∧ e ≤ 11 ∧ b ≠ e ∧ 0 ≤ wt ∧ wt ≤ 1) ∧ pv_OK (pv_sdm h b e) ∧ po_A (pv_sdm h b e) ≤ 14) ∧ a = pv_LW (po_X (pv_sdm h b e) (pv_chm h b e)) (po_Y (pv_sdm h b e)) wt) ∨ (¬ ((0 ≤ b ∧ b ≤ 11 ∧ 0 ≤ e ∧ e ≤ 11 ∧ b ≠ e ∧ 0 ≤ wt ∧ wt ≤ 1) ∧ pv_OK (pv_sdm h b e) ∧ po_A (pv_sdm h b e) ≤ 14) ∧ a = -1))) := by
                          intro n153
                          induction n153 using Nat.strongRecOn with
                          | ind n153 ih153 =>
                            intro k153_13 k153_15 k153_17 k153_18 k153_19 k153_21 k153_13a k153_13b k153_15a k153_15b k153_17a k153_17b hx153_0 hx153_1 hx153_2 hx153_3 hx153_4 hm153
                            refine pw_ld E (pc' := 155) (st' := [pw_i k153_17]) rfl (fun _ => rfl) ?_
                            refine pw_ld E (pc' := 156) (st' := [pw_i 1, pw_i k153_17]) rfl (fun _ => rfl) ?_
                            refine pw_ld E (pc' := 158) (st' := [pw_i k102_12, pw_i 1, pw_i k153_17]) rfl (fun _ => rfl) ?_
                            refine pw_shlE E (pc' := 159) rfl rfl (by omega) (by omega) ?_
                            have hp82 := pw_p2_r (a := k102_12) (by omega) (by omega)
                            refine pw_if2 E (pc' := 288) rfl (by decide) (by omega) (by omega) (by omega) (by omega) ?_ ?_
                            · intro hc83
                              change pw_p2 k102_12 ≤ k153_17 at hc83
                              have hK : (k153_17).toNat = 2 ^ (po_A (pv_sdm h b e)).toNat := po_p2E (by omega) (by omega)
                              rw [hK] at hx153_0 hx153_1
                              have eY : k153_15 = po_Y (pv_sdm h b e) := hx153_0
                              have eX : k153_13 = po_X (pv_sdm h b e) (pv_chm h b e) := hx153_1
                              have hXB := po_XB (sd := pv_sdm h b e) (ch := pv_chm h b e) hok (by omega)
                              refine pw_ld E (pc' := 289) (st' := [.ref 141]) rfl (fun _ => rfl) ?_
                              refine pw_ld E (pc' := 291) (st' := [.long (Int64.ofInt k153_13), .ref 141]) rfl (fun _ => rfl) ?_
                              refine pw_putL I102 E (c := 125) (k := 24) (pc' := 294) rfl rfl rfl rfl rfl rfl ?_
                              intro h84I h84E
                              generalize h84w : pw_w gh102 125 24 (.long (Int64.ofInt k153_13)) = h84 at h84I h84E ⊢
                              have h84F := E102.tr (h84E.wk (W' := [125, 144]) (by first | rfl | simp))
                              refine pw_ld E (pc' := 295) (st' := [.ref 141]) rfl (fun _ => rfl) ?_
                              refine pw_ld E (pc' := 297) (st' := [.long (Int64.ofInt k153_15), .ref 141]) rfl (fun _ => rfl) ?_
                              refine pw_putM h84I E (c := 125) (k := 25) (pc' := 300) rfl rfl rfl rfl (by omega) (by omega) (by omega) (by omega) rfl rfl ?_
                              intro h85I h85E
                              generalize h85w : pw_w h84 125 25 (.long (Int64.ofInt k153_15)) = h85 at h85I h85E ⊢
                              have h85F := h84F.tr (h85E.wk (W' := [125, 144]) (by first | rfl | simp))
                              refine pw_ld E (pc' := 301) (st' := [.ref 141]) rfl (fun _ => rfl) ?_
                              refine pw_ld E (pc' := 302) (st' := [pw_i wt, .ref 141]) rfl (fun _ => rfl) ?_
                              have he86 : pw_gm h85 125 24 = pw_gm h84 125 24 := by rw [← h85w]; exact pw_gm_ne (by omega)
                              have he87 : pw_gm h84 125 24 = k153_13 := by rw [← h84w]; exact pw_gm_eq (c := 125) (k := 24) I102 rfl rfl (by omega) (by omega)
                              have he88 : pw_gm h85 125 25 = k153_15 := by rw [← h85w]; exact pw_gm_eq (c := 125) (k := 25) h84I rfl rfl (by omega) (by omega)
                              obtain ⟨f89l, f89h, -⟩ := pw_obj (c := 125) h85I rfl
                              refine pw_call (m' := 222) (As := [.ref 141, pw_i wt]) (rest := []) (ls'' := [some (.ref 141), some (pw_i wt), none, none]) (Nat.le_trans (by decide) hd) E rfl (fun _ => pw_iV rfl rfl rfl rfl (pw_cellI f89h rfl)) (rfl : pm_ent 222 = some (2, 4, 12, 2, pmc_222)) rfl rfl (cm_222_g (pw_dp hd (by decide)) h85I (wt) (by omega) (by omega) (by omega) (by omega) (by omega) (by omega)) ?_
                              rintro u91 v90 ⟨rfl, x92, rfl, hx92a, hx92b, hx92r⟩
                              refine ⟨_, rfl, ?_⟩
                              show pw X d h85 233 305 [some (.ref 141), some (pw_i b), some (pw_i e), some (pw_i wt), some (.long (Int64.ofInt (-(pw_gm h15 125 24)))), none, some (.long (Int64.ofInt (pw_gm h15 125 27))), none, some (.long (Int64.ofInt (pw_gm h15 125 29))), none, some (.long (Int64.ofInt ((pw_gm h15 125 26) + (pw_gm h15 125 28)))), none, some (pw_i k102_12), some (.long (Int64.ofInt k153_13)), none, some (.long (Int64.ofInt k153_15)), none, some (pw_i k153_17), k153_18, k153_19, none, k153_21, none] [.long (Int64.ofInt x92)] _
                              change (wt = 0 → x92 = Int.tdiv (pw_gm h85 125 24) (pw_gd (pw_gm h85 125 24) (pw_gm h85 125 25))) ∧ (wt ≠ 0 → x92 = Int.tdiv (pw_gm h85 125 25) (pw_gd (pw_gm h85 125 24) (pw_gm h85 125 25))) at hx92r
                              refine pw_lret E rfl ?_
                              have e4 : pw_gm h85 125 24 = po_X (pv_sdm h b e) (pv_chm h b e) := by omega
                              have e5 : pw_gm h85 125 25 = po_Y (pv_sdm h b e) := by omega
                              rw [e4, e5] at hx92r
                              exact ⟨h85I, h85F, ⟨_, rfl, by omega, by omega, Or.inl ⟨⟨by omega, hok, by omega⟩, pv_low hx92r⟩⟩⟩
                            · intro hc93
                              change ¬ (pw_p2 k102_12 ≤ k153_17) at hc93
                              have hsk : (k153_17).toNat < 2 ^ (po_A (pv_sdm h b e)).toNat := po_p2 (by omega) (by omega) (by omega)
                              refine pw_ld E (pc' := 163) (st' := [pw_i 0]) rfl (fun _ => rfl) ?_
                              refine pw_ist E (pc' := 165) (ls' := [some (.ref 141), some (pw_i b), some (pw_i e), some (pw_i wt), some (.long (Int64.ofInt (-(pw_gm h15 125 24)))), none, some (.long (Int64.ofInt (pw_gm h15 125 27))), none, some (.long (Int64.ofInt (pw_gm h15 125 29))), none, some (.long (Int64.ofInt ((pw_gm h15 125 26) + (pw_gm h15 125 28)))), none, some (pw_i k102_12), some (.long (Int64.ofInt k153_13)), none, some (.long (Int64.ofInt k153_15)), none, some (pw_i k153_17), some (pw_i 0), k153_19, none, k153_21, none]) rfl rfl rfl rfl ?_
                              refine pw_ld E (pc' := 166) (st' := [.long (Int64.ofInt 0)]) rfl (fun _ => rfl) ?_
                              refine pw_lst E (pc' := 168) (ls' := [some (.ref 141), some (pw_i b), some (pw_i e), some (pw_i wt), some (.long (Int64.ofInt (-(pw_gm h15 125 24)))), none, some (.long (Int64.ofInt (pw_gm h15 125 27))), none, some (.long (Int64.ofInt (pw_gm h15 125 29))), none, some (.long (Int64.ofInt ((pw_gm h15 125 26) + (pw_gm h15 125 28)))), none, some (pw_i k102_12), some (.long (Int64.ofInt k153_13)), none, some (.long (Int64.ofInt k153_15)), none, some (pw_i k153_17), some (pw_i 0), some (.long (Int64.ofInt 0)), none, k153_21, none]) rfl rfl rfl rfl ?_
                              refine pw_ld E (pc' := 169) (st' := [pw_i 0]) rfl (fun _ => rfl) ?_
                              refine pw_ist E (pc' := 171) (ls' := [some (.ref 141), some (pw_i b), some (pw_i e), some (pw_i wt), some (.long (Int64.ofInt (-(pw_gm h15 125 24)))), none, some (.long (Int64.ofInt (pw_gm h15 125 27))), none, some (.long (Int64.ofInt (pw_gm h15 125 29))), none, some (.long (Int64.ofInt ((pw_gm h15 125 26) + (pw_gm h15 125 28)))), none, some (pw_i k102_12), some (.long (Int64.ofInt k153_13)), none, some (.long (Int64.ofInt k153_15)), none, some (pw_i k153_17), some (pw_i 0), some (.long (Int64.ofInt 0)), none, some (pw_i 0), none]) rfl rfl rfl rfl ?_
                              have L171 : ∀ (n171 : Nat) (k171_18 : Int) (k171_19 : Int) (k171_21 : Int), 0 ≤ k171_18 → k171_18 ≤ 14 → (-28000) ≤ k171_19 → k171_19 ≤ 28000 → 0 ≤ k171_21 → k171_21 ≤ 14 → k171_18 = (pb_n (k153_17).toNat (k171_21).toNat : Int) → k171_19 = pb_S (pw_g gh102 144) (k153_17).toNat (k171_21).toNat → (-2000) * k171_21 ≤ k171_19 → k171_19 ≤ 2000 * k171_21 → k171_18 ≤ k171_21 → k171_21 ≤ k102_12 → (24 - k171_21).toNat = n171 → pw X d gh102 233 171 [some (.ref 141), some (pw_i b), some (pw_i e), some (pw_i wt), some (.long (Int64.ofInt (-(pw_gm h15 125 24)))), none, some (.long (Int64.ofInt (pw_gm h15 125 27))), none, some (.long (Int64.ofInt (pw_gm h15 125 29))), none, some (.long (Int64.ofInt ((pw_gm h15 125 26) + (pw_gm h15 125 28)))), none, some (pw_i k102_12), some (.long (Int64.ofInt k153_13)), none, some (.long (Int64.ofInt k153_15)), none, some (pw_i k153_17), some (pw_i k171_18), some (.long (Int64.ofInt k171_19)), none, some (pw_i k171_21), none] [] (fun h' v => pw_I h' ∧ pw_E [125, 144] h h' ∧ ∃ a : Int, v = .inl (some (.long (Int64.ofInt a))) ∧ (-1099511627776) ≤ a ∧ a ≤ 1099511627776 ∧ ((((0 ≤ b ∧ b ≤ 11 ∧ 0 ≤ e ∧ e ≤ 11 ∧ b ≠ e ∧ 0 ≤ wt ∧ wt ≤ 1) ∧ pv_OK (pv_sdm h b e) ∧ po_A (pv_sdm h b e) ≤ 14) ∧ a = pv_LW (po_X (pv_sdm h b e) (pv_chm h b e)) (po_Y (pv_sdm h b e)) wt) ∨ (¬ ((0 ≤ b ∧ b ≤ 11 ∧ 0 ≤ e ∧ e ≤ 11 ∧ b ≠ e ∧ 0 ≤ wt ∧ wt ≤ 1) ∧ pv_OK (pv_sdm h b e) ∧ po_A (pv_sdm h b e) ≤ 14) ∧ a = -1))) := by
                                intro n171
                                induction n171 using Nat.strongRecOn with
                                | ind n171 ih171 =>
                                  intro k171_18 k171_19 k171_21 k171_18a k171_18b k171_19a k171_19b k171_21a k171_21b hx171_0 hx171_1 hx171_2 hx171_3 hx171_4 hx171_5 hm171
                                  refine pw_ld E (pc' := 173) (st' := [pw_i k171_21]) rfl (fun _ => rfl) ?_
                                  refine pw_ld E (pc' := 175) (st' := [pw_i k102_12, pw_i k171_21]) rfl (fun _ => rfl) ?_
                                  refine pw_if2 E (pc' := 224) rfl (by decide) (by omega) (by omega) (by omega) (by omega) ?_ ?_
                                  · intro hc94
                                    change k102_12 ≤ k171_21 at hc94
                                    have h21 : k171_21 = po_A (pv_sdm h b e) := by omega
                                    rw [h21] at hx171_0 hx171_1
                                    have e24 : (24 : Int).toNat = 24 := rfl
                                    have hSc : pb_S (pc_B (pv_sdm h b e) (pv_chm h b e) 24) (k153_17).toNat (po_A (pv_sdm h b e)).toNat = k171_19 := by rw [hx171_1]; exact (pb_SC _ (fun j hj _ => hBA j (by rw [e24]; omega))).symm
                                    refine pw_ld E (pc' := 226) (st' := [pw_i k171_18]) rfl (fun _ => rfl) ?_
                                    refine pw_i2l E (pc' := 227) rfl rfl (by omega) (by omega) ?_
                                    refine pw_ld E (pc' := 229) (st' := [.long (Int64.ofInt (pw_gm h15 125 27)), .long (Int64.ofInt k171_18)]) rfl (fun _ => rfl) ?_
                                    refine pw_lcmpC E (pc' := 230) rfl rfl (by omega) (by omega) (by omega) (by omega) (fun c95 hc95 => ?_)
                                    refine pw_if E (pc' := 282) rfl (by decide) (by omega) (by omega) ?_ ?_
                                    · intro hc96
                                      change c95 ≠ (0 : Int) at hc96
                                      have w1 := po_Ws (q := pv_N (pv_sdm h b e) 0 24) (m := (po_A (pv_sdm h b e)).toNat) (s := k153_17) (by omega)
                                      have f1 := po_Fs (r := pc_B (pv_sdm h b e) (pv_chm h b e) 24) (al := po_A (pv_sdm h b e)) (tf := po_T (pv_sdm h b e) (pv_chm h b e)) (ow := po_O (pv_sdm h b e) (pv_chm h b e)) (q := pv_N (pv_sdm h b e) 0 24) (m := (po_A (pv_sdm h b e)).toNat) (s := k153_17) (by omega)
                                      have w2 := w1.2 (by omega)
                                      have f2 := f1.2.2 (by omega)
                                      refine pw_inc E (pc' := 285) (ls' := [some (.ref 141), some (pw_i b), some (pw_i e), some (pw_i wt), some (.long (Int64.ofInt (-(pw_gm h15 125 24)))), none, some (.long (Int64.ofInt (pw_gm h15 125 27))), none, some (.long (Int64.ofInt (pw_gm h15 125 29))), none, some (.long (Int64.ofInt ((pw_gm h15 125 26) + (pw_gm h15 125 28)))), none, some (pw_i k102_12), some (.long (Int64.ofInt k153_13)), none, some (.long (Int64.ofInt k153_15)), none, some (pw_i (k153_17 + 1)), some (pw_i k171_18), some (.long (Int64.ofInt k171_19)), none, some (pw_i k171_21), none]) rfl rfl rfl rfl ?_
                                      refine pw_goto E (pc' := 153) rfl (by decide) ?_
                                      exact ih153 _ (by omega) (k153_13) (k153_15) (k153_17 + 1) (some (pw_i k171_18)) (some (.long (Int64.ofInt k171_19))) (some (pw_i k171_21))  (by omega) (by omega) (by omega) (by omega) (by omega) (by omega) (by omega) (by omega) (by omega) (by omega) (by omega) rfl
                                    · intro hc97
                                      change ¬ (c95 ≠ (0 : Int)) at hc97
                                      refine pw_ld E (pc' := 235) (st' := [.long (Int64.ofInt k171_19)]) rfl (fun _ => rfl) ?_
                                      refine pw_ld E (pc' := 237) (st' := [.long (Int64.ofInt (pw_gm h15 125 29)), .long (Int64.ofInt k171_19)]) rfl (fun _ => rfl) ?_
                                      have hm98 := pw_mulS (a := k171_19) (b := pw_gm h15 125 29) (A := 28000) (B := 14) (by omega) (by omega) (by omega) (by omega)
                                      refine pw_lmul E (pc' := 238) rfl rfl ?_
                                      refine pw_ld E (pc' := 240) (st' := [.long (Int64.ofInt ((pw_gm h15 125 26) + (pw_gm h15 125 28))), .long (Int64.ofInt (k171_19 * (pw_gm h15 125 29)))]) rfl (fun _ => rfl) ?_
                                      refine pw_ld E (pc' := 242) (st' := [.long (Int64.ofInt k171_19), .long (Int64.ofInt ((pw_gm h15 125 26) + (pw_gm h15 125 28))), .long (Int64.ofInt (k171_19 * (pw_gm h15 125 29)))]) rfl (fun _ => rfl) ?_
                                      refine pw_lsub E (pc' := 243) rfl rfl ?_
                                      refine pw_ld E (pc' := 245) (st' := [.long (Int64.ofInt (pw_gm h15 125 27)), .long (Int64.ofInt (((pw_gm h15 125 26) + (pw_gm h15 125 28)) - k171_19)), .long (Int64.ofInt (k171_19 * (pw_gm h15 125 29)))]) rfl (fun _ => rfl) ?_
                                      have hm99 := pw_mulS (a := ((pw_gm h15 125 26) + (pw_gm h15 125 28)) - k171_19) (b := pw_gm h15 125 27) (A := 124000) (B := 14) (by omega) (by omega) (by omega) (by omega)
                                      refine pw_lmul E (pc' := 246) rfl rfl ?_
                                      refine pw_lsub E (pc' := 247) rfl rfl ?_
                                      refine pw_lst E (pc' := 249) (ls' := [some (.ref 141), some (pw_i b), some (pw_i e), some (pw_i wt), some (.long (Int64.ofInt (-(pw_gm h15 125 24)))), none, some (.long (Int64.ofInt (pw_gm h15 125 27))), none, some (.long (Int64.ofInt (pw_gm h15 125 29))), none, some (.long (Int64.ofInt ((pw_gm h15 125 26) + (pw_gm h15 125 28)))), none, some (pw_i k102_12), some (.long (Int64.ofInt k153_13)), none, some (.long (Int64.ofInt k153_15)), none, some (pw_i k153_17), some (pw_i k171_18), some (.long (Int64.ofInt k171_19)), none, some (.long (Int64.ofInt ((k171_19 * (pw_gm h15 125 29)) - ((((pw_gm h15 125 26) + (pw_gm h15 125 28)) - k171_19) * (pw_gm h15 125 27))))), none]) rfl rfl rfl rfl ?_
                                      refine pw_ld E (pc' := 251) (st' := [.long (Int64.ofInt k153_15)]) rfl (fun _ => rfl) ?_
                                      refine pw_ld E (pc' := 252) (st' := [.long (Int64.ofInt 1), .long (Int64.ofInt k153_15)]) rfl (fun _ => rfl) ?_
                                      refine pw_ladd E (pc' := 253) rfl rfl ?_
                                      refine pw_lst E (pc' := 255) (ls' := [some (.ref 141), some (pw_i b), some (pw_i e), some (pw_i wt), some (.long (Int64.ofInt (-(pw_gm h15 125 24)))), none, some (.long (Int64.ofInt (pw_gm h15 125 27))), none, some (.long (Int64.ofInt (pw_gm h15 125 29))), none, some (.long (Int64.ofInt ((pw_gm h15 125 26) + (pw_gm h15 125 28)))), none, some (pw_i k102_12), some (.long (Int64.ofInt k153_13)), none, some (.long (Int64.ofInt (k153_15 + 1))), none, some (pw_i k153_17), some (pw_i k171_18), some (.long (Int64.ofInt k171_19)), none, some (.long (Int64.ofInt ((k171_19 * (pw_gm h15 125 29)) - ((((pw_gm h15 125 26) + (pw_gm h15 125 28)) - k171_19) * (pw_gm h15 125 27))))), none]) rfl rfl rfl rfl ?_
                                      refine pw_ld E (pc' := 257) (st' := [.long (Int64.ofInt k153_13)]) rfl (fun _ => rfl) ?_
                                      refine pw_ld E (pc' := 259) (st' := [.long (Int64.ofInt ((k171_19 * (pw_gm h15 125 29)) - ((((pw_gm h15 125 26) + (pw_gm h15 125 28)) - k171_19) * (pw_gm h15 125 27)))), .long (Int64.ofInt k153_13)]) rfl (fun _ => rfl) ?_
                                      refine pw_ld E (pc' := 261) (st' := [.long (Int64.ofInt (-(pw_gm h15 125 24))), .long (Int64.ofInt ((k171_19 * (pw_gm h15 125 29)) - ((((pw_gm h15 125 26) + (pw_gm h15 125 28)) - k171_19) * (pw_gm h15 125 27)))), .long (Int64.ofInt k153_13)]) rfl (fun _ => rfl) ?_
                                      refine pw_lcmpC E (pc' := 262) rfl rfl (by omega) (by omega) (by omega) (by omega) (fun c100 hc100 => ?_)
                                      refine pw_if E (pc' := 274) rfl (by decide) (by omega) (by omega) ?_ ?_
                                      · intro hc101
                                        change (0 : Int) ≤ c100 at hc101
                                        refine pw_ld E (pc' := 275) (st' := [.long (Int64.ofInt 1), .long (Int64.ofInt k153_13)]) rfl (fun _ => rfl) ?_
                                        refine pw_goto E (pc' := 279) rfl (by decide) ?_
                                        refine pw_ladd E (pc' := 280) rfl rfl ?_
                                        refine pw_lst E (pc' := 282) (ls' := [some (.ref 141), some (pw_i b), some (pw_i e), some (pw_i wt), some (.long (Int64.ofInt (-(pw_gm h15 125 24)))), none, some (.long (Int64.ofInt (pw_gm h15 125 27))), none, some (.long (Int64.ofInt (pw_gm h15 125 29))), none, some (.long (Int64.ofInt ((pw_gm h15 125 26) + (pw_gm h15 125 28)))), none, some (pw_i k102_12), some (.long (Int64.ofInt (k153_13 + 1))), none, some (.long (Int64.ofInt (k153_15 + 1))), none, some (pw_i k153_17), some (pw_i k171_18), some (.long (Int64.ofInt k171_19)), none, some (.long (Int64.ofInt ((k171_19 * (pw_gm h15 125 29)) - ((((pw_gm h15 125 26) + (pw_gm h15 125 28)) - k171_19) * (pw_gm h15 125 27))))), none]) rfl rfl rfl rfl ?_
                                        have w1 := po_Ws (q := pv_N (pv_sdm h b e) 0 24) (m := (po_A (pv_sdm h b e)).toNat) (s := k153_17) (by omega)
                                        have f1 := po_Fs (r := pc_B (pv_sdm h b e) (pv_chm h b e) 24) (al := po_A (pv_sdm h b e)) (tf := po_T (pv_sdm h b e) (pv_chm h b e)) (ow := po_O (pv_sdm h b e) (pv_chm h b e)) (q := pv_N (pv_sdm h b e) 0 24) (m := (po_A (pv_sdm h b e)).toNat) (s := k153_17) (by omega)
                                        have fv := po_vF hSc eA eT
                                        have w2 := w1.1 (by omega)
                                        have f2 := f1.1 (by omega) (by rw [fv]; omega)
                                        refine pw_inc E (pc' := 285) (ls' := [some (.ref 141), some (pw_i b), some (pw_i e), some (pw_i wt), some (.long (Int64.ofInt (-(pw_gm h15 125 24)))), none, some (.long (Int64.ofInt (pw_gm h15 125 27))), none, some (.long (Int64.ofInt (pw_gm h15 125 29))), none, some (.long (Int64.ofInt ((pw_gm h15 125 26) + (pw_gm h15 125 28)))), none, some (pw_i k102_12), some (.long (Int64.ofInt (k153_13 + 1))), none, some (.long (Int64.ofInt (k153_15 + 1))), none, some (pw_i (k153_17 + 1)), some (pw_i k171_18), some (.long (Int64.ofInt k171_19)), none, some (.long (Int64.ofInt ((k171_19 * (pw_gm h15 125 29)) - ((((pw_gm h15 125 26) + (pw_gm h15 125 28)) - k171_19) * (pw_gm h15 125 27))))), none]) rfl rfl rfl rfl ?_
                                        refine pw_goto E (pc' := 153) rfl (by decide) ?_
                                        exact ih153 _ (by omega) (k153_13 + 1) (k153_15 + 1) (k153_17 + 1) (some (pw_i k171_18)) (some (.long (Int64.ofInt k171_19))) (some (.long (Int64.ofInt ((k171_19 * (pw_gm h15 125 29)) - ((((pw_gm h15 125 26) + (pw_gm h15 125 28)) - k171_19) * (pw_gm h15 125 27))))))  (by omega) (by omega) (by omega) (by omega) (by omega) (by omega) (by omega) (by omega) (by omega) (by omega) (by omega) rfl
                                      · intro hc102
                                        change ¬ ((0 : Int) ≤ c100) at hc102
                                        refine pw_ld E (pc' := 267) (st' := [.long (Int64.ofInt ((k171_19 * (pw_gm h15 125 29)) - ((((pw_gm h15 125 26) + (pw_gm h15 125 28)) - k171_19) * (pw_gm h15 125 27)))), .long (Int64.ofInt k153_13)]) rfl (fun _ => rfl) ?_
                                        refine pw_lnegC E (pc' := 268) rfl rfl ?_
                                        refine pw_ld E (pc' := 270) (st' := [.long (Int64.ofInt (-(pw_gm h15 125 24))), .long (Int64.ofInt (-((k171_19 * (pw_gm h15 125 29)) - ((((pw_gm h15 125 26) + (pw_gm h15 125 28)) - k171_19) * (pw_gm h15 125 27))))), .long (Int64.ofInt k153_13)]) rfl (fun _ => rfl) ?_
                                        refine pw_lcmpC E (pc' := 271) rfl rfl (by omega) (by omega) (by omega) (by omega) (fun c103 hc103 => ?_)
                                        refine pw_if E (pc' := 278) rfl (by decide) (by omega) (by omega) ?_ ?_
                                        · intro hc104
                                          change c103 < (0 : Int) at hc104
                                          refine pw_ld E (pc' := 279) (st' := [.long (Int64.ofInt 0), .long (Int64.ofInt k153_13)]) rfl (fun _ => rfl) ?_
                                          refine pw_ladd E (pc' := 280) rfl rfl ?_
                                          refine pw_lst E (pc' := 282) (ls' := [some (.ref 141), some (pw_i b), some (pw_i e), some (pw_i wt), some (.long (Int64.ofInt (-(pw_gm h15 125 24)))), none, some (.long (Int64.ofInt (pw_gm h15 125 27))), none, some (.long (Int64.ofInt (pw_gm h15 125 29))), none, some (.long (Int64.ofInt ((pw_gm h15 125 26) + (pw_gm h15 125 28)))), none, some (pw_i k102_12), some (.long (Int64.ofInt (k153_13 + 0))), none, some (.long (Int64.ofInt (k153_15 + 1))), none, some (pw_i k153_17), some (pw_i k171_18), some (.long (Int64.ofInt k171_19)), none, some (.long (Int64.ofInt ((k171_19 * (pw_gm h15 125 29)) - ((((pw_gm h15 125 26) + (pw_gm h15 125 28)) - k171_19) * (pw_gm h15 125 27))))), none]) rfl rfl rfl rfl ?_
                                          have w1 := po_Ws (q := pv_N (pv_sdm h b e) 0 24) (m := (po_A (pv_sdm h b e)).toNat) (s := k153_17) (by omega)
                                          have f1 := po_Fs (r := pc_B (pv_sdm h b e) (pv_chm h b e) 24) (al := po_A (pv_sdm h b e)) (tf := po_T (pv_sdm h b e) (pv_chm h b e)) (ow := po_O (pv_sdm h b e) (pv_chm h b e)) (q := pv_N (pv_sdm h b e) 0 24) (m := (po_A (pv_sdm h b e)).toNat) (s := k153_17) (by omega)
                                          have fv := po_vF hSc eA eT
                                          have w2 := w1.1 (by omega)
                                          have f2 := f1.2.1 (by rw [fv]; omega)
                                          refine pw_inc E (pc' := 285) (ls' := [some (.ref 141), some (pw_i b), some (pw_i e), some (pw_i wt), some (.long (Int64.ofInt (-(pw_gm h15 125 24)))), none, some (.long (Int64.ofInt (pw_gm h15 125 27))), none, some (.long (Int64.ofInt (pw_gm h15 125 29))), none, some (.long (Int64.ofInt ((pw_gm h15 125 26) + (pw_gm h15 125 28)))), none, some (pw_i k102_12), some (.long (Int64.ofInt (k153_13 + 0))), none, some (.long (Int64.ofInt (k153_15 + 1))), none, some (pw_i (k153_17 + 1)), some (pw_i k171_18), some (.long (Int64.ofInt k171_19)), none, some (.long (Int64.ofInt ((k171_19 * (pw_gm h15 125 29)) - ((((pw_gm h15 125 26) + (pw_gm h15 125 28)) - k171_19) * (pw_gm h15 125 27))))), none]) rfl rfl rfl rfl ?_
                                          refine pw_goto E (pc' := 153) rfl (by decide) ?_
                                          exact ih153 _ (by omega) (k153_13 + 0) (k153_15 + 1) (k153_17 + 1) (some (pw_i k171_18)) (some (.long (Int64.ofInt k171_19))) (some (.long (Int64.ofInt ((k171_19 * (pw_gm h15 125 29)) - ((((pw_gm h15 125 26) + (pw_gm h15 125 28)) - k171_19) * (pw_gm h15 125 27))))))  (by omega) (by omega) (by omega) (by omega) (by omega) (by omega) (by omega) (by omega) (by omega) (by omega) (by omega) rfl
                                        · intro hc105
                                          change ¬ (c103 < (0 : Int)) at hc105
                                          refine pw_ld E (pc' := 275) (st' := [.long (Int64.ofInt 1), .long (Int64.ofInt k153_13)]) rfl (fun _ => rfl) ?_
                                          refine pw_goto E (pc' := 279) rfl (by decide) ?_
                                          refine pw_ladd E (pc' := 280) rfl rfl ?_
                                          refine pw_lst E (pc' := 282) (ls' := [some (.ref 141), some (pw_i b), some (pw_i e), some (pw_i wt), some (.long (Int64.ofInt (-(pw_gm h15 125 24)))), none, some (.long (Int64.ofInt (pw_gm h15 125 27))), none, some (.long (Int64.ofInt (pw_gm h15 125 29))), none, some (.long (Int64.ofInt ((pw_gm h15 125 26) + (pw_gm h15 125 28)))), none, some (pw_i k102_12), some (.long (Int64.ofInt (k153_13 + 1))), none, some (.long (Int64.ofInt (k153_15 + 1))), none, some (pw_i k153_17), some (pw_i k171_18), some (.long (Int64.ofInt k171_19)), none, some (.long (Int64.ofInt ((k171_19 * (pw_gm h15 125 29)) - ((((pw_gm h15 125 26) + (pw_gm h15 125 28)) - k171_19) * (pw_gm h15 125 27))))), none]) rfl rfl rfl rfl ?_
                                          have w1 := po_Ws (q := pv_N (pv_sdm h b e) 0 24) (m := (po_A (pv_sdm h b e)).toNat) (s := k153_17) (by omega)
                                          have f1 := po_Fs (r := pc_B (pv_sdm h b e) (pv_chm h b e) 24) (al := po_A (pv_sdm h b e)) (tf := po_T (pv_sdm h b e) (pv_chm h b e)) (ow := po_O (pv_sdm h b e) (pv_chm h b e)) (q := pv_N (pv_sdm h b e) 0 24) (m := (po_A (pv_sdm h b e)).toNat) (s := k153_17) (by omega)
                                          have fv := po_vF hSc eA eT
                                          have w2 := w1.1 (by omega)
                                          have f2 := f1.1 (by omega) (by rw [fv]; omega)
                                          refine pw_inc E (pc' := 285) (ls' := [some (.ref 141), some (pw_i b), some (pw_i e), some (pw_i wt), some (.long (Int64.ofInt (-(pw_gm h15 125 24)))), none, some (.long (Int64.ofInt (pw_gm h15 125 27))), none, some (.long (Int64.ofInt (pw_gm h15 125 29))), none, some (.long (Int64.ofInt ((pw_gm h15 125 26) + (pw_gm h15 125 28)))), none, some (pw_i k102_12), some (.long (Int64.ofInt (k153_13 + 1))), none, some (.long (Int64.ofInt (k153_15 + 1))), none, some (pw_i (k153_17 + 1)), some (pw_i k171_18), some (.long (Int64.ofInt k171_19)), none, some (.long (Int64.ofInt ((k171_19 * (pw_gm h15 125 29)) - ((((pw_gm h15 125 26) + (pw_gm h15 125 28)) - k171_19) * (pw_gm h15 125 27))))), none]) rfl rfl rfl rfl ?_
                                          refine pw_goto E (pc' := 153) rfl (by decide) ?_
                                          exact ih153 _ (by omega) (k153_13 + 1) (k153_15 + 1) (k153_17 + 1) (some (pw_i k171_18)) (some (.long (Int64.ofInt k171_19))) (some (.long (Int64.ofInt ((k171_19 * (pw_gm h15 125 29)) - ((((pw_gm h15 125 26) + (pw_gm h15 125 28)) - k171_19) * (pw_gm h15 125 27))))))  (by omega) (by omega) (by omega) (by omega) (by omega) (by omega) (by omega) (by omega) (by omega) (by omega) (by omega) rfl
                                  · intro hc106
                                    change ¬ (k102_12 ≤ k171_21) at hc106
                                    have hbit := pb_bit (s := k153_17) (k := k171_21) (by omega) (by omega) (by omega) (by omega)
                                    have hb2 := pb_b2 (k153_17).toNat (k171_21).toNat
                                    have n1 := pb_nS (s := (k153_17).toNat) (k := k171_21) (by omega)
                                    have s1 := pb_SS (r := pw_g gh102 144) (s := (k153_17).toNat) (k := k171_21) (by omega)
                                    refine pw_ld E (pc' := 180) (st' := [pw_i k171_18]) rfl (fun _ => rfl) ?_
                                    refine pw_ld E (pc' := 182) (st' := [pw_i k153_17, pw_i k171_18]) rfl (fun _ => rfl) ?_
                                    refine pw_ld E (pc' := 184) (st' := [pw_i k171_21, pw_i k153_17, pw_i k171_18]) rfl (fun _ => rfl) ?_
                                    refine pw_iiE (f := fun x y => x >>> (y &&& 31)) (c := pw_sr k153_17 k171_21) E (pc' := 185) rfl (fun _ => rfl) rfl ?_
                                    have hp107 := pw_sr_r k153_17 k171_21
                                    refine pw_ld E (pc' := 186) (st' := [pw_i 1, pw_i (pw_sr k153_17 k171_21), pw_i k171_18]) rfl (fun _ => rfl) ?_
                                    refine pw_iiE (f := fun x y => x &&& y) (c := pw_an (pw_sr k153_17 k171_21) 1) E (pc' := 187) rfl (fun _ => rfl) rfl ?_
                                    have hp108 := pw_an_r (pw_sr k153_17 k171_21)
                                    refine pw_add E (pc' := 188) rfl rfl ?_
                                    refine pw_ist E (pc' := 190) (ls' := [some (.ref 141), some (pw_i b), some (pw_i e), some (pw_i wt), some (.long (Int64.ofInt (-(pw_gm h15 125 24)))), none, some (.long (Int64.ofInt (pw_gm h15 125 27))), none, some (.long (Int64.ofInt (pw_gm h15 125 29))), none, some (.long (Int64.ofInt ((pw_gm h15 125 26) + (pw_gm h15 125 28)))), none, some (pw_i k102_12), some (.long (Int64.ofInt k153_13)), none, some (.long (Int64.ofInt k153_15)), none, some (pw_i k153_17), some (pw_i (k171_18 + (pw_an (pw_sr k153_17 k171_21) 1))), some (.long (Int64.ofInt k171_19)), none, some (pw_i k171_21), none]) rfl rfl rfl rfl ?_
                                    refine pw_ld E (pc' := 192) (st' := [.long (Int64.ofInt k171_19)]) rfl (fun _ => rfl) ?_
                                    refine pw_ld E (pc' := 194) (st' := [pw_i k153_17, .long (Int64.ofInt k171_19)]) rfl (fun _ => rfl) ?_
                                    refine pw_ld E (pc' := 196) (st' := [pw_i k171_21, pw_i k153_17, .long (Int64.ofInt k171_19)]) rfl (fun _ => rfl) ?_
                                    refine pw_iiE (f := fun x y => x >>> (y &&& 31)) (c := pw_sr k153_17 k171_21) E (pc' := 197) rfl (fun _ => rfl) rfl ?_
                                    have hp109 := pw_sr_r k153_17 k171_21
                                    refine pw_ld E (pc' := 198) (st' := [pw_i 1, pw_i (pw_sr k153_17 k171_21), .long (Int64.ofInt k171_19)]) rfl (fun _ => rfl) ?_
                                    refine pw_iiE (f := fun x y => x &&& y) (c := pw_an (pw_sr k153_17 k171_21) 1) E (pc' := 199) rfl (fun _ => rfl) rfl ?_
                                    have hp110 := pw_an_r (pw_sr k153_17 k171_21)
                                    refine pw_ld E (pc' := 200) (st' := [pw_i 1, pw_i (pw_an (pw_sr k153_17 k171_21) 1), .long (Int64.ofInt k171_19)]) rfl (fun _ => rfl) ?_
                                    refine pw_if2 E (pc' := 214) rfl (by decide) (by omega) (by omega) (by decide) (by decide) ?_ ?_
                                    · intro hc111
                                      change pw_an (pw_sr k153_17 k171_21) 1 ≠ (1 : Int) at hc111
                                      refine pw_ld E (pc' := 215) (st' := [.long (Int64.ofInt 0), .long (Int64.ofInt k171_19)]) rfl (fun _ => rfl) ?_
                                      have s2 := s1.2 (by omega)
                                      refine pw_ladd E (pc' := 216) rfl rfl ?_
                                      refine pw_lst E (pc' := 218) (ls' := [some (.ref 141), some (pw_i b), some (pw_i e), some (pw_i wt), some (.long (Int64.ofInt (-(pw_gm h15 125 24)))), none, some (.long (Int64.ofInt (pw_gm h15 125 27))), none, some (.long (Int64.ofInt (pw_gm h15 125 29))), none, some (.long (Int64.ofInt ((pw_gm h15 125 26) + (pw_gm h15 125 28)))), none, some (pw_i k102_12), some (.long (Int64.ofInt k153_13)), none, some (.long (Int64.ofInt k153_15)), none, some (pw_i k153_17), some (pw_i (k171_18 + (pw_an (pw_sr k153_17 k171_21) 1))), some (.long (Int64.ofInt (k171_19 + 0))), none, some (pw_i k171_21), none]) rfl rfl rfl rfl ?_
                                      refine pw_inc E (pc' := 221) (ls' := [some (.ref 141), some (pw_i b), some (pw_i e), some (pw_i wt), some (.long (Int64.ofInt (-(pw_gm h15 125 24)))), none, some (.long (Int64.ofInt (pw_gm h15 125 27))), none, some (.long (Int64.ofInt (pw_gm h15 125 29))), none, some (.long (Int64.ofInt ((pw_gm h15 125 26) + (pw_gm h15 125 28)))), none, some (pw_i k102_12), some (.long (Int64.ofInt k153_13)), none, some (.long (Int64.ofInt k153_15)), none, some (pw_i k153_17), some (pw_i (k171_18 + (pw_an (pw_sr k153_17 k171_21) 1))), some (.long (Int64.ofInt (k171_19 + 0))), none, some (pw_i (k171_21 + 1)), none]) rfl rfl rfl rfl ?_
                                      refine pw_goto E (pc' := 171) rfl (by decide) ?_
                                      exact ih171 _ (by omega) (k171_18 + (pw_an (pw_sr k153_17 k171_21) 1)) (k171_19 + 0) (k171_21 + 1)  (by omega) (by omega) (by omega) (by omega) (by omega) (by omega) (by omega) (by omega) (by omega) (by omega) (by omega) (by omega) rfl
                                    · intro hc112
                                      change ¬ (pw_an (pw_sr k153_17 k171_21) 1 ≠ (1 : Int)) at hc112
                                      refine pw_ld E (pc' := 204) (st' := [.ref 141, .long (Int64.ofInt k171_19)]) rfl (fun _ => rfl) ?_
                                      refine pw_getR (b := 160) I102 E (c := 125) (k := 30) (pc' := 207) rfl rfl rfl rfl rfl rfl rfl ?_
                                      refine pw_ld E (pc' := 209) (st' := [pw_i k171_21, .ref 160, .long (Int64.ofInt k171_19)]) rfl (fun _ => rfl) ?_
                                      refine pw_ald2 I102 E (c := 144) (pc' := 210) rfl rfl rfl (by decide) rfl (by decide) (by omega) (by omega) rfl (fun hf113a hf113b => ?_)
                                      have o3 := po_rowB hBA hMA hsk hbm (k171_21).toNat (by omega)
                                      refine pw_i2l E (pc' := 211) rfl rfl (by omega) (by omega) ?_
                                      refine pw_goto E (pc' := 215) rfl (by decide) ?_
                                      have s2 := s1.1 (by omega)
                                      refine pw_ladd E (pc' := 216) rfl rfl ?_
                                      refine pw_lst E (pc' := 218) (ls' := [some (.ref 141), some (pw_i b), some (pw_i e), some (pw_i wt), some (.long (Int64.ofInt (-(pw_gm h15 125 24)))), none, some (.long (Int64.ofInt (pw_gm h15 125 27))), none, some (.long (Int64.ofInt (pw_gm h15 125 29))), none, some (.long (Int64.ofInt ((pw_gm h15 125 26) + (pw_gm h15 125 28)))), none, some (pw_i k102_12), some (.long (Int64.ofInt k153_13)), none, some (.long (Int64.ofInt k153_15)), none, some (pw_i k153_17), some (pw_i (k171_18 + (pw_an (pw_sr k153_17 k171_21) 1))), some (.long (Int64.ofInt (k171_19 + (pw_g gh102 144 (k171_21.toNat))))), none, some (pw_i k171_21), none]) rfl rfl rfl rfl ?_
                                      refine pw_inc E (pc' := 221) (ls' := [some (.ref 141), some (pw_i b), some (pw_i e), some (pw_i wt), some (.long (Int64.ofInt (-(pw_gm h15 125 24)))), none, some (.long (Int64.ofInt (pw_gm h15 125 27))), none, some (.long (Int64.ofInt (pw_gm h15 125 29))), none, some (.long (Int64.ofInt ((pw_gm h15 125 26) + (pw_gm h15 125 28)))), none, some (pw_i k102_12), some (.long (Int64.ofInt k153_13)), none, some (.long (Int64.ofInt k153_15)), none, some (pw_i k153_17), some (pw_i (k171_18 + (pw_an (pw_sr k153_17 k171_21) 1))), some (.long (Int64.ofInt (k171_19 + (pw_g gh102 144 (k171_21.toNat))))), none, some (pw_i (k171_21 + 1)), none]) rfl rfl rfl rfl ?_
                                      refine pw_goto E (pc' := 171) rfl (by decide) ?_
                                      exact ih171 _ (by omega) (k171_18 + (pw_an (pw_sr k153_17 k171_21) 1)) (k171_19 + (pw_g gh102 144 (k171_21.toNat))) (k171_21 + 1)  (by omega) (by omega) (by omega) (by omega) (by omega) (by omega) (by omega) (by omega) (by omega) (by omega) (by omega) (by omega) rfl
                              exact L171 _ (0) (0) (0)  (by omega) (by omega) (by omega) (by omega) (by omega) (by omega) rfl rfl (by omega) (by omega) (by omega) (by omega) rfl
                        exact L153 _ (0) (0) (0) (none) (none) (none)  (by omega) (by omega) (by omega) (by omega) (by omega) (by omega) rfl rfl (by omega) (by omega) (by omega) rfl
                      · intro hc114
                        change ¬ ((24 : Int) ≤ k102_13) at hc114
                        have o1 := pc_Ms (sd := pv_sdm h b e) (k := k102_13) (by omega)
                        have od := pv_sdmI (h := h) (b := b) (e := e) (k := k102_13) (by omega)
                        have q1 : pw_g gh102 131 (k102_13).toNat = pw_g h 131 (k102_13).toNat := pw_Eg (c := 131) I E102 rfl rfl _
                        have qb : pw_g gh102 138 (12 * k102_13 + b).toNat = pw_g h 138 (12 * k102_13 + b).toNat := pw_Eg (c := 138) I E102 rfl rfl _
                        have qe : pw_g gh102 138 (12 * k102_13 + e).toNat = pw_g h 138 (12 * k102_13 + e).toNat := pw_Eg (c := 138) I E102 rfl rfl _
                        have q4 : pw_g gh102 132 (k102_13).toNat = pw_g h 132 (k102_13).toNat := pw_Eg (c := 132) I E102 rfl rfl _
                        have hkb : pv_hmk gh102 b k102_13 = pv_hmk h b k102_13 := pv_hmkE I E102 rfl
                        have hke : pv_hmk gh102 e k102_13 = pv_hmk h e k102_13 := pv_hmkE I E102 rfl
                        have hw4 := pw_gA (c := 132) (j := k102_13) I rfl (by decide) (by omega) (by omega)
                        refine pw_ld E (pc' := 110) (st' := [.ref 141]) rfl (fun _ => rfl) ?_
                        refine pw_ld E (pc' := 112) (st' := [pw_i k102_13, .ref 141]) rfl (fun _ => rfl) ?_
                        refine pw_ld E (pc' := 113) (st' := [pw_i b, pw_i k102_13, .ref 141]) rfl (fun _ => rfl) ?_
                        refine pw_ld E (pc' := 114) (st' := [pw_i e, pw_i b, pw_i k102_13, .ref 141]) rfl (fun _ => rfl) ?_
                        obtain ⟨f115l, f115h, -⟩ := pw_obj (c := 125) I102 rfl
                        refine pw_call (m' := 214) (As := [.ref 141, pw_i k102_13, pw_i b, pw_i e]) (rest := []) (ls'' := [some (.ref 141), some (pw_i k102_13), some (pw_i b), some (pw_i e)]) (Nat.le_trans (by decide) hd) E rfl (fun _ => pw_iV rfl rfl rfl rfl (pw_cellI f115h rfl)) (rfl : pm_ent 214 = some (4, 4, 12, 1, pmc_214)) rfl rfl (cm_214_s (pw_dp hd (by decide)) I102 (k102_13) (by omega) (by omega) (b) (by omega) (by omega) (e) (by omega) (by omega)) ?_
                        rintro u117 v116 ⟨rfl, x118, rfl, hx118a, hx118b, hx118r⟩
                        refine ⟨_, rfl, ?_⟩
                        show pw X d gh102 233 117 [some (.ref 141), some (pw_i b), some (pw_i e), some (pw_i wt), some (.long (Int64.ofInt (-(pw_gm h15 125 24)))), none, some (.long (Int64.ofInt (pw_gm h15 125 27))), none, some (.long (Int64.ofInt (pw_gm h15 125 29))), none, some (.long (Int64.ofInt ((pw_gm h15 125 26) + (pw_gm h15 125 28)))), none, some (pw_i k102_12), some (pw_i k102_13), none, none, none, none, none, none, none, none, none] [pw_i x118] _
                        change (x118 = 1 ∧ pw_g gh102 131 k102_13.toNat ≠ 0 ∧ pw_g gh102 138 (12 * k102_13 + b).toNat ≠ 0 ∧ pw_g gh102 138 (12 * k102_13 + e).toNat ≠ 0) ∨ (x118 = 0 ∧ ¬ (pw_g gh102 131 k102_13.toNat ≠ 0 ∧ pw_g gh102 138 (12 * k102_13 + b).toNat ≠ 0 ∧ pw_g gh102 138 (12 * k102_13 + e).toNat ≠ 0)) at hx118r
                        rcases (by omega : x118 = 1 ∨ x118 = 0) with hb119 | hb119
                        · skip
                          refine pw_if E (pc' := 138) rfl (by decide) (by omega) (by omega) ?_ ?_
                          · intro hc120
                            change x118 = (0 : Int) at hc120
                            exfalso; omega
                          · intro hc121
                            change ¬ (x118 = (0 : Int)) at hc121
                            refine pw_ld E (pc' := 121) (st' := [.ref 141]) rfl (fun _ => rfl) ?_
                            refine pw_getR (b := 160) I102 E (c := 125) (k := 30) (pc' := 124) rfl rfl rfl rfl rfl rfl rfl ?_
                            refine pw_ld E (pc' := 126) (st' := [pw_i k102_12, .ref 160]) rfl (fun _ => rfl) ?_
                            refine pw_ld E (pc' := 127) (st' := [.ref 141, pw_i k102_12, .ref 160]) rfl (fun _ => rfl) ?_
                            refine pw_ld E (pc' := 129) (st' := [pw_i k102_13, .ref 141, pw_i k102_12, .ref 160]) rfl (fun _ => rfl) ?_
                            refine pw_ld E (pc' := 130) (st' := [pw_i b, pw_i k102_13, .ref 141, pw_i k102_12, .ref 160]) rfl (fun _ => rfl) ?_
                            refine pw_ld E (pc' := 131) (st' := [pw_i e, pw_i b, pw_i k102_13, .ref 141, pw_i k102_12, .ref 160]) rfl (fun _ => rfl) ?_
                            obtain ⟨f122l, f122h, -⟩ := pw_obj (c := 125) I102 rfl
                            refine pw_call (m' := 215) (As := [.ref 141, pw_i k102_13, pw_i b, pw_i e]) (rest := [pw_i k102_12, .ref 160]) (ls'' := [some (.ref 141), some (pw_i k102_13), some (pw_i b), some (pw_i e)]) (Nat.le_trans (by decide) hd) E rfl (fun _ => pw_iV rfl rfl rfl rfl (pw_cellI f122h rfl)) (rfl : pm_ent 215 = some (4, 4, 12, 0, pmc_215)) rfl rfl (cm_215_s (pw_dp hd (by decide)) I102 (k102_13) (by omega) (by omega) (b) (by omega) (by omega) (e) (by omega) (by omega)) ?_
                            rintro u124 v123 ⟨rfl, x125, rfl, hx125a, hx125b, hx125r⟩
                            refine ⟨_, rfl, ?_⟩
                            show pw X d gh102 233 134 [some (.ref 141), some (pw_i b), some (pw_i e), some (pw_i wt), some (.long (Int64.ofInt (-(pw_gm h15 125 24)))), none, some (.long (Int64.ofInt (pw_gm h15 125 27))), none, some (.long (Int64.ofInt (pw_gm h15 125 29))), none, some (.long (Int64.ofInt ((pw_gm h15 125 26) + (pw_gm h15 125 28)))), none, some (pw_i k102_12), some (pw_i k102_13), none, none, none, none, none, none, none, none, none] [pw_i x125, pw_i k102_12, .ref 160] _
                            change x125 = pv_hmk gh102 e k102_13 - pv_hmk gh102 b k102_13 at hx125r
                            have hch : x125 = pv_chm h b e (k102_13).toNat := by rw [hx125r, hkb, hke]; exact (pv_chmI (by omega)).symm
                            have hsd : (pv_sdm h b e) (k102_13).toNat ≠ -1 := by omega
                            have o2 := o1.1 hsd
                            refine pw_ast0 I102 E (c := 144) (pc' := 135) rfl rfl rfl (by decide) rfl (by decide) (by omega) (by omega) rfl (by omega) (by omega) (by omega) (by omega) rfl ?_
                            intro h126I h126E
                            generalize h126w : pw_w gh102 144 (k102_12.toNat) (pw_i x125) = h126 at h126I h126E ⊢
                            have h126F := E102.tr (h126E.wk (W' := [125, 144]) (by first | rfl | simp))
                            refine pw_inc E (pc' := 138) (ls' := [some (.ref 141), some (pw_i b), some (pw_i e), some (pw_i wt), some (.long (Int64.ofInt (-(pw_gm h15 125 24)))), none, some (.long (Int64.ofInt (pw_gm h15 125 27))), none, some (.long (Int64.ofInt (pw_gm h15 125 29))), none, some (.long (Int64.ofInt ((pw_gm h15 125 26) + (pw_gm h15 125 28)))), none, some (pw_i (k102_12 + 1)), some (pw_i k102_13), none, none, none, none, none, none, none, none, none]) rfl rfl rfl rfl ?_
                            clear od hx118r
                            refine pw_inc E (pc' := 141) (ls' := [some (.ref 141), some (pw_i b), some (pw_i e), some (pw_i wt), some (.long (Int64.ofInt (-(pw_gm h15 125 24)))), none, some (.long (Int64.ofInt (pw_gm h15 125 27))), none, some (.long (Int64.ofInt (pw_gm h15 125 29))), none, some (.long (Int64.ofInt ((pw_gm h15 125 26) + (pw_gm h15 125 28)))), none, some (pw_i (k102_12 + 1)), some (pw_i (k102_13 + 1)), none, none, none, none, none, none, none, none, none]) rfl rfl rfl rfl ?_
                            refine pw_goto E (pc' := 102) rfl (by decide) ?_
                            exact ih102 _ (by omega) (k102_12 + 1) (k102_13 + 1) h126 h126I h126F (by omega) (by omega) (by omega) (by omega) (by omega) (by omega) (by first | exact pc_BA.yes hx102_2 rfl (by omega) (by omega) hx102_1 hsd hch (by omega) (by omega) I102 (by assumption) | exact pc_BA.no hx102_2 (by omega) hsd) rfl
                        · skip
                          refine pw_if E (pc' := 138) rfl (by decide) (by omega) (by omega) ?_ ?_
                          · intro hc128
                            change x118 = (0 : Int) at hc128
                            have hsd : (pv_sdm h b e) (k102_13).toNat = -1 := by omega
                            have o2 := o1.2 hsd
                            clear od hx118r
                            refine pw_inc E (pc' := 141) (ls' := [some (.ref 141), some (pw_i b), some (pw_i e), some (pw_i wt), some (.long (Int64.ofInt (-(pw_gm h15 125 24)))), none, some (.long (Int64.ofInt (pw_gm h15 125 27))), none, some (.long (Int64.ofInt (pw_gm h15 125 29))), none, some (.long (Int64.ofInt ((pw_gm h15 125 26) + (pw_gm h15 125 28)))), none, some (pw_i k102_12), some (pw_i (k102_13 + 1)), none, none, none, none, none, none, none, none, none]) rfl rfl rfl rfl ?_
                            refine pw_goto E (pc' := 102) rfl (by decide) ?_
                            exact ih102 _ (by omega) (k102_12) (k102_13 + 1) gh102 I102 E102 (by omega) (by omega) (by omega) (by omega) (by omega) (by omega) (by first | exact pc_BA.yes hx102_2 rfl (by omega) (by omega) hx102_1 hsd hch (by omega) (by omega) I102 (by assumption) | exact pc_BA.no hx102_2 (by omega) hsd) rfl
                          · intro hc129
                            change ¬ (x118 = (0 : Int)) at hc129
                            exfalso; omega
                  exact L102 _ (0) (0) h15 h15I h15F (by omega) (by omega) (by omega) (by omega) (by omega) rfl pc_BA.z rfl
              · intro hc130
                change ¬ (c23 ≤ (0 : Int)) at hc130
                refine pw_ld E (pc' := 49) (st' := [.long (Int64.ofInt ((-1)))]) rfl (fun _ => rfl) ?_
                refine pw_lret E rfl ?_
                rw [pv_lo_no, eS0, eC0] at hx17r
                obtain ⟨r1, r2, r3, r4, r5, r6, r7⟩ := hx17r
                exact ⟨h15I, h15F, ⟨_, rfl, by omega, by omega, Or.inr ⟨fun q => by rcases r1 with ⟨z, -⟩ | ⟨-, z⟩; (first | omega | (have q3 := q.2.2; unfold po_A at q3; omega)); exact z q.2.1, rfl⟩⟩⟩
          · skip
            refine pw_if E (pc' := 46) rfl (by decide) (by omega) (by omega) ?_ ?_
            · intro hc132
              change x17 = (0 : Int) at hc132
              refine pw_ld E (pc' := 49) (st' := [.long (Int64.ofInt ((-1)))]) rfl (fun _ => rfl) ?_
              refine pw_lret E rfl ?_
              rw [pv_lo_no, eS0, eC0] at hx17r
              obtain ⟨r1, r2, r3, r4, r5, r6, r7⟩ := hx17r
              exact ⟨h15I, h15F, ⟨_, rfl, by omega, by omega, Or.inr ⟨fun q => by rcases r1 with ⟨z, -⟩ | ⟨-, z⟩; (first | omega | (have q3 := q.2.2; unfold po_A at q3; omega)); exact z q.2.1, rfl⟩⟩⟩
            · intro hc133
              change ¬ (x17 = (0 : Int)) at hc133
              exfalso; omega
      · skip
        refine pw_if E (pc' := 46) rfl (by decide) (by omega) (by omega) ?_ ?_
        · intro hc135
          change x10 = (0 : Int) at hc135
          refine pw_ld E (pc' := 49) (st' := [.long (Int64.ofInt ((-1)))]) rfl (fun _ => rfl) ?_
          refine pw_lret E rfl ?_
          exact ⟨h1I, h1F, ⟨_, rfl, by omega, by omega, Or.inr ⟨fun q => by have q1 := q.1; omega, rfl⟩⟩⟩
        · intro hc136
          change ¬ (x10 = (0 : Int)) at hc136
          exfalso; omega
  · skip
    refine pw_if E (pc' := 46) rfl (by decide) (by omega) (by omega) ?_ ?_
    · intro hc138
      change x4 = (0 : Int) at hc138
      refine pw_ld E (pc' := 49) (st' := [.long (Int64.ofInt ((-1)))]) rfl (fun _ => rfl) ?_
      refine pw_lret E rfl ?_
      exact ⟨h1I, h1F, ⟨_, rfl, by omega, by omega, Or.inr ⟨fun q => by have q1 := q.1; omega, rfl⟩⟩⟩
    · intro hc139
      change ¬ (x4 = (0 : Int)) at hc139
      exfalso; omega
end
section
/-! a new row of ints: Arrays.copyOf, Script.copyOf -/
/-- as pw_E, but one cell of at most 1000 may be new -/
def pw_G (W : List Nat) (h h' : pm_H) : Prop := (h.length ≤ h'.length ∧ h'.length ≤ h.length + 1 ∧ pm_slt h ≤ pm_slt h' ∧ pm_slt h' ≤ pm_slt h + 1000) ∧ ∀ c : Nat, c < h.length → c ∉ W → h'[c]? = h[c]?
theorem pw_E.G {W : List Nat} {a b : pm_H} (h1 : pw_E W a b) : pw_G W a b := ⟨⟨by rw [h1.1.1]; exact Nat.le_refl _, by rw [h1.1.1]; omega, by rw [h1.1.2]; exact Nat.le_refl _, by rw [h1.1.2]; omega⟩, h1.2.1⟩
theorem pw_G.tE {W : List Nat} {a b c : pm_H} (h1 : pw_G W a b) (h2 : pw_E W b c) : pw_G W a c := ⟨by rw [h2.1.1, h2.1.2]; exact h1.1, fun q hq hn => (h2.2.1 q (Nat.lt_of_lt_of_le hq h1.1.1) hn).trans (h1.2 q hq hn)⟩
theorem pw_E.tG {W : List Nat} {a b c : pm_H} (h1 : pw_E W a b) (h2 : pw_G W b c) : pw_G W a c := ⟨by rw [← h1.1.1, ← h1.1.2]; exact h2.1, fun q hq hn => (h2.2 q (by rw [h1.1.1]; exact hq) hn).trans (h1.2.1 q hq hn)⟩
theorem pw_G.wk {W W' : List Nat} {a b : pm_H} (h1 : pw_G W a b) (hs : W.all (fun c => W'.contains c) = true) : pw_G W' a b := ⟨h1.1, fun q hq hn => h1.2 q hq fun hm => hn (by
  have := List.all_eq_true.mp hs q hm
  exact List.contains_iff_mem.mp this)⟩
theorem pw_Gg {h h' : pm_H} {c : Nat} {W : List Nat} {s : pw_S} (I : pw_I h) (E : pw_G W h h') (hs : pw_T[c]? = some s) (hn : W.contains c = false) (k : Nat) : pw_at h' c k = pw_at h c k := by
  obtain ⟨q, h1, -⟩ := I.1 c _ hs
  unfold pw_at
  rw [E.2 c (List.getElem?_eq_some_iff.mp h1).1 (fun hm => by
    have := List.contains_iff_mem.mpr hm
    rw [hn] at this; cases this)]
theorem pw_vk_push {h : pm_H} {x : pm_C} {sp : pw_F} {v : Value} (hv : pw_vk h sp v) : pw_vk (h ++ [x]) sp v := by
  obtain ⟨k, lo, hi⟩ := sp
  have key : (∃ (c : Nat) (l : List Value), v = .ref (16 + c) ∧ h[c]? = some (.inl (0, l)) ∧ l.length ≤ 1000 ∧ pw_ints l) → ∃ (c2 : Nat) (l : List Value), v = .ref (16 + c2) ∧ (h ++ [x])[c2]? = some (.inl (0, l)) ∧ l.length ≤ 1000 ∧ pw_ints l := by
    rintro ⟨c2, l, e1, e2, e3⟩
    exact ⟨c2, l, e1, by rw [List.getElem?_append_left (List.getElem?_eq_some_iff.mp e2).1]; exact e2, e3⟩
  match k, hv with
  | 0, hv => exact hv
  | 1, hv => exact hv
  | 2, hv => exact hv
  | 4, hv => exact hv
  | 3, hv => exact key hv
  | k + 5, hv => exact key hv
theorem pw_ok_push {h : pm_H} {y : pm_C} {s : pw_S} {x : pm_C} (hv : pw_ok h s x) : pw_ok (h ++ [y]) s x := by
  match s, x, hv with
  | .inl _, .inl _, hv => exact hv
  | .inr (ci, sps), .inr (cj, fs), hv => exact ⟨hv.1, hv.2.1, fun k sp v g1 g2 => pw_vk_push (hv.2.2 k sp v g1 g2)⟩
theorem pw_scv_mono {n m : Nat} (hn : n ≤ m) {v : Value} (h : pm_scv n v = true) : pm_scv m v = true := by
  cases v with
  | ref a => exact Nat.blt_eq.mpr (Nat.lt_of_lt_of_le (Nat.blt_eq.mp h) hn)
  | _ => rfl
theorem pw_scc_mono {n m : Nat} (hn : n ≤ m) {c : pm_C} (h : pm_scc n c = true) : pm_scc m c = true := by
  match c, h with
  | .inl q, h =>
    have h : cond (Nat.blt q.1 5) true (pm_all (pm_scv n) q.2) = true := h
    show cond (Nat.blt q.1 5) true (pm_all (pm_scv m) q.2) = true
    cases hb : Nat.blt q.1 5 with
    | true => rfl
    | false =>
      rw [hb] at h
      have h : pm_all (pm_scv n) q.2 = true := h
      show pm_all (pm_scv m) q.2 = true
      rw [pm_all_eq, List.all_eq_true] at h ⊢
      exact fun v hv => pw_scv_mono hn (h v hv)
  | .inr q, h =>
    have h : pm_all (pm_scv n) q.2 = true := h
    show pm_all (pm_scv m) q.2 = true
    rw [pm_all_eq, List.all_eq_true] at h ⊢
    exact fun v hv => pw_scv_mono hn (h v hv)
theorem pw_I_push {h : pm_H} {t : Nat} {l : List Value} (ht : Nat.blt t 5 = true) (I : pw_I h) : pw_I (h ++ [.inl (t, l)]) := by
  refine ⟨fun c s hT => ?_, ?_⟩
  · obtain ⟨q, h1, h2⟩ := I.1 c s hT
    exact ⟨q, by rw [List.getElem?_append_left (List.getElem?_eq_some_iff.mp h1).1]; exact h1, pw_ok_push h2⟩
  · have h1 := I.2
    unfold pm_scH at h1 ⊢
    rw [pm_all_eq, List.all_eq_true, pm_len_eq] at h1 ⊢
    intro c hc
    rw [List.length_append]
    rcases List.mem_append.mp hc with g | g
    · exact pw_scc_mono (by simp) (h1 c g)
    · rw [List.mem_singleton.mp g]
      show cond (Nat.blt t 5) true _ = true
      rw [ht]; rfl
section Pn
variable {X : List (Nat × List Value)} {d : Nat} {h : pm_H} {m pc pc' len na nl own rt : Nat} {C : pm_T (Instr × Nat)} {ls : pm_L} {r : List Value} {Q : pm_H → (Option Value ⊕ Unit) → Prop} {i : Instr}
theorem pw_newi {n : Int} (he : pm_ent m = some (na, nl, own, rt, C)) (hq : pm_get C pc = some (.newarray .int, len)) (hc : pc + len = pc') (h0 : 0 ≤ n) (h1 : n ≤ 60000) (H : pw X d (h ++ [.inl (0, List.replicate n.toNat (.int 0))]) m pc' ls (.ref (16 + h.length) :: r) Q) : pw X d h m pc ls (pw_i n :: r) Q := by
  subst hc
  refine pw_go he hq (fun ih => ?_) H
  show cond (decide (Int32.ofInt n < 0)) none (cond (Nat.ble (Int32.ofInt n).toNatClampNeg 60000) (cond (Nat.blt 0 5) (pm_fn (pm_len h) fun z => pm_fn (pc + len) fun q => ih d (h ++ [.inl (0, pm_rep (Int32.ofInt n).toNatClampNeg (.int 0))]) m q ls (.ref (16 + z) :: r)) none) none) = _
  rw [decide_eq_false (pw_neg h0 (by omega)), cond_false, pw_clamp h0 (by omega), Nat.ble_eq_true_of_le (by omega), cond_true, pm_fn_eq, pm_fn_eq, pm_len_eq, pm_rep_eq]
  rfl
theorem pw_cpyN {ix c q a a2 : Nat} {l l' : List Value} {n : Int} (he : pm_ent m = some (na, nl, own, rt, C)) (hq : pm_get C pc = some (.invokestatic ix, len)) (hl : pm_get (pm_lnk own) ix = some (12, 5, 0, 0)) (e1 : h[c]? = some (.inl (0, l))) (f1 : h[q]? = some (.inl (0, l'))) (h0 : 0 ≤ n) (h1 : n ≤ 60000) (hn : n.toNat ≤ l.length) (hn2 : n.toNat = l'.length) (ha : 16 + c = a) (ha2 : 16 + q = a2) (h8 : pm_cat8 r = true)
    (H : pw X d (h.set q (.inl (0, l.take n.toNat))) m (pc + 3) ls r Q) : pw X d h m pc ls (pw_i n :: pw_i 0 :: .ref a2 :: pw_i 0 :: .ref a :: r) Q := by
  refine pw_go he hq (fun ih => ?_) H
  refine (pw_prim0 (len := len) hl rfl).trans ?_
  show (match pm_row X h a, pm_cell h a2 with
    | some (t, l), some (.inl (t', l')) => cond (Nat.beq t 0 && (Nat.beq t' 0 && (Nat.ble 16 a && (!decide (Int32.ofInt n < 0) && (!decide (Int32.ofInt 0 < 0) && (!decide (Int32.ofInt 0 < 0) && (Nat.ble ((Int32.ofInt 0).toNatClampNeg + (Int32.ofInt n).toNatClampNeg) (pm_len l) && Nat.ble ((Int32.ofInt 0).toNatClampNeg + (Int32.ofInt n).toNatClampNeg) (pm_len l'))))))))
      (cond (pm_cat8 r) (pm_fn (pc + 3) fun q => ih d (pm_set h (a2 - 16) (.inl (0, pm_cpy l l' (Int32.ofInt 0).toNatClampNeg (Int32.ofInt 0).toNatClampNeg (Int32.ofInt n).toNatClampNeg))) m q ls r) none) none
    | _, _ => none) = _
  rw [pw_rowI e1 ha, pw_cellI f1 ha2]
  dsimp only
  have en : (Int32.ofInt n).toNatClampNeg = n.toNat := pw_clamp h0 (by omega)
  have e0 : (Int32.ofInt 0).toNatClampNeg = 0 := rfl
  rw [en, e0, decide_eq_false (pw_neg h0 (by omega)), pm_len_eq, pm_len_eq]
  have hb : (Nat.beq 0 0 && (Nat.beq 0 0 && (Nat.ble 16 a && (!false && (!decide (Int32.ofInt 0 < 0) && (!decide (Int32.ofInt 0 < 0) && (Nat.ble (0 + n.toNat) l.length && Nat.ble (0 + n.toNat) l'.length))))))) = true := by
    rw [Nat.ble_eq_true_of_le (show 16 ≤ a by omega), Nat.ble_eq_true_of_le (show 0 + n.toNat ≤ l.length by omega), Nat.ble_eq_true_of_le (show 0 + n.toNat ≤ l'.length by omega)]
    rfl
  have ea : a2 - 16 = q := by omega
  rw [hb, cond_true, h8, cond_true, pm_fn_eq, ea, pm_set_eq]
  have ec : pm_cpy l l' 0 0 n.toNat = l.take n.toNat := by
    unfold pm_cpy
    rw [List.take_zero, List.drop_zero, List.nil_append, List.drop_of_length_le (by omega), List.append_nil]
  rw [ec]
end Pn
theorem cm_325 {X : List (Nat × List Value)} {d : Nat} {h : pm_H} {c : Nat} {l : List Value} {n : Int} (e1 : h[c]? = some (.inl (0, l))) (hl : l.length = 1000) (h0 : 0 ≤ n) (h1 : n ≤ 999) : pw X d h 325 0 [some (.ref (16 + c)), some (pw_i n), none] [] (fun h' v => h' = h ++ [.inl (0, l.take n.toNat)] ∧ v = .inl (some (.ref (16 + h.length)))) := by
  have E : pm_ent 325 = some (2, 3, 14, 3, pmc_325) := rfl
  have hc : c < h.length := (List.getElem?_eq_some_iff.mp e1).1
  refine pw_ld E (pc' := 1) (st' := [pw_i n]) rfl (fun _ => rfl) ?_
  refine pw_ld E (pc' := 2) (st' := [.ref (16 + c), pw_i n]) rfl (fun _ => rfl) ?_
  refine pw_alen E (pc' := 3) rfl (pw_rowI e1 rfl) rfl rfl ?_
  rw [hl]
  refine pw_if2 E (pc' := 14) rfl (by decide) (by omega) (by omega) (by decide) (by decide) ?_ ?_
  · intro _
    refine pw_ld E (pc' := 15) (st' := [pw_i n]) rfl (fun _ => rfl) ?_
    refine pw_newi E (pc' := 17) rfl rfl h0 (by omega) ?_
    have e2 : (h ++ [.inl (0, List.replicate n.toNat (.int 0))])[c]? = some (.inl (0, l)) := by rw [List.getElem?_append_left hc]; exact e1
    have e3 : (h ++ [.inl (0, List.replicate n.toNat (.int 0))])[h.length]? = some (.inl (0, List.replicate n.toNat (.int 0))) := by rw [List.getElem?_append_right (Nat.le_refl _), Nat.sub_self]; rfl
    generalize hg : h ++ [.inl (0, List.replicate n.toNat (Value.int 0))] = g at e2 e3 ⊢
    refine pw_astn E (pc' := 18) (ls' := [some (.ref (16 + c)), some (pw_i n), some (.ref (16 + h.length))]) rfl rfl rfl rfl ?_
    refine pw_ld E (pc' := 19) (st' := [.ref (16 + c)]) rfl (fun _ => rfl) ?_
    refine pw_ld E (pc' := 20) (st' := [pw_i 0, .ref (16 + c)]) rfl (fun _ => rfl) ?_
    refine pw_ld E (pc' := 21) (st' := [.ref (16 + h.length), pw_i 0, .ref (16 + c)]) rfl (fun _ => rfl) ?_
    refine pw_ld E (pc' := 22) (st' := [pw_i 0, .ref (16 + h.length), pw_i 0, .ref (16 + c)]) rfl (fun _ => rfl) ?_
    refine pw_ld E (pc' := 23) (st' := [.ref (16 + c), pw_i 0, .ref (16 + h.length), pw_i 0, .ref (16 + c)]) rfl (fun _ => rfl) ?_
    refine pw_alen E (pc' := 24) rfl (pw_rowI e2 rfl) rfl rfl ?_
    rw [hl]
    refine pw_ld E (pc' := 25) (st' := [pw_i n, pw_i (1000 : Nat), pw_i 0, .ref (16 + h.length), pw_i 0, .ref (16 + c)]) rfl (fun _ => rfl) ?_
    refine pw_min E rfl rfl (by decide) (by decide) (by omega) (by omega) rfl ?_
    rw [show min ((1000 : Nat) : Int) n = n by omega]
    refine pw_cpyN (q := h.length) E rfl rfl e2 e3 h0 (by omega) (by omega) List.length_replicate.symm rfl rfl rfl ?_
    refine pw_ld E (pc' := 32) (st' := [.ref (16 + h.length)]) rfl (fun _ => rfl) ?_
    refine pw_aret E rfl ⟨?_, rfl⟩
    rw [← hg, List.set_append_right _ _ (Nat.le_refl _), Nat.sub_self]
    rfl
  · intro hn
    exact absurd (show pw_c .ne n ((1000 : Nat) : Int) from (by show n ≠ ((1000 : Nat) : Int); omega)) hn
theorem pw_scq {h : pm_H} {q : Nat} {x : pm_C} (hq : h[q]? = some x) : pm_scv (16 + h.length) (.ref (16 + q)) = true := by
  have := (List.getElem?_eq_some_iff.mp hq).1
  exact Nat.blt_eq.mpr (by omega)
set_option maxHeartbeats 4000000 in
theorem cm_73t {X : List (Nat × List Value)} {d : Nat} {h : pm_H} (I : pw_I h) (c : Nat) (hc : pw_Sc c) (q0 : Nat) (q0l : List Value) (q0h : h[q0]? = some (.inl (0, q0l))) (q0n : q0l.length ≤ 1000) (q0i : pw_ints q0l) : pw X d h 73 12 [some (.ref (16 + c)), some (.ref 46), none] [.ref (16 + q0), .ref (16 + c)] (fun h' v => pw_I h' ∧ pw_E [c, c + 1, c + 2, c + 3, c + 4] h h' ∧ v = .inl none) := by
  have E : pm_ent 73 = some (2, 3, 7, 4, pmc_73) := rfl
  have E0 : pw_E [c, c + 1, c + 2, c + 3, c + 4] h h := pw_E.rf _ _
  refine pw_put0 I E (c := c) (k := 0) (pc' := 15) rfl rfl (pw_Sc_o hc) rfl ⟨q0, q0l, rfl, q0h, q0n, q0i⟩ (pw_scq q0h) rfl rfl rfl ?_
  intro h1I h1E
  generalize h1w : pw_w h c 0 (.ref (16 + q0)) = h1 at h1I h1E ⊢
  have h1F := E0.tr (h1E.wk (W' := [c, c + 1, c + 2, c + 3, c + 4]) (by first | rfl | simp))
  refine pw_ld E (pc' := 16) (st' := [.ref (16 + c)]) rfl (fun _ => rfl) ?_
  refine pw_ld E (pc' := 17) (st' := [.ref 46, .ref (16 + c)]) rfl (fun _ => rfl) ?_
  refine pw_getI h1I E (c := 30) (k := 1) (pc' := 20) rfl rfl rfl rfl rfl rfl (fun hf2a hf2b hf2c hf2d => ?_)
  refine pw_putI h1I E (c := c) (k := 1) (pc' := 23) rfl rfl (pw_Sc_o hc) rfl (by omega) (by omega) (by omega) (by omega) rfl rfl ?_
  intro h3I h3E
  generalize h3w : pw_w h1 c 1 (pw_i (pw_g h1 30 1)) = h3 at h3I h3E ⊢
  have h3F := h1F.tr (h3E.wk (W' := [c, c + 1, c + 2, c + 3, c + 4]) (by first | rfl | simp))
  refine pw_ld E (pc' := 24) (st' := [pw_i 0]) rfl (fun _ => rfl) ?_
  refine pw_istn E (pc' := 25) (ls' := [some (.ref (16 + c)), some (.ref 46), some (pw_i 0)]) rfl rfl rfl rfl ?_
  have L25 : ∀ (n25 : Nat) (k25_2 : Int) (h25 : pm_H), pw_I h25 → pw_E [c, c + 1, c + 2, c + 3, c + 4] h h25 → 0 ≤ k25_2 → k25_2 ≤ 4 → (4 - k25_2).toNat = n25 → pw X d h25 73 25 [some (.ref (16 + c)), some (.ref 46), some (pw_i k25_2)] [] (fun h' v => pw_I h' ∧ pw_E [c, c + 1, c + 2, c + 3, c + 4] h h' ∧ v = .inl none) := by
    intro n25
    induction n25 using Nat.strongRecOn with
    | ind n25 ih25 =>
      intro k25_2 h25 I25 E25 k25_2a k25_2b hm25
      refine pw_ld E (pc' := 26) (st' := [pw_i k25_2]) rfl (fun _ => rfl) ?_
      refine pw_ld E (pc' := 27) (st' := [pw_i 4, pw_i k25_2]) rfl (fun _ => rfl) ?_
      refine pw_if2 E (pc' := 84) rfl (by decide) (by omega) (by omega) (by decide) (by decide) ?_ ?_
      · intro hc4
        have hc4 : (4 : Int) ≤ k25_2 := hc4
        refine pw_vret E rfl ?_
        exact ⟨I25, E25, rfl⟩
      · intro hc5
        have hc5 : ¬ ((4 : Int) ≤ k25_2) := hc5
        refine pw_ld E (pc' := 31) (st' := [.ref (16 + c)]) rfl (fun _ => rfl) ?_
        refine pw_getR (b := 16 + (c + 1)) I25 E (c := c) (k := 2) (pc' := 34) rfl rfl (pw_Sc_o hc) rfl rfl rfl rfl ?_
        refine pw_ld E (pc' := 35) (st' := [pw_i k25_2, .ref (16 + (c + 1))]) rfl (fun _ => rfl) ?_
        refine pw_ld E (pc' := 36) (st' := [.ref 46, pw_i k25_2, .ref (16 + (c + 1))]) rfl (fun _ => rfl) ?_
        refine pw_getR (b := 47) I25 E (c := 30) (k := 2) (pc' := 39) rfl rfl rfl rfl rfl rfl rfl ?_
        refine pw_ld E (pc' := 40) (st' := [pw_i k25_2, .ref 47, pw_i k25_2, .ref (16 + (c + 1))]) rfl (fun _ => rfl) ?_
        refine pw_ald I25 E (c := 31) (pc' := 41) rfl rfl rfl (by decide) rfl (by decide) (by omega) (by omega) rfl (fun hf6a hf6b hf6c hf6d => ?_)
        refine pw_ast0 I25 E (c := c + 1) (pc' := 42) rfl rfl (pw_Sc_1 hc) (by decide) rfl (by decide) (by omega) (by omega) (pw_b1 (by omega) (by omega)) (by omega) (by omega) (by omega) (by omega) rfl ?_
        intro h7I h7E
        generalize h7w : pw_w h25 (c + 1) (k25_2.toNat) (pw_i (pw_g h25 31 (k25_2.toNat))) = h7 at h7I h7E ⊢
        have h7F := E25.tr (h7E.wk (W' := [c, c + 1, c + 2, c + 3, c + 4]) (by first | rfl | simp))
        refine pw_ld E (pc' := 43) (st' := [.ref (16 + c)]) rfl (fun _ => rfl) ?_
        refine pw_getR (b := 16 + (c + 2)) h7I E (c := c) (k := 3) (pc' := 46) rfl rfl (pw_Sc_o hc) rfl rfl rfl rfl ?_
        refine pw_ld E (pc' := 47) (st' := [pw_i k25_2, .ref (16 + (c + 2))]) rfl (fun _ => rfl) ?_
        refine pw_ld E (pc' := 48) (st' := [.ref 46, pw_i k25_2, .ref (16 + (c + 2))]) rfl (fun _ => rfl) ?_
        refine pw_getR (b := 48) h7I E (c := 30) (k := 3) (pc' := 51) rfl rfl rfl rfl rfl rfl rfl ?_
        refine pw_ld E (pc' := 52) (st' := [pw_i k25_2, .ref 48, pw_i k25_2, .ref (16 + (c + 2))]) rfl (fun _ => rfl) ?_
        refine pw_ald h7I E (c := 32) (pc' := 53) rfl rfl rfl (by decide) rfl (by decide) (by omega) (by omega) rfl (fun hf8a hf8b hf8c hf8d => ?_)
        refine pw_ast0 h7I E (c := c + 2) (pc' := 54) rfl rfl (pw_Sc_2 hc) (by decide) rfl (by decide) (by omega) (by omega) rfl (by omega) (by omega) (by omega) (by omega) rfl ?_
        intro h9I h9E
        generalize h9w : pw_w h7 (c + 2) (k25_2.toNat) (pw_i (pw_g h7 32 (k25_2.toNat))) = h9 at h9I h9E ⊢
        have h9F := h7F.tr (h9E.wk (W' := [c, c + 1, c + 2, c + 3, c + 4]) (by first | rfl | simp))
        refine pw_ld E (pc' := 55) (st' := [.ref (16 + c)]) rfl (fun _ => rfl) ?_
        refine pw_getR (b := 16 + (c + 3)) h9I E (c := c) (k := 4) (pc' := 58) rfl rfl (pw_Sc_o hc) rfl rfl rfl rfl ?_
        refine pw_ld E (pc' := 59) (st' := [pw_i k25_2, .ref (16 + (c + 3))]) rfl (fun _ => rfl) ?_
        refine pw_ld E (pc' := 60) (st' := [.ref 46, pw_i k25_2, .ref (16 + (c + 3))]) rfl (fun _ => rfl) ?_
        refine pw_getR (b := 49) h9I E (c := 30) (k := 4) (pc' := 63) rfl rfl rfl rfl rfl rfl rfl ?_
        refine pw_ld E (pc' := 64) (st' := [pw_i k25_2, .ref 49, pw_i k25_2, .ref (16 + (c + 3))]) rfl (fun _ => rfl) ?_
        refine pw_ald h9I E (c := 33) (pc' := 65) rfl rfl rfl (by decide) rfl (by decide) (by omega) (by omega) rfl (fun hf10a hf10b hf10c hf10d => ?_)
        refine pw_ast0 h9I E (c := c + 3) (pc' := 66) rfl rfl (pw_Sc_3 hc) (by decide) rfl (by decide) (by omega) (by omega) rfl (by omega) (by omega) (by omega) (by omega) rfl ?_
        intro h11I h11E
        generalize h11w : pw_w h9 (c + 3) (k25_2.toNat) (pw_i (pw_g h9 33 (k25_2.toNat))) = h11 at h11I h11E ⊢
        have h11F := h9F.tr (h11E.wk (W' := [c, c + 1, c + 2, c + 3, c + 4]) (by first | rfl | simp))
        refine pw_ld E (pc' := 67) (st' := [.ref (16 + c)]) rfl (fun _ => rfl) ?_
        refine pw_getR (b := 16 + (c + 4)) h11I E (c := c) (k := 5) (pc' := 70) rfl rfl (pw_Sc_o hc) rfl rfl rfl rfl ?_
        refine pw_ld E (pc' := 71) (st' := [pw_i k25_2, .ref (16 + (c + 4))]) rfl (fun _ => rfl) ?_
        refine pw_ld E (pc' := 72) (st' := [.ref 46, pw_i k25_2, .ref (16 + (c + 4))]) rfl (fun _ => rfl) ?_
        refine pw_getR (b := 50) h11I E (c := 30) (k := 5) (pc' := 75) rfl rfl rfl rfl rfl rfl rfl ?_
        refine pw_ld E (pc' := 76) (st' := [pw_i k25_2, .ref 50, pw_i k25_2, .ref (16 + (c + 4))]) rfl (fun _ => rfl) ?_
        refine pw_ald h11I E (c := 34) (pc' := 77) rfl rfl rfl (by decide) rfl (by decide) (by omega) (by omega) rfl (fun hf12a hf12b hf12c hf12d => ?_)
        refine pw_ast0 h11I E (c := c + 4) (pc' := 78) rfl rfl (pw_Sc_4 hc) (by decide) rfl (by decide) (by omega) (by omega) rfl (by omega) (by omega) (by omega) (by omega) rfl ?_
        intro h13I h13E
        generalize h13w : pw_w h11 (c + 4) (k25_2.toNat) (pw_i (pw_g h11 34 (k25_2.toNat))) = h13 at h13I h13E ⊢
        have h13F := h11F.tr (h13E.wk (W' := [c, c + 1, c + 2, c + 3, c + 4]) (by first | rfl | simp))
        refine pw_inc E (pc' := 81) (ls' := [some (.ref (16 + c)), some (.ref 46), some (pw_i (k25_2 + 1))]) rfl rfl rfl rfl ?_
        refine pw_goto E (pc' := 25) rfl (by decide) ?_
        exact ih25 _ (by omega) (k25_2 + 1) h13 h13I h13F (by omega) (by omega)  rfl
  exact L25 _ (0) h3 h3I h3F (by omega) (by omega)  rfl
theorem pw_G_push {W : List Nat} {h : pm_H} {l : List Value} (hl : l.length ≤ 1000) : pw_G W h (h ++ [.inl (0, l)]) := by
  refine ⟨⟨by simp, by simp, by rw [pm_slt_push]; omega, by rw [pm_slt_push]; show pm_slt h + l.length ≤ _; omega⟩, fun c hc _ => List.getElem?_append_left hc⟩
theorem cm_73 {X : List (Nat × List Value)} {d : Nat} {h : pm_H} (hd : 2 ≤ d) (I : pw_I h) (c : Nat) (hc : pw_Sc c) (hlen : pw_g h 30 1 ≤ 999) : pw X d h 73 0 [some (.ref (16 + c)), some (.ref 46), none] [] (fun h' v => pw_I h' ∧ pw_G [c, c + 1, c + 2, c + 3, c + 4] h h' ∧ v = .inl none) := by
  have E : pm_ent 73 = some (2, 3, 7, 4, pmc_73) := rfl
  refine pw_ld E (pc' := 1) (st' := [.ref (16 + c)]) rfl (fun _ => rfl) ?_
  refine pw_ld E (pc' := 2) (st' := [.ref 46, .ref (16 + c)]) rfl (fun _ => rfl) ?_
  refine pw_getR (b := 52) I E (c := 30) (k := 0) (pc' := 5) rfl rfl rfl rfl rfl rfl rfl ?_
  refine pw_ld E (pc' := 6) (st' := [.ref 46, .ref 52, .ref (16 + c)]) rfl (fun _ => rfl) ?_
  refine pw_getI I E (c := 30) (k := 1) (pc' := 9) rfl rfl rfl rfl rfl rfl (fun ha hb _ _ => ?_)
  obtain ⟨l, e1, e2, e3⟩ := pw_arr (c := 36) I rfl
  refine pw_call (m' := 325) (As := [.ref 52, pw_i (pw_g h 30 1)]) (rest := [.ref (16 + c)]) (ls'' := [some (.ref (16 + 36)), some (pw_i (pw_g h 30 1)), none]) (by omega) E rfl (fun _ => pw_iS rfl rfl rfl) (rfl : pm_ent 325 = some (2, 3, 14, 3, pmc_325)) rfl rfl (cm_325 e1 e2 ha hlen) ?_
  rintro h1 v1 ⟨rfl, rfl⟩
  refine ⟨_, rfl, ?_⟩
  have ht : (l.take (pw_g h 30 1).toNat).length ≤ 1000 := by rw [List.length_take]; omega
  refine pw_mono (cm_73t (pw_I_push rfl I) c hc h.length (l.take (pw_g h 30 1).toNat) (by rw [List.getElem?_append_right (Nat.le_refl _), Nat.sub_self]; rfl) ht (fun j v hv => ?_)) ?_
  · rw [List.getElem?_take] at hv
    split at hv
    · obtain ⟨a, rfl, -⟩ := e3 j v hv
      exact ⟨_, rfl⟩
    · cases hv
  · rintro h2 v2 ⟨I2, E2, rfl⟩
    exact ⟨I2, (pw_G_push ht).tE E2, rfl⟩
set_option maxHeartbeats 4000000 in
theorem cm_143_26 {X : List (Nat × List Value)} {d : Nat} {h : pm_H} (hd : 7 ≤ d) (I : pw_I h) (hX : pw_Xk X) (hR : pw_Xr X) (c : Nat) (hc : pw_Sc c) : pw X d h 143 0 [some (.ref 16), some (.ref 42), some (.ref (16 + c)), none] [] (fun h' v => pw_I h' ∧ pw_G [24, 26, 27, 30, 31, 32, 33, 34, 36, c, c + 1, c + 2, c + 3, c + 4] h h' ∧ ∃ a : Int, v = .inl (some (pw_i a)) ∧ (-2147483648) ≤ a ∧ a ≤ 2147483647) := by
  have E : pm_ent 143 = some (3, 4, 11, 0, pmc_143) := rfl
  refine pw_ld E (pc' := 1) (st' := [.ref 42]) rfl (fun _ => rfl) ?_
  refine pw_ld E (pc' := 2) (st' := [.ref 16, .ref 42]) rfl (fun _ => rfl) ?_
  refine pw_getR (b := 40) I E (c := 0) (k := 10) (pc' := 5) rfl rfl rfl rfl rfl rfl rfl ?_
  refine pw_ld E (pc' := 6) (st' := [.ref 16, .ref 40, .ref 42]) rfl (fun _ => rfl) ?_
  refine pw_getR (b := 46) I E (c := 0) (k := 13) (pc' := 9) rfl rfl rfl rfl rfl rfl rfl ?_
  obtain ⟨f1l, f1h, -⟩ := pw_obj (c := 26) I rfl
  refine pw_call (m' := 44) (As := [.ref 42, .ref 40, .ref 46]) (rest := []) (ls'' := [some (.ref 42), some (.ref 40), some (.ref 46), none, none]) (by omega) E rfl (fun _ => pw_iV rfl rfl rfl rfl (pw_cellI f1h rfl)) (rfl : pm_ent 44 = some (3, 5, 5, 0, pmc_44)) rfl rfl (cm_44_26 (by omega) I hX hR) ?_
  rintro h1 v1 ⟨I1, E1, a, rfl, ha, hb, hz⟩
  refine ⟨_, rfl, ?_⟩
  show pw X d h1 143 12 [some (.ref 16), some (.ref 42), some (.ref (16 + c)), none] [pw_i a] _
  refine pw_istn E (pc' := 13) (ls' := [some (.ref 16), some (.ref 42), some (.ref (16 + c)), some (pw_i a)]) rfl rfl rfl rfl ?_
  refine pw_ld E (pc' := 14) (st' := [.ref 16]) rfl (fun _ => rfl) ?_
  refine pw_getR (b := 40) I1 E (c := 0) (k := 10) (pc' := 17) rfl rfl rfl rfl rfl rfl rfl ?_
  obtain ⟨f2l, f2h, -⟩ := pw_obj (c := 24) I1 rfl
  refine pw_call (m' := 99) (As := [.ref 40]) (rest := []) (ls'' := [some (.ref 40)]) (by omega) E rfl (fun _ => pw_iV rfl rfl rfl rfl (pw_cellI f2h rfl)) (rfl : pm_ent 99 = some (1, 1, 9, 4, pmc_99)) rfl rfl (cm_99 (by omega) I1) ?_
  rintro h2 v2 ⟨I2, E2, rfl⟩
  refine ⟨_, rfl, ?_⟩
  show pw X d h2 143 20 [some (.ref 16), some (.ref 42), some (.ref (16 + c)), some (pw_i a)] [] _
  have e30 : pw_g h2 30 1 = pw_g h1 30 1 := pw_Eg (c := 30) I1 E2 rfl rfl 1
  have EE : pw_E [24, 26, 27, 30, 31, 32, 33, 34, 36, c, c + 1, c + 2, c + 3, c + 4] h h2 := (E1.wk (W' := [24, 26, 27, 30, 31, 32, 33, 34, 36, c, c + 1, c + 2, c + 3, c + 4]) (by simp)).tr (E2.wk (W' := [24, 26, 27, 30, 31, 32, 33, 34, 36, c, c + 1, c + 2, c + 3, c + 4]) (by simp))
  refine pw_ld E (pc' := 21) (st' := [pw_i a]) rfl (fun _ => rfl) ?_
  refine pw_if E (pc' := 32) rfl (by decide) ha hb ?_ ?_
  · intro _
    refine pw_ld E (pc' := 33) (st' := [pw_i a]) rfl (fun _ => rfl) ?_
    refine pw_iret E rfl ?_
    exact ⟨I2, EE.G, a, rfl, ha, hb⟩
  · intro hn
    have hn : ¬ (a ≠ 0) := hn
    refine pw_ld E (pc' := 25) (st' := [.ref (16 + c)]) rfl (fun _ => rfl) ?_
    refine pw_ld E (pc' := 26) (st' := [.ref 16, .ref (16 + c)]) rfl (fun _ => rfl) ?_
    refine pw_getR (b := 46) I2 E (c := 0) (k := 13) (pc' := 29) rfl rfl rfl rfl rfl rfl rfl ?_
    obtain ⟨f3l, f3h, -⟩ := pw_obj (c := c) I2 (pw_Sc_o hc)
    refine pw_call (m' := 73) (As := [.ref (16 + c), .ref 46]) (rest := []) (ls'' := [some (.ref (16 + c)), some (.ref 46), none]) (by omega) E rfl (fun _ => pw_iV rfl rfl rfl rfl (pw_cellI f3h rfl)) (rfl : pm_ent 73 = some (2, 3, 7, 4, pmc_73)) rfl rfl (cm_73 (by omega) I2 c hc (by omega)) ?_
    rintro h3 v3 ⟨I3, G3, rfl⟩
    refine ⟨_, rfl, ?_⟩
    show pw X d h3 143 32 [some (.ref 16), some (.ref 42), some (.ref (16 + c)), some (pw_i a)] [] _
    refine pw_ld E (pc' := 33) (st' := [pw_i a]) rfl (fun _ => rfl) ?_
    refine pw_iret E rfl ?_
    exact ⟨I3, EE.tG (G3.wk (W' := [24, 26, 27, 30, 31, 32, 33, 34, 36, c, c + 1, c + 2, c + 3, c + 4]) (by simp)), a, rfl, ha, hb⟩
set_option maxHeartbeats 4000000 in
theorem cm_143_28 {X : List (Nat × List Value)} {d : Nat} {h : pm_H} (hd : 7 ≤ d) (I : pw_I h) (hX : pw_Xk X) (hR : pw_Xr X) (c : Nat) (hc : pw_Sc c) : pw X d h 143 0 [some (.ref 16), some (.ref 44), some (.ref (16 + c)), none] [] (fun h' v => pw_I h' ∧ pw_G [24, 28, 29, 30, 31, 32, 33, 34, 36, c, c + 1, c + 2, c + 3, c + 4] h h' ∧ ∃ a : Int, v = .inl (some (pw_i a)) ∧ (-2147483648) ≤ a ∧ a ≤ 2147483647) := by
  have E : pm_ent 143 = some (3, 4, 11, 0, pmc_143) := rfl
  refine pw_ld E (pc' := 1) (st' := [.ref 44]) rfl (fun _ => rfl) ?_
  refine pw_ld E (pc' := 2) (st' := [.ref 16, .ref 44]) rfl (fun _ => rfl) ?_
  refine pw_getR (b := 40) I E (c := 0) (k := 10) (pc' := 5) rfl rfl rfl rfl rfl rfl rfl ?_
  refine pw_ld E (pc' := 6) (st' := [.ref 16, .ref 40, .ref 44]) rfl (fun _ => rfl) ?_
  refine pw_getR (b := 46) I E (c := 0) (k := 13) (pc' := 9) rfl rfl rfl rfl rfl rfl rfl ?_
  obtain ⟨f1l, f1h, -⟩ := pw_obj (c := 28) I rfl
  refine pw_call (m' := 44) (As := [.ref 44, .ref 40, .ref 46]) (rest := []) (ls'' := [some (.ref 44), some (.ref 40), some (.ref 46), none, none]) (by omega) E rfl (fun _ => pw_iV rfl rfl rfl rfl (pw_cellI f1h rfl)) (rfl : pm_ent 44 = some (3, 5, 5, 0, pmc_44)) rfl rfl (cm_44_28 (by omega) I hX hR) ?_
  rintro h1 v1 ⟨I1, E1, a, rfl, ha, hb, hz⟩
  refine ⟨_, rfl, ?_⟩
  show pw X d h1 143 12 [some (.ref 16), some (.ref 44), some (.ref (16 + c)), none] [pw_i a] _
  refine pw_istn E (pc' := 13) (ls' := [some (.ref 16), some (.ref 44), some (.ref (16 + c)), some (pw_i a)]) rfl rfl rfl rfl ?_
  refine pw_ld E (pc' := 14) (st' := [.ref 16]) rfl (fun _ => rfl) ?_
  refine pw_getR (b := 40) I1 E (c := 0) (k := 10) (pc' := 17) rfl rfl rfl rfl rfl rfl rfl ?_
  obtain ⟨f2l, f2h, -⟩ := pw_obj (c := 24) I1 rfl
  refine pw_call (m' := 99) (As := [.ref 40]) (rest := []) (ls'' := [some (.ref 40)]) (by omega) E rfl (fun _ => pw_iV rfl rfl rfl rfl (pw_cellI f2h rfl)) (rfl : pm_ent 99 = some (1, 1, 9, 4, pmc_99)) rfl rfl (cm_99 (by omega) I1) ?_
  rintro h2 v2 ⟨I2, E2, rfl⟩
  refine ⟨_, rfl, ?_⟩
  show pw X d h2 143 20 [some (.ref 16), some (.ref 44), some (.ref (16 + c)), some (pw_i a)] [] _
  have e30 : pw_g h2 30 1 = pw_g h1 30 1 := pw_Eg (c := 30) I1 E2 rfl rfl 1
  have EE : pw_E [24, 28, 29, 30, 31, 32, 33, 34, 36, c, c + 1, c + 2, c + 3, c + 4] h h2 := (E1.wk (W' := [24, 28, 29, 30, 31, 32, 33, 34, 36, c, c + 1, c + 2, c + 3, c + 4]) (by simp)).tr (E2.wk (W' := [24, 28, 29, 30, 31, 32, 33, 34, 36, c, c + 1, c + 2, c + 3, c + 4]) (by simp))
  refine pw_ld E (pc' := 21) (st' := [pw_i a]) rfl (fun _ => rfl) ?_
  refine pw_if E (pc' := 32) rfl (by decide) ha hb ?_ ?_
  · intro _
    refine pw_ld E (pc' := 33) (st' := [pw_i a]) rfl (fun _ => rfl) ?_
    refine pw_iret E rfl ?_
    exact ⟨I2, EE.G, a, rfl, ha, hb⟩
  · intro hn
    have hn : ¬ (a ≠ 0) := hn
    refine pw_ld E (pc' := 25) (st' := [.ref (16 + c)]) rfl (fun _ => rfl) ?_
    refine pw_ld E (pc' := 26) (st' := [.ref 16, .ref (16 + c)]) rfl (fun _ => rfl) ?_
    refine pw_getR (b := 46) I2 E (c := 0) (k := 13) (pc' := 29) rfl rfl rfl rfl rfl rfl rfl ?_
    obtain ⟨f3l, f3h, -⟩ := pw_obj (c := c) I2 (pw_Sc_o hc)
    refine pw_call (m' := 73) (As := [.ref (16 + c), .ref 46]) (rest := []) (ls'' := [some (.ref (16 + c)), some (.ref 46), none]) (by omega) E rfl (fun _ => pw_iV rfl rfl rfl rfl (pw_cellI f3h rfl)) (rfl : pm_ent 73 = some (2, 3, 7, 4, pmc_73)) rfl rfl (cm_73 (by omega) I2 c hc (by omega)) ?_
    rintro h3 v3 ⟨I3, G3, rfl⟩
    refine ⟨_, rfl, ?_⟩
    show pw X d h3 143 32 [some (.ref 16), some (.ref 44), some (.ref (16 + c)), some (pw_i a)] [] _
    refine pw_ld E (pc' := 33) (st' := [pw_i a]) rfl (fun _ => rfl) ?_
    refine pw_iret E rfl ?_
    exact ⟨I3, EE.tG (G3.wk (W' := [24, 28, 29, 30, 31, 32, 33, 34, 36, c, c + 1, c + 2, c + 3, c + 4]) (by simp)), a, rfl, ha, hb⟩
/-- the cells that law and writer of the class may write -/
def pw_WL : List Nat := [24, 26, 27, 28, 29, 30, 31, 32, 33, 34, 36] ++ (List.range 56).map (fun j => 39 + j)
set_option maxHeartbeats 4000000 in
theorem cm_141 {X : List (Nat × List Value)} {d : Nat} {h : pm_H} (hd : 8 ≤ d) (I : pw_I h) (hX : pw_Xk X) (hR : pw_Xr X) (l : Int) (hl1 : (-2147483648) ≤ l) (hl2 : l ≤ 2147483647) : pw X d h 141 0 [some (.ref 16), some (pw_i l)] [] (fun h' v => pw_I h' ∧ pw_G pw_WL h h' ∧ ∃ a : Int, v = .inl (some (pw_i a)) ∧ (-2147483648) ≤ a ∧ a ≤ 2147483647) := by
  have E : pm_ent 141 = some (2, 2, 11, 0, pmc_141) := rfl
  refine pw_ld E (pc' := 1) (st' := [pw_i l]) rfl (fun _ => rfl) ?_
  refine pw_call (m' := 142) (As := [pw_i l]) (rest := []) (ls'' := [some (pw_i l)]) (by omega) E rfl (fun _ => pw_iS rfl rfl rfl) (rfl : pm_ent 142 = some (1, 1, 11, 1, pmc_142)) rfl rfl (cm_142 (by omega) I (l) (by omega) (by omega)) ?_
  rintro u v ⟨rfl, x, rfl, hxa, hxb, hxr⟩
  refine ⟨_, rfl, ?_⟩
  show pw X d h 141 4 [some (.ref 16), some (pw_i l)] [pw_i x] _
  refine pw_if E (pc' := 16) rfl (by decide) (by omega) (by omega) ?_ ?_
  · intro hn
    have hn : x ≠ 0 := hn
    refine pw_ld E (pc' := 17) (st' := [.ref 16]) rfl (fun _ => rfl) ?_
    refine pw_ld E (pc' := 18) (st' := [.ref 16, .ref 16]) rfl (fun _ => rfl) ?_
    refine pw_getR (b := 42) I E (c := 0) (k := 11) (pc' := 21) rfl rfl rfl rfl rfl rfl rfl ?_
    refine pw_ld E (pc' := 22) (st' := [.ref 16, .ref 42, .ref 16]) rfl (fun _ => rfl) ?_
    refine pw_getR (b := 53) I E (c := 0) (k := 14) (pc' := 25) rfl rfl rfl rfl rfl rfl rfl ?_
    refine pw_ld E (pc' := 26) (st' := [pw_i l, .ref 53, .ref 42, .ref 16]) rfl (fun _ => rfl) ?_
    obtain ⟨c, hc, hcl⟩ : ∃ c : Nat, pw_Sc c ∧ (((55 : Int) + 14 * ((l.toNat : Nat) : Int)).toNat = 16 + c) := by
      rcases (by omega : l = 0 ∨ l = 1 ∨ l = 2 ∨ l = 3) with rfl | rfl | rfl | rfl
      · exact ⟨39, by unfold pw_Sc; omega, rfl⟩
      · exact ⟨53, by unfold pw_Sc; omega, rfl⟩
      · exact ⟨67, by unfold pw_Sc; omega, rfl⟩
      · exact ⟨81, by unfold pw_Sc; omega, rfl⟩
    refine pw_aald (b := 16 + c) I E (c := 37) (pc' := 27) rfl rfl (by decide) rfl (by decide) (by omega) (by omega) hcl rfl ?_
    obtain ⟨f1l, f1h, -⟩ := pw_obj (c := 0) I rfl
    refine pw_call (m' := 143) (As := [.ref 16, .ref 42, .ref (16 + c)]) (rest := []) (ls'' := [some (.ref 16), some (.ref 42), some (.ref (16 + c)), none]) (by omega) E rfl (fun _ => pw_iV rfl rfl rfl rfl (pw_cellI f1h rfl)) (rfl : pm_ent 143 = some (3, 4, 11, 0, pmc_143)) rfl rfl (cm_143_26 (by omega) I hX hR c hc) ?_
    rintro h1 v1 ⟨I1, G1, a, rfl, ha, hb⟩
    refine ⟨_, rfl, ?_⟩
    show pw X d h1 141 30 [some (.ref 16), some (pw_i l)] [pw_i a] _
    refine pw_iret E rfl ?_
    refine ⟨I1, G1.wk ?_, a, rfl, ha, hb⟩
    rcases hc with rfl | rfl | rfl | rfl | rfl | rfl | rfl | rfl <;> decide
  · intro hn
    refine pw_ld E (pc' := 8) (st' := [.ref 16]) rfl (fun _ => rfl) ?_
    refine pw_getR (b := 40) I E (c := 0) (k := 10) (pc' := 11) rfl rfl rfl rfl rfl rfl rfl ?_
    obtain ⟨f2l, f2h, -⟩ := pw_obj (c := 24) I rfl
    refine pw_call (m' := 99) (As := [.ref 40]) (rest := []) (ls'' := [some (.ref 40)]) (by omega) E rfl (fun _ => pw_iV rfl rfl rfl rfl (pw_cellI f2h rfl)) (rfl : pm_ent 99 = some (1, 1, 9, 4, pmc_99)) rfl rfl (cm_99 (by omega) I) ?_
    rintro h2 v2 ⟨I2, E2, rfl⟩
    refine ⟨_, rfl, ?_⟩
    show pw X d h2 141 14 [some (.ref 16), some (pw_i l)] [] _
    refine pw_ld E (pc' := 15) (st' := [pw_i (-1)]) rfl (fun _ => rfl) ?_
    refine pw_iret E rfl ?_
    exact ⟨I2, (E2.wk (W' := pw_WL) (by decide)).G, -1, rfl, by decide, by decide⟩
set_option maxHeartbeats 4000000 in
theorem cm_153 {X : List (Nat × List Value)} {d : Nat} {h : pm_H} (hd : 8 ≤ d) (I : pw_I h) (hX : pw_Xk X) (hR : pw_Xr X) (l : Int) (hl1 : (-2147483648) ≤ l) (hl2 : l ≤ 2147483647) : pw X d h 153 0 [some (.ref 16), some (pw_i l)] [] (fun h' v => pw_I h' ∧ pw_G pw_WL h h' ∧ ∃ a : Int, v = .inl (some (pw_i a)) ∧ (-2147483648) ≤ a ∧ a ≤ 2147483647) := by
  have E : pm_ent 153 = some (2, 2, 11, 0, pmc_153) := rfl
  refine pw_ld E (pc' := 1) (st' := [pw_i l]) rfl (fun _ => rfl) ?_
  refine pw_call (m' := 142) (As := [pw_i l]) (rest := []) (ls'' := [some (pw_i l)]) (by omega) E rfl (fun _ => pw_iS rfl rfl rfl) (rfl : pm_ent 142 = some (1, 1, 11, 1, pmc_142)) rfl rfl (cm_142 (by omega) I (l) (by omega) (by omega)) ?_
  rintro u v ⟨rfl, x, rfl, hxa, hxb, hxr⟩
  refine ⟨_, rfl, ?_⟩
  show pw X d h 153 4 [some (.ref 16), some (pw_i l)] [pw_i x] _
  refine pw_if E (pc' := 16) rfl (by decide) (by omega) (by omega) ?_ ?_
  · intro hn
    have hn : x ≠ 0 := hn
    refine pw_ld E (pc' := 17) (st' := [.ref 16]) rfl (fun _ => rfl) ?_
    refine pw_ld E (pc' := 18) (st' := [.ref 16, .ref 16]) rfl (fun _ => rfl) ?_
    refine pw_getR (b := 44) I E (c := 0) (k := 12) (pc' := 21) rfl rfl rfl rfl rfl rfl rfl ?_
    refine pw_ld E (pc' := 22) (st' := [.ref 16, .ref 44, .ref 16]) rfl (fun _ => rfl) ?_
    refine pw_getR (b := 54) I E (c := 0) (k := 15) (pc' := 25) rfl rfl rfl rfl rfl rfl rfl ?_
    refine pw_ld E (pc' := 26) (st' := [pw_i l, .ref 54, .ref 44, .ref 16]) rfl (fun _ => rfl) ?_
    obtain ⟨c, hc, hcl⟩ : ∃ c : Nat, pw_Sc c ∧ (((62 : Int) + 14 * ((l.toNat : Nat) : Int)).toNat = 16 + c) := by
      rcases (by omega : l = 0 ∨ l = 1 ∨ l = 2 ∨ l = 3) with rfl | rfl | rfl | rfl
      · exact ⟨46, by unfold pw_Sc; omega, rfl⟩
      · exact ⟨60, by unfold pw_Sc; omega, rfl⟩
      · exact ⟨74, by unfold pw_Sc; omega, rfl⟩
      · exact ⟨88, by unfold pw_Sc; omega, rfl⟩
    refine pw_aald (b := 16 + c) I E (c := 38) (pc' := 27) rfl rfl (by decide) rfl (by decide) (by omega) (by omega) hcl rfl ?_
    obtain ⟨f1l, f1h, -⟩ := pw_obj (c := 0) I rfl
    refine pw_call (m' := 143) (As := [.ref 16, .ref 44, .ref (16 + c)]) (rest := []) (ls'' := [some (.ref 16), some (.ref 44), some (.ref (16 + c)), none]) (by omega) E rfl (fun _ => pw_iV rfl rfl rfl rfl (pw_cellI f1h rfl)) (rfl : pm_ent 143 = some (3, 4, 11, 0, pmc_143)) rfl rfl (cm_143_28 (by omega) I hX hR c hc) ?_
    rintro h1 v1 ⟨I1, G1, a, rfl, ha, hb⟩
    refine ⟨_, rfl, ?_⟩
    show pw X d h1 153 30 [some (.ref 16), some (pw_i l)] [pw_i a] _
    refine pw_iret E rfl ?_
    refine ⟨I1, G1.wk ?_, a, rfl, ha, hb⟩
    rcases hc with rfl | rfl | rfl | rfl | rfl | rfl | rfl | rfl <;> decide
  · intro hn
    refine pw_ld E (pc' := 8) (st' := [.ref 16]) rfl (fun _ => rfl) ?_
    refine pw_getR (b := 40) I E (c := 0) (k := 10) (pc' := 11) rfl rfl rfl rfl rfl rfl rfl ?_
    obtain ⟨f2l, f2h, -⟩ := pw_obj (c := 24) I rfl
    refine pw_call (m' := 99) (As := [.ref 40]) (rest := []) (ls'' := [some (.ref 40)]) (by omega) E rfl (fun _ => pw_iV rfl rfl rfl rfl (pw_cellI f2h rfl)) (rfl : pm_ent 99 = some (1, 1, 9, 4, pmc_99)) rfl rfl (cm_99 (by omega) I) ?_
    rintro h2 v2 ⟨I2, E2, rfl⟩
    refine ⟨_, rfl, ?_⟩
    show pw X d h2 153 14 [some (.ref 16), some (pw_i l)] [] _
    refine pw_ld E (pc' := 15) (st' := [pw_i (-1)]) rfl (fun _ => rfl) ?_
    refine pw_iret E rfl ?_
    exact ⟨I2, (E2.wk (W' := pw_WL) (by decide)).G, -1, rfl, by decide, by decide⟩
end
