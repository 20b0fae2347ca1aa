/-! the model (printed by wip/tool/mall.py) -/
set_option maxHeartbeats 4000000 in
theorem cm_286 {X : List (Nat × List Value)} {d : Nat} {h : pm_H} (hd : 5 ≤ d) (I : pw_I h) (wt : Int) (hwt1 : (-2147483648) ≤ wt) (hwt2 : wt ≤ 2147483647) (hp0 : pw_K h) : pw X d h 286 0 [some (.ref 141), some (pw_i wt), none, none, none, none, none, none, none, none, none, none, none, none, none, none, none] [] (fun h' v => pw_I h' ∧ pw_E [125, 149, 150] h h' ∧ ∃ w : Int64, v = .inl (some (.long w))) := by
  have E : pm_ent 286 = some (2, 17, 12, 2, pmc_286) := rfl
  have E0 : pw_E [125, 149, 150] h h := pw_E.rf _ _
  refine pw_ld E (pc' := 1) (st' := [.ref 141]) rfl (fun _ => rfl) ?_
  refine pw_ld E (pc' := 2) (st' := [pw_i wt, .ref 141]) rfl (fun _ => rfl) ?_
  refine pw_ld E (pc' := 3) (st' := [pw_i 0, pw_i wt, .ref 141]) rfl (fun _ => rfl) ?_
  refine pw_bip E (pc' := 5) rfl rfl (by decide) ?_
  refine pw_call (m' := 202) (As := [pw_i wt, pw_i 0, pw_i 6]) (rest := [.ref 141]) (ls'' := [some (pw_i wt), some (pw_i 0), some (pw_i 6)]) (Nat.le_trans (by decide) hd) E rfl (fun _ => pw_iS rfl rfl rfl) (rfl : pm_ent 202 = some (3, 3, 12, 1, pmc_202)) rfl rfl (cm_202 (pw_dp hd (by decide)) I (wt) (by omega) (by omega) (0) (by omega) (by omega) (6) (by omega) (by omega)) ?_
  rintro u2 v1 ⟨rfl, x3, rfl, hx3a, hx3b, hx3r⟩
  refine ⟨_, rfl, ?_⟩
  show pw X d h 286 8 [some (.ref 141), some (pw_i wt), none, none, none, none, none, none, none, none, none, none, none, none, none, none, none] [pw_i x3, .ref 141] _
  change (x3 = 1 ∧ 0 ≤ wt ∧ wt ≤ 6) ∨ (x3 = 0 ∧ ¬ (0 ≤ wt ∧ wt ≤ 6)) at hx3r
  rcases (by omega : x3 = 1 ∨ x3 = 0) with hb4 | hb4
  · skip
    refine pw_if E (pc' := 15) rfl (by decide) (by omega) (by omega) ?_ ?_
    · intro hc5
      change x3 = (0 : Int) at hc5
      exfalso; omega
    · intro hc6
      change ¬ (x3 = (0 : Int)) at hc6
      refine pw_ld E (pc' := 12) (st' := [pw_i 0, .ref 141]) rfl (fun _ => rfl) ?_
      refine pw_goto E (pc' := 16) rfl (by decide) ?_
      refine pw_putI I E (c := 125) (k := 0) (pc' := 19) rfl rfl rfl rfl (by omega) (by omega) (by omega) (by omega) rfl rfl ?_
      intro h7I h7E
      generalize h7w : pw_w h 125 0 (pw_i 0) = h7 at h7I h7E ⊢
      have h7F := E0.tr (h7E.wk (W' := [125, 149, 150]) (by first | rfl | simp))
      refine pw_ld E (pc' := 20) (st' := [.long (Int64.ofInt 0)]) rfl (fun _ => rfl) ?_
      refine pw_lstn E (pc' := 21) (ls' := [some (.ref 141), some (pw_i wt), some (.long (Int64.ofInt 0)), none, none, none, none, none, none, none, none, none, none, none, none, none, none]) rfl rfl rfl rfl ?_
      refine pw_ld E (pc' := 22) (st' := [.long (Int64.ofInt 0)]) rfl (fun _ => rfl) ?_
      refine pw_lst E (pc' := 24) (ls' := [some (.ref 141), some (pw_i wt), some (.long (Int64.ofInt 0)), none, some (.long (Int64.ofInt 0)), none, none, none, none, none, none, none, none, none, none, none, none]) rfl rfl rfl rfl ?_
      refine pw_ld E (pc' := 25) (st' := [.long (Int64.ofInt 0)]) rfl (fun _ => rfl) ?_
      refine pw_lst E (pc' := 27) (ls' := [some (.ref 141), some (pw_i wt), some (.long (Int64.ofInt 0)), none, some (.long (Int64.ofInt 0)), none, some (.long (Int64.ofInt 0)), none, none, none, none, none, none, none, none, none, none]) rfl rfl rfl rfl ?_
      refine pw_ld E (pc' := 28) (st' := [.long (Int64.ofInt 0)]) rfl (fun _ => rfl) ?_
      refine pw_lst E (pc' := 30) (ls' := [some (.ref 141), some (pw_i wt), some (.long (Int64.ofInt 0)), none, some (.long (Int64.ofInt 0)), none, some (.long (Int64.ofInt 0)), none, some (.long (Int64.ofInt 0)), none, none, none, none, none, none, none, none]) rfl rfl rfl rfl ?_
      refine pw_ld E (pc' := 31) (st' := [.long (Int64.ofInt 1)]) rfl (fun _ => rfl) ?_
      refine pw_lst E (pc' := 33) (ls' := [some (.ref 141), some (pw_i wt), some (.long (Int64.ofInt 0)), none, some (.long (Int64.ofInt 0)), none, some (.long (Int64.ofInt 0)), none, some (.long (Int64.ofInt 0)), none, some (.long (Int64.ofInt 1)), none, none, none, none, none, none]) rfl rfl rfl rfl ?_
      refine pw_ld E (pc' := 34) (st' := [.long (Int64.ofInt 0)]) rfl (fun _ => rfl) ?_
      refine pw_lst E (pc' := 36) (ls' := [some (.ref 141), some (pw_i wt), some (.long (Int64.ofInt 0)), none, some (.long (Int64.ofInt 0)), none, some (.long (Int64.ofInt 0)), none, some (.long (Int64.ofInt 0)), none, some (.long (Int64.ofInt 1)), none, some (.long (Int64.ofInt 0)), none, none, none, none]) rfl rfl rfl rfl ?_
      refine pw_ld E (pc' := 37) (st' := [.long (Int64.ofInt 1)]) rfl (fun _ => rfl) ?_
      refine pw_lst E (pc' := 39) (ls' := [some (.ref 141), some (pw_i wt), some (.long (Int64.ofInt 0)), none, some (.long (Int64.ofInt 0)), none, some (.long (Int64.ofInt 0)), none, some (.long (Int64.ofInt 0)), none, some (.long (Int64.ofInt 1)), none, some (.long (Int64.ofInt 0)), none, some (.long (Int64.ofInt 1)), none, none]) rfl rfl rfl rfl ?_
      refine pw_ld E (pc' := 40) (st' := [pw_i 0]) rfl (fun _ => rfl) ?_
      refine pw_ist E (pc' := 42) (ls' := [some (.ref 141), some (pw_i wt), some (.long (Int64.ofInt 0)), none, some (.long (Int64.ofInt 0)), none, some (.long (Int64.ofInt 0)), none, some (.long (Int64.ofInt 0)), none, some (.long (Int64.ofInt 1)), none, some (.long (Int64.ofInt 0)), none, some (.long (Int64.ofInt 1)), none, some (pw_i 0)]) rfl rfl rfl rfl ?_
      have L42 : ∀ (n42 : Nat) (k42_2 : Int64) (k42_4 : Int64) (k42_6 : Int64) (k42_8 : Int64) (k42_10 : Int) (k42_12 : Int64) (k42_14 : Int) (k42_16 : Int) (gh42 : pm_H), pw_I gh42 → pw_E [125, 149, 150] h gh42 → 1 ≤ k42_10 → k42_10 ≤ 576 → 1 ≤ k42_14 → k42_14 ≤ 576 → 0 ≤ k42_16 → k42_16 ≤ 44 → (44 - k42_16).toNat = n42 → pw X d gh42 286 42 [some (.ref 141), some (pw_i wt), some (.long k42_2), none, some (.long k42_4), none, some (.long k42_6), none, some (.long k42_8), none, some (.long (Int64.ofInt k42_10)), none, some (.long k42_12), none, some (.long (Int64.ofInt k42_14)), none, some (pw_i k42_16)] [] (fun h' v => pw_I h' ∧ pw_E [125, 149, 150] h h' ∧ ∃ w : Int64, v = .inl (some (.long w))) := by
        intro n42
        induction n42 using Nat.strongRecOn with
        | ind n42 ih42 =>
          intro k42_2 k42_4 k42_6 k42_8 k42_10 k42_12 k42_14 k42_16 gh42 I42 E42 k42_10a k42_10b k42_14a k42_14b k42_16a k42_16b hm42
          refine pw_ld E (pc' := 44) (st' := [pw_i k42_16]) rfl (fun _ => rfl) ?_
          refine pw_bip E (pc' := 46) rfl rfl (by decide) ?_
          refine pw_if2 E (pc' := 186) rfl (by decide) (by omega) (by omega) (by decide) (by decide) ?_ ?_
          · intro hc8
            change (44 : Int) ≤ k42_16 at hc8
            refine pw_ld E (pc' := 187) (st' := [.ref 141]) rfl (fun _ => rfl) ?_
            refine pw_ld E (pc' := 188) (st' := [.ref 141, .ref 141]) rfl (fun _ => rfl) ?_
            refine pw_getI2 I42 E (c := 125) (k := 0) (pc' := 191) rfl rfl rfl rfl rfl rfl (fun hf9a hf9b => ?_)
            refine pw_if E (pc' := 205) rfl (by decide) (by omega) (by omega) ?_ ?_
            · intro hc10
              change (0 : Int) < pw_g gh42 125 0 at hc10
              refine pw_ld E (pc' := 206) (st' := [pw_i 1, .ref 141]) rfl (fun _ => rfl) ?_
              refine pw_goto E (pc' := 210) rfl (by decide) ?_
              refine pw_putI I42 E (c := 125) (k := 0) (pc' := 213) rfl rfl rfl rfl (by omega) (by omega) (by omega) (by omega) rfl rfl ?_
              intro h11I h11E
              generalize h11w : pw_w gh42 125 0 (pw_i 1) = h11 at h11I h11E ⊢
              have h11F := E42.tr (h11E.wk (W' := [125, 149, 150]) (by first | rfl | simp))
              refine pw_ld E (pc' := 214) (st' := [.ref 141]) rfl (fun _ => rfl) ?_
              have he13 : pw_g h11 125 0 = 1 := by rw [← h11w]; exact pw_g_eq (c := 125) (k := 0) I42 rfl rfl (by omega) (by omega)
              refine pw_getI2 h11I E (c := 125) (k := 0) (pc' := 217) rfl rfl rfl rfl rfl rfl (fun hf12a hf12b => ?_)
              refine pw_if E (pc' := 222) rfl (by decide) (by omega) (by omega) ?_ ?_
              · intro hc14
                change pw_g h11 125 0 ≤ (0 : Int) at hc14
                exfalso; omega
              · intro hc15
                change ¬ (pw_g h11 125 0 ≤ (0 : Int)) at hc15
                refine pw_ld E (pc' := 221) (st' := [.long (Int64.ofInt 0)]) rfl (fun _ => rfl) ?_
                refine pw_lret E rfl ?_
                exact ⟨h11I, h11F, ⟨_, rfl⟩⟩
            · intro hc16
              change ¬ ((0 : Int) < pw_g gh42 125 0) at hc16
              refine pw_ld E (pc' := 195) (st' := [pw_i wt, .ref 141]) rfl (fun _ => rfl) ?_
              refine pw_ld E (pc' := 196) (st' := [pw_i 2, pw_i wt, .ref 141]) rfl (fun _ => rfl) ?_
              refine pw_if2 E (pc' := 209) rfl (by decide) (by omega) (by omega) (by decide) (by decide) ?_ ?_
              · intro hc17
                change wt ≤ (2 : Int) at hc17
                refine pw_ld E (pc' := 210) (st' := [pw_i 0, .ref 141]) rfl (fun _ => rfl) ?_
                refine pw_putI I42 E (c := 125) (k := 0) (pc' := 213) rfl rfl rfl rfl (by omega) (by omega) (by omega) (by omega) rfl rfl ?_
                intro h18I h18E
                generalize h18w : pw_w gh42 125 0 (pw_i 0) = h18 at h18I h18E ⊢
                have h18F := E42.tr (h18E.wk (W' := [125, 149, 150]) (by first | rfl | simp))
                refine pw_ld E (pc' := 214) (st' := [.ref 141]) rfl (fun _ => rfl) ?_
                have he20 : pw_g h18 125 0 = 0 := by rw [← h18w]; exact pw_g_eq (c := 125) (k := 0) I42 rfl rfl (by omega) (by omega)
                refine pw_getI2 h18I E (c := 125) (k := 0) (pc' := 217) rfl rfl rfl rfl rfl rfl (fun hf19a hf19b => ?_)
                refine pw_if E (pc' := 222) rfl (by decide) (by omega) (by omega) ?_ ?_
                · intro hc21
                  change pw_g h18 125 0 ≤ (0 : Int) at hc21
                  refine pw_ld E (pc' := 223) (st' := [.ref 141]) rfl (fun _ => rfl) ?_
                  refine pw_ld E (pc' := 224) (st' := [pw_i wt, .ref 141]) rfl (fun _ => rfl) ?_
                  refine pw_ld E (pc' := 225) (st' := [pw_i 5, pw_i wt, .ref 141]) rfl (fun _ => rfl) ?_
                  refine pw_if2 E (pc' := 233) rfl (by decide) (by omega) (by omega) (by decide) (by decide) ?_ ?_
                  · intro hc22
                    change (5 : Int) ≤ wt at hc22
                    exfalso; omega
                  · intro hc23
                    change ¬ ((5 : Int) ≤ wt) at hc23
                    refine pw_ld E (pc' := 230) (st' := [.long k42_8, .ref 141]) rfl (fun _ => rfl) ?_
                    refine pw_goto E (pc' := 235) rfl (by decide) ?_
                    refine pw_putL h18I E (c := 125) (k := 24) (pc' := 238) rfl rfl rfl rfl rfl rfl ?_
                    intro h24I h24E
                    generalize h24w : pw_w h18 125 24 (.long k42_8) = h24 at h24I h24E ⊢
                    have h24F := h18F.tr (h24E.wk (W' := [125, 149, 150]) (by first | rfl | simp))
                    refine pw_ld E (pc' := 239) (st' := [.ref 141]) rfl (fun _ => rfl) ?_
                    refine pw_ld E (pc' := 240) (st' := [pw_i wt, .ref 141]) rfl (fun _ => rfl) ?_
                    refine pw_ld E (pc' := 241) (st' := [pw_i 5, pw_i wt, .ref 141]) rfl (fun _ => rfl) ?_
                    refine pw_if2 E (pc' := 249) rfl (by decide) (by omega) (by omega) (by decide) (by decide) ?_ ?_
                    · intro hc25
                      change (5 : Int) ≤ wt at hc25
                      exfalso; omega
                    · intro hc26
                      change ¬ ((5 : Int) ≤ wt) at hc26
                      refine pw_ld E (pc' := 246) (st' := [.long (Int64.ofInt k42_10), .ref 141]) rfl (fun _ => rfl) ?_
                      refine pw_goto E (pc' := 251) rfl (by decide) ?_
                      refine pw_putM h24I E (c := 125) (k := 25) (pc' := 254) rfl rfl rfl rfl (by omega) (by omega) (by omega) (by omega) rfl rfl ?_
                      intro h27I h27E
                      generalize h27w : pw_w h24 125 25 (.long (Int64.ofInt k42_10)) = h27 at h27I h27E ⊢
                      have h27F := h24F.tr (h27E.wk (W' := [125, 149, 150]) (by first | rfl | simp))
                      refine pw_ld E (pc' := 255) (st' := [pw_i wt]) rfl (fun _ => rfl) ?_
                      refine pw_if E (pc' := 262) rfl (by decide) (by omega) (by omega) ?_ ?_
                      · intro hc28
                        change wt ≠ (0 : Int) at hc28
                        refine pw_ld E (pc' := 263) (st' := [pw_i wt]) rfl (fun _ => rfl) ?_
                        refine pw_ld E (pc' := 264) (st' := [pw_i 1, pw_i wt]) rfl (fun _ => rfl) ?_
                        refine pw_if2 E (pc' := 272) rfl (by decide) (by omega) (by omega) (by decide) (by decide) ?_ ?_
                        · intro hc29
                          change wt ≠ (1 : Int) at hc29
                          refine pw_ld E (pc' := 273) (st' := [pw_i wt]) rfl (fun _ => rfl) ?_
                          refine pw_ld E (pc' := 274) (st' := [pw_i 2, pw_i wt]) rfl (fun _ => rfl) ?_
                          refine pw_if2 E (pc' := 282) rfl (by decide) (by omega) (by omega) (by decide) (by decide) ?_ ?_
                          · intro hc30
                            change wt ≠ (2 : Int) at hc30
                            exfalso; omega
                          · intro hc31
                            change ¬ (wt ≠ (2 : Int)) at hc31
                            refine pw_ld E (pc' := 279) (st' := [.long k42_6]) rfl (fun _ => rfl) ?_
                            refine pw_goto E (pc' := 298) rfl (by decide) ?_
                            refine pw_lret E rfl ?_
                            exact ⟨h27I, h27F, ⟨_, rfl⟩⟩
                        · intro hc32
                          change ¬ (wt ≠ (1 : Int)) at hc32
                          refine pw_ld E (pc' := 269) (st' := [.long k42_4]) rfl (fun _ => rfl) ?_
                          refine pw_goto E (pc' := 298) rfl (by decide) ?_
                          refine pw_lret E rfl ?_
                          exact ⟨h27I, h27F, ⟨_, rfl⟩⟩
                      · intro hc33
                        change ¬ (wt ≠ (0 : Int)) at hc33
                        refine pw_ld E (pc' := 259) (st' := [.long k42_2]) rfl (fun _ => rfl) ?_
                        refine pw_goto E (pc' := 298) rfl (by decide) ?_
                        refine pw_lret E rfl ?_
                        exact ⟨h27I, h27F, ⟨_, rfl⟩⟩
                · intro hc34
                  change ¬ (pw_g h18 125 0 ≤ (0 : Int)) at hc34
                  exfalso; omega
              · intro hc35
                change ¬ (wt ≤ (2 : Int)) at hc35
                refine pw_ld E (pc' := 200) (st' := [.long k42_2, .ref 141]) rfl (fun _ => rfl) ?_
                refine pw_ld E (pc' := 201) (st' := [.long (Int64.ofInt 0), .long k42_2, .ref 141]) rfl (fun _ => rfl) ?_
                refine pw_lcmp E (pc' := 202) rfl rfl (fun c36 hc36 => ?_)
                refine pw_if E (pc' := 209) rfl (by decide) (by omega) (by omega) ?_ ?_
                · intro hc37
                  change c36 ≠ (0 : Int) at hc37
                  refine pw_ld E (pc' := 210) (st' := [pw_i 0, .ref 141]) rfl (fun _ => rfl) ?_
                  refine pw_putI I42 E (c := 125) (k := 0) (pc' := 213) rfl rfl rfl rfl (by omega) (by omega) (by omega) (by omega) rfl rfl ?_
                  intro h38I h38E
                  generalize h38w : pw_w gh42 125 0 (pw_i 0) = h38 at h38I h38E ⊢
                  have h38F := E42.tr (h38E.wk (W' := [125, 149, 150]) (by first | rfl | simp))
                  refine pw_ld E (pc' := 214) (st' := [.ref 141]) rfl (fun _ => rfl) ?_
                  have he40 : pw_g h38 125 0 = 0 := by rw [← h38w]; exact pw_g_eq (c := 125) (k := 0) I42 rfl rfl (by omega) (by omega)
                  refine pw_getI2 h38I E (c := 125) (k := 0) (pc' := 217) rfl rfl rfl rfl rfl rfl (fun hf39a hf39b => ?_)
                  refine pw_if E (pc' := 222) rfl (by decide) (by omega) (by omega) ?_ ?_
                  · intro hc41
                    change pw_g h38 125 0 ≤ (0 : Int) at hc41
                    refine pw_ld E (pc' := 223) (st' := [.ref 141]) rfl (fun _ => rfl) ?_
                    refine pw_ld E (pc' := 224) (st' := [pw_i wt, .ref 141]) rfl (fun _ => rfl) ?_
                    refine pw_ld E (pc' := 225) (st' := [pw_i 5, pw_i wt, .ref 141]) rfl (fun _ => rfl) ?_
                    refine pw_if2 E (pc' := 233) rfl (by decide) (by omega) (by omega) (by decide) (by decide) ?_ ?_
                    · intro hc42
                      change (5 : Int) ≤ wt at hc42
                      refine pw_ld E (pc' := 235) (st' := [.long k42_12, .ref 141]) rfl (fun _ => rfl) ?_
                      refine pw_putL h38I E (c := 125) (k := 24) (pc' := 238) rfl rfl rfl rfl rfl rfl ?_
                      intro h43I h43E
                      generalize h43w : pw_w h38 125 24 (.long k42_12) = h43 at h43I h43E ⊢
                      have h43F := h38F.tr (h43E.wk (W' := [125, 149, 150]) (by first | rfl | simp))
                      refine pw_ld E (pc' := 239) (st' := [.ref 141]) rfl (fun _ => rfl) ?_
                      refine pw_ld E (pc' := 240) (st' := [pw_i wt, .ref 141]) rfl (fun _ => rfl) ?_
                      refine pw_ld E (pc' := 241) (st' := [pw_i 5, pw_i wt, .ref 141]) rfl (fun _ => rfl) ?_
                      refine pw_if2 E (pc' := 249) rfl (by decide) (by omega) (by omega) (by decide) (by decide) ?_ ?_
                      · intro hc44
                        change (5 : Int) ≤ wt at hc44
                        refine pw_ld E (pc' := 251) (st' := [.long (Int64.ofInt k42_14), .ref 141]) rfl (fun _ => rfl) ?_
                        refine pw_putM h43I E (c := 125) (k := 25) (pc' := 254) rfl rfl rfl rfl (by omega) (by omega) (by omega) (by omega) rfl rfl ?_
                        intro h45I h45E
                        generalize h45w : pw_w h43 125 25 (.long (Int64.ofInt k42_14)) = h45 at h45I h45E ⊢
                        have h45F := h43F.tr (h45E.wk (W' := [125, 149, 150]) (by first | rfl | simp))
                        refine pw_ld E (pc' := 255) (st' := [pw_i wt]) rfl (fun _ => rfl) ?_
                        refine pw_if E (pc' := 262) rfl (by decide) (by omega) (by omega) ?_ ?_
                        · intro hc46
                          change wt ≠ (0 : Int) at hc46
                          refine pw_ld E (pc' := 263) (st' := [pw_i wt]) rfl (fun _ => rfl) ?_
                          refine pw_ld E (pc' := 264) (st' := [pw_i 1, pw_i wt]) rfl (fun _ => rfl) ?_
                          refine pw_if2 E (pc' := 272) rfl (by decide) (by omega) (by omega) (by decide) (by decide) ?_ ?_
                          · intro hc47
                            change wt ≠ (1 : Int) at hc47
                            refine pw_ld E (pc' := 273) (st' := [pw_i wt]) rfl (fun _ => rfl) ?_
                            refine pw_ld E (pc' := 274) (st' := [pw_i 2, pw_i wt]) rfl (fun _ => rfl) ?_
                            refine pw_if2 E (pc' := 282) rfl (by decide) (by omega) (by omega) (by decide) (by decide) ?_ ?_
                            · intro hc48
                              change wt ≠ (2 : Int) at hc48
                              refine pw_ld E (pc' := 283) (st' := [.ref 141]) rfl (fun _ => rfl) ?_
                              refine pw_ld E (pc' := 284) (st' := [pw_i wt, .ref 141]) rfl (fun _ => rfl) ?_
                              refine pw_ld E (pc' := 285) (st' := [pw_i 2, pw_i wt, .ref 141]) rfl (fun _ => rfl) ?_
                              refine pw_rem E (pc' := 286) rfl rfl (by omega) (by omega) (by decide) (by decide) ?_
                              refine pw_ld E (pc' := 287) (st' := [pw_i 1, pw_i (wt % 2), .ref 141]) rfl (fun _ => rfl) ?_
                              refine pw_if2 E (pc' := 294) rfl (by decide) (by omega) (by omega) (by decide) (by decide) ?_ ?_
                              · intro hc49
                                change wt % 2 ≠ (1 : Int) at hc49
                                refine pw_ld E (pc' := 295) (st' := [pw_i 1, .ref 141]) rfl (fun _ => rfl) ?_
                                have he50 : pw_gm h45 125 25 = k42_14 := by rw [← h45w]; exact pw_gm_eq (c := 125) (k := 25) h43I rfl rfl (by omega) (by omega)
                                obtain ⟨f51l, f51h, -⟩ := pw_obj (c := 125) h45I rfl
                                refine pw_call (m' := 222) (As := [.ref 141, pw_i 1]) (rest := []) (ls'' := [some (.ref 141), some (pw_i 1), none, none]) (Nat.le_trans (by decide) hd) E rfl (fun _ => pw_iV rfl rfl rfl rfl (pw_cellI f51h rfl)) (rfl : pm_ent 222 = some (2, 4, 12, 2, pmc_222)) rfl rfl (cm_222 (pw_dp hd (by decide)) h45I (1) (by omega) (by omega) (by omega)) ?_
                                rintro u53 v52 ⟨rfl, w54, rfl⟩
                                refine ⟨_, rfl, ?_⟩
                                show pw X d h45 286 298 [some (.ref 141), some (pw_i wt), some (.long k42_2), none, some (.long k42_4), none, some (.long k42_6), none, some (.long k42_8), none, some (.long (Int64.ofInt k42_10)), none, some (.long k42_12), none, some (.long (Int64.ofInt k42_14)), none, some (pw_i k42_16)] [.long w54] _
                                refine pw_lret E rfl ?_
                                exact ⟨h45I, h45F, ⟨_, rfl⟩⟩
                              · intro hc55
                                change ¬ (wt % 2 ≠ (1 : Int)) at hc55
                                refine pw_ld E (pc' := 291) (st' := [pw_i 0, .ref 141]) rfl (fun _ => rfl) ?_
                                refine pw_goto E (pc' := 295) rfl (by decide) ?_
                                have he56 : pw_gm h45 125 25 = k42_14 := by rw [← h45w]; exact pw_gm_eq (c := 125) (k := 25) h43I rfl rfl (by omega) (by omega)
                                obtain ⟨f57l, f57h, -⟩ := pw_obj (c := 125) h45I rfl
                                refine pw_call (m' := 222) (As := [.ref 141, pw_i 0]) (rest := []) (ls'' := [some (.ref 141), some (pw_i 0), none, none]) (Nat.le_trans (by decide) hd) E rfl (fun _ => pw_iV rfl rfl rfl rfl (pw_cellI f57h rfl)) (rfl : pm_ent 222 = some (2, 4, 12, 2, pmc_222)) rfl rfl (cm_222 (pw_dp hd (by decide)) h45I (0) (by omega) (by omega) (by omega)) ?_
                                rintro u59 v58 ⟨rfl, w60, rfl⟩
                                refine ⟨_, rfl, ?_⟩
                                show pw X d h45 286 298 [some (.ref 141), some (pw_i wt), some (.long k42_2), none, some (.long k42_4), none, some (.long k42_6), none, some (.long k42_8), none, some (.long (Int64.ofInt k42_10)), none, some (.long k42_12), none, some (.long (Int64.ofInt k42_14)), none, some (pw_i k42_16)] [.long w60] _
                                refine pw_lret E rfl ?_
                                exact ⟨h45I, h45F, ⟨_, rfl⟩⟩
                            · intro hc61
                              change ¬ (wt ≠ (2 : Int)) at hc61
                              exfalso; omega
                          · intro hc62
                            change ¬ (wt ≠ (1 : Int)) at hc62
                            exfalso; omega
                        · intro hc63
                          change ¬ (wt ≠ (0 : Int)) at hc63
                          exfalso; omega
                      · intro hc64
                        change ¬ ((5 : Int) ≤ wt) at hc64
                        exfalso; omega
                    · intro hc65
                      change ¬ ((5 : Int) ≤ wt) at hc65
                      refine pw_ld E (pc' := 230) (st' := [.long k42_8, .ref 141]) rfl (fun _ => rfl) ?_
                      refine pw_goto E (pc' := 235) rfl (by decide) ?_
                      refine pw_putL h38I E (c := 125) (k := 24) (pc' := 238) rfl rfl rfl rfl rfl rfl ?_
                      intro h66I h66E
                      generalize h66w : pw_w h38 125 24 (.long k42_8) = h66 at h66I h66E ⊢
                      have h66F := h38F.tr (h66E.wk (W' := [125, 149, 150]) (by first | rfl | simp))
                      refine pw_ld E (pc' := 239) (st' := [.ref 141]) rfl (fun _ => rfl) ?_
                      refine pw_ld E (pc' := 240) (st' := [pw_i wt, .ref 141]) rfl (fun _ => rfl) ?_
                      refine pw_ld E (pc' := 241) (st' := [pw_i 5, pw_i wt, .ref 141]) rfl (fun _ => rfl) ?_
                      refine pw_if2 E (pc' := 249) rfl (by decide) (by omega) (by omega) (by decide) (by decide) ?_ ?_
                      · intro hc67
                        change (5 : Int) ≤ wt at hc67
                        exfalso; omega
                      · intro hc68
                        change ¬ ((5 : Int) ≤ wt) at hc68
                        refine pw_ld E (pc' := 246) (st' := [.long (Int64.ofInt k42_10), .ref 141]) rfl (fun _ => rfl) ?_
                        refine pw_goto E (pc' := 251) rfl (by decide) ?_
                        refine pw_putM h66I E (c := 125) (k := 25) (pc' := 254) rfl rfl rfl rfl (by omega) (by omega) (by omega) (by omega) rfl rfl ?_
                        intro h69I h69E
                        generalize h69w : pw_w h66 125 25 (.long (Int64.ofInt k42_10)) = h69 at h69I h69E ⊢
                        have h69F := h66F.tr (h69E.wk (W' := [125, 149, 150]) (by first | rfl | simp))
                        refine pw_ld E (pc' := 255) (st' := [pw_i wt]) rfl (fun _ => rfl) ?_
                        refine pw_if E (pc' := 262) rfl (by decide) (by omega) (by omega) ?_ ?_
                        · intro hc70
                          change wt ≠ (0 : Int) at hc70
                          refine pw_ld E (pc' := 263) (st' := [pw_i wt]) rfl (fun _ => rfl) ?_
                          refine pw_ld E (pc' := 264) (st' := [pw_i 1, pw_i wt]) rfl (fun _ => rfl) ?_
                          refine pw_if2 E (pc' := 272) rfl (by decide) (by omega) (by omega) (by decide) (by decide) ?_ ?_
                          · intro hc71
                            change wt ≠ (1 : Int) at hc71
                            refine pw_ld E (pc' := 273) (st' := [pw_i wt]) rfl (fun _ => rfl) ?_
                            refine pw_ld E (pc' := 274) (st' := [pw_i 2, pw_i wt]) rfl (fun _ => rfl) ?_
                            refine pw_if2 E (pc' := 282) rfl (by decide) (by omega) (by omega) (by decide) (by decide) ?_ ?_
                            · intro hc72
                              change wt ≠ (2 : Int) at hc72
                              refine pw_ld E (pc' := 283) (st' := [.ref 141]) rfl (fun _ => rfl) ?_
                              refine pw_ld E (pc' := 284) (st' := [pw_i wt, .ref 141]) rfl (fun _ => rfl) ?_
                              refine pw_ld E (pc' := 285) (st' := [pw_i 2, pw_i wt, .ref 141]) rfl (fun _ => rfl) ?_
                              refine pw_rem E (pc' := 286) rfl rfl (by omega) (by omega) (by decide) (by decide) ?_
                              refine pw_ld E (pc' := 287) (st' := [pw_i 1, pw_i (wt % 2), .ref 141]) rfl (fun _ => rfl) ?_
                              refine pw_if2 E (pc' := 294) rfl (by decide) (by omega) (by omega) (by decide) (by decide) ?_ ?_
                              · intro hc73
                                change wt % 2 ≠ (1 : Int) at hc73
                                refine pw_ld E (pc' := 295) (st' := [pw_i 1, .ref 141]) rfl (fun _ => rfl) ?_
                                have he74 : pw_gm h69 125 25 = k42_10 := by rw [← h69w]; exact pw_gm_eq (c := 125) (k := 25) h66I rfl rfl (by omega) (by omega)
                                obtain ⟨f75l, f75h, -⟩ := pw_obj (c := 125) h69I rfl
                                refine pw_call (m' := 222) (As := [.ref 141, pw_i 1]) (rest := []) (ls'' := [some (.ref 141), some (pw_i 1), none, none]) (Nat.le_trans (by decide) hd) E rfl (fun _ => pw_iV rfl rfl rfl rfl (pw_cellI f75h rfl)) (rfl : pm_ent 222 = some (2, 4, 12, 2, pmc_222)) rfl rfl (cm_222 (pw_dp hd (by decide)) h69I (1) (by omega) (by omega) (by omega)) ?_
                                rintro u77 v76 ⟨rfl, w78, rfl⟩
                                refine ⟨_, rfl, ?_⟩
                                show pw X d h69 286 298 [some (.ref 141), some (pw_i wt), some (.long k42_2), none, some (.long k42_4), none, some (.long k42_6), none, some (.long k42_8), none, some (.long (Int64.ofInt k42_10)), none, some (.long k42_12), none, some (.long (Int64.ofInt k42_14)), none, some (pw_i k42_16)] [.long w78] _
                                refine pw_lret E rfl ?_
                                exact ⟨h69I, h69F, ⟨_, rfl⟩⟩
                              · intro hc79
                                change ¬ (wt % 2 ≠ (1 : Int)) at hc79
                                refine pw_ld E (pc' := 291) (st' := [pw_i 0, .ref 141]) rfl (fun _ => rfl) ?_
                                refine pw_goto E (pc' := 295) rfl (by decide) ?_
                                have he80 : pw_gm h69 125 25 = k42_10 := by rw [← h69w]; exact pw_gm_eq (c := 125) (k := 25) h66I rfl rfl (by omega) (by omega)
                                obtain ⟨f81l, f81h, -⟩ := pw_obj (c := 125) h69I rfl
                                refine pw_call (m' := 222) (As := [.ref 141, pw_i 0]) (rest := []) (ls'' := [some (.ref 141), some (pw_i 0), none, none]) (Nat.le_trans (by decide) hd) E rfl (fun _ => pw_iV rfl rfl rfl rfl (pw_cellI f81h rfl)) (rfl : pm_ent 222 = some (2, 4, 12, 2, pmc_222)) rfl rfl (cm_222 (pw_dp hd (by decide)) h69I (0) (by omega) (by omega) (by omega)) ?_
                                rintro u83 v82 ⟨rfl, w84, rfl⟩
                                refine ⟨_, rfl, ?_⟩
                                show pw X d h69 286 298 [some (.ref 141), some (pw_i wt), some (.long k42_2), none, some (.long k42_4), none, some (.long k42_6), none, some (.long k42_8), none, some (.long (Int64.ofInt k42_10)), none, some (.long k42_12), none, some (.long (Int64.ofInt k42_14)), none, some (pw_i k42_16)] [.long w84] _
                                refine pw_lret E rfl ?_
                                exact ⟨h69I, h69F, ⟨_, rfl⟩⟩
                            · intro hc85
                              change ¬ (wt ≠ (2 : Int)) at hc85
                              exfalso; omega
                          · intro hc86
                            change ¬ (wt ≠ (1 : Int)) at hc86
                            exfalso; omega
                        · intro hc87
                          change ¬ (wt ≠ (0 : Int)) at hc87
                          exfalso; omega
                  · intro hc88
                    change ¬ (pw_g h38 125 0 ≤ (0 : Int)) at hc88
                    exfalso; omega
                · intro hc89
                  change ¬ (c36 ≠ (0 : Int)) at hc89
                  refine pw_ld E (pc' := 206) (st' := [pw_i 1, .ref 141]) rfl (fun _ => rfl) ?_
                  refine pw_goto E (pc' := 210) rfl (by decide) ?_
                  refine pw_putI I42 E (c := 125) (k := 0) (pc' := 213) rfl rfl rfl rfl (by omega) (by omega) (by omega) (by omega) rfl rfl ?_
                  intro h90I h90E
                  generalize h90w : pw_w gh42 125 0 (pw_i 1) = h90 at h90I h90E ⊢
                  have h90F := E42.tr (h90E.wk (W' := [125, 149, 150]) (by first | rfl | simp))
                  refine pw_ld E (pc' := 214) (st' := [.ref 141]) rfl (fun _ => rfl) ?_
                  have he92 : pw_g h90 125 0 = 1 := by rw [← h90w]; exact pw_g_eq (c := 125) (k := 0) I42 rfl rfl (by omega) (by omega)
                  refine pw_getI2 h90I E (c := 125) (k := 0) (pc' := 217) rfl rfl rfl rfl rfl rfl (fun hf91a hf91b => ?_)
                  refine pw_if E (pc' := 222) rfl (by decide) (by omega) (by omega) ?_ ?_
                  · intro hc93
                    change pw_g h90 125 0 ≤ (0 : Int) at hc93
                    exfalso; omega
                  · intro hc94
                    change ¬ (pw_g h90 125 0 ≤ (0 : Int)) at hc94
                    refine pw_ld E (pc' := 221) (st' := [.long (Int64.ofInt 0)]) rfl (fun _ => rfl) ?_
                    refine pw_lret E rfl ?_
                    exact ⟨h90I, h90F, ⟨_, rfl⟩⟩
          · intro hc95
            change ¬ ((44 : Int) ≤ k42_16) at hc95
            refine pw_ld E (pc' := 50) (st' := [.ref 141]) rfl (fun _ => rfl) ?_
            refine pw_ld E (pc' := 52) (st' := [pw_i k42_16, .ref 141]) rfl (fun _ => rfl) ?_
            refine pw_bip E (pc' := 54) rfl rfl (by decide) ?_
            refine pw_div E (pc' := 55) rfl rfl (by omega) (by omega) (by decide) (by decide) ?_
            refine pw_ld E (pc' := 57) (st' := [pw_i k42_16, pw_i (k42_16 / 11), .ref 141]) rfl (fun _ => rfl) ?_
            refine pw_bip E (pc' := 59) rfl rfl (by decide) ?_
            refine pw_rem E (pc' := 60) rfl rfl (by omega) (by omega) (by decide) (by decide) ?_
            obtain ⟨f96l, f96h, -⟩ := pw_obj (c := 125) I42 rfl
            refine pw_call (m' := 285) (As := [.ref 141, pw_i (k42_16 / 11), pw_i (k42_16 % 11)]) (rest := []) (ls'' := [some (.ref 141), some (pw_i (k42_16 / 11)), some (pw_i (k42_16 % 11)), none, none, none]) (Nat.le_trans (by decide) hd) E rfl (fun _ => pw_iV rfl rfl rfl rfl (pw_cellI f96h rfl)) (rfl : pm_ent 285 = some (3, 6, 12, 1, pmc_285)) rfl rfl (cm_285 (pw_dp hd (by decide)) I42 (k42_16 / 11) (by omega) (by omega) (k42_16 % 11) (by omega) (by omega) (pw_KE I E42 hp0 rfl)) ?_
            rintro h97 v98 ⟨h97I, h97E, x99, rfl, hx99a, hx99b, hx99r⟩
            refine ⟨_, rfl, ?_⟩
            have h97F := E42.tr (h97E.wk (W' := [125, 149, 150]) (by first | rfl | simp))
            show pw X d h97 286 63 [some (.ref 141), some (pw_i wt), some (.long k42_2), none, some (.long k42_4), none, some (.long k42_6), none, some (.long k42_8), none, some (.long (Int64.ofInt k42_10)), none, some (.long k42_12), none, some (.long (Int64.ofInt k42_14)), none, some (pw_i k42_16)] [pw_i x99] _
            change (x99 = 1 ∧ 1 ≤ pw_gm h97 125 25 ∧ pw_gm h97 125 25 ≤ 576) ∨ x99 = 0 at hx99r
            rcases (by omega : x99 = 1 ∨ x99 = 0) with hb100 | hb100
            · skip
              refine pw_if E (pc' := 180) rfl (by decide) (by omega) (by omega) ?_ ?_
              · intro hc101
                change x99 = (0 : Int) at hc101
                exfalso; omega
              · intro hc102
                change ¬ (x99 = (0 : Int)) at hc102
                refine pw_ld E (pc' := 67) (st' := [.long k42_2]) rfl (fun _ => rfl) ?_
                refine pw_ld E (pc' := 68) (st' := [.long (Int64.ofInt 0), .long k42_2]) rfl (fun _ => rfl) ?_
                refine pw_lcmp E (pc' := 69) rfl rfl (fun c103 hc103 => ?_)
                refine pw_if E (pc' := 90) rfl (by decide) (by omega) (by omega) ?_ ?_
                · intro hc104
                  change c103 = (0 : Int) at hc104
                  refine pw_ld E (pc' := 91) (st' := [.ref 141]) rfl (fun _ => rfl) ?_
                  refine pw_getL h97I E (c := 125) (k := 24) (pc' := 94) rfl rfl rfl rfl rfl rfl ?_
                  refine pw_lst E (pc' := 96) (ls' := [some (.ref 141), some (pw_i wt), some (.long k42_2), none, some (.long k42_4), none, some (.long k42_6), none, some (.long (pw_gl h97 125 24)), none, some (.long (Int64.ofInt k42_10)), none, some (.long k42_12), none, some (.long (Int64.ofInt k42_14)), none, some (pw_i k42_16)]) rfl rfl rfl rfl ?_
                  refine pw_ld E (pc' := 97) (st' := [.ref 141]) rfl (fun _ => rfl) ?_
                  refine pw_getM h97I E (c := 125) (k := 25) (pc' := 100) rfl rfl rfl rfl rfl rfl (fun hf105a hf105b => ?_)
                  refine pw_lst E (pc' := 102) (ls' := [some (.ref 141), some (pw_i wt), some (.long k42_2), none, some (.long k42_4), none, some (.long k42_6), none, some (.long (pw_gl h97 125 24)), none, some (.long (Int64.ofInt (pw_gm h97 125 25))), none, some (.long k42_12), none, some (.long (Int64.ofInt k42_14)), none, some (pw_i k42_16)]) rfl rfl rfl rfl ?_
                  refine pw_ld E (pc' := 103) (st' := [.long k42_2]) rfl (fun _ => rfl) ?_
                  refine pw_ld E (pc' := 104) (st' := [.long (Int64.ofInt 0), .long k42_2]) rfl (fun _ => rfl) ?_
                  refine pw_lcmp E (pc' := 105) rfl rfl (fun c106 hc106 => ?_)
                  refine pw_if E (pc' := 126) rfl (by decide) (by omega) (by omega) ?_ ?_
                  · intro hc107
                    change c106 = (0 : Int) at hc107
                    refine pw_ld E (pc' := 127) (st' := [.ref 141]) rfl (fun _ => rfl) ?_
                    refine pw_getL h97I E (c := 125) (k := 24) (pc' := 130) rfl rfl rfl rfl rfl rfl ?_
                    refine pw_lst E (pc' := 132) (ls' := [some (.ref 141), some (pw_i wt), some (.long k42_2), none, some (.long k42_4), none, some (.long k42_6), none, some (.long (pw_gl h97 125 24)), none, some (.long (Int64.ofInt (pw_gm h97 125 25))), none, some (.long (pw_gl h97 125 24)), none, some (.long (Int64.ofInt k42_14)), none, some (pw_i k42_16)]) rfl rfl rfl rfl ?_
                    refine pw_ld E (pc' := 133) (st' := [.ref 141]) rfl (fun _ => rfl) ?_
                    refine pw_getM h97I E (c := 125) (k := 25) (pc' := 136) rfl rfl rfl rfl rfl rfl (fun hf108a hf108b => ?_)
                    refine pw_lst E (pc' := 138) (ls' := [some (.ref 141), some (pw_i wt), some (.long k42_2), none, some (.long k42_4), none, some (.long k42_6), none, some (.long (pw_gl h97 125 24)), none, some (.long (Int64.ofInt (pw_gm h97 125 25))), none, some (.long (pw_gl h97 125 24)), none, some (.long (Int64.ofInt (pw_gm h97 125 25))), none, some (pw_i k42_16)]) rfl rfl rfl rfl ?_
                    refine pw_ld E (pc' := 139) (st' := [.long k42_2]) rfl (fun _ => rfl) ?_
                    refine pw_ld E (pc' := 140) (st' := [.long (Int64.ofInt 1), .long k42_2]) rfl (fun _ => rfl) ?_
                    refine pw_ld E (pc' := 141) (st' := [.long (k42_2 + (Int64.ofInt 1))]) rfl (fun _ => rfl) ?_
                    refine pw_lstn E (pc' := 142) (ls' := [some (.ref 141), some (pw_i wt), some (.long (k42_2 + (Int64.ofInt 1))), none, some (.long k42_4), none, some (.long k42_6), none, some (.long (pw_gl h97 125 24)), none, some (.long (Int64.ofInt (pw_gm h97 125 25))), none, some (.long (pw_gl h97 125 24)), none, some (.long (Int64.ofInt (pw_gm h97 125 25))), none, some (pw_i k42_16)]) rfl rfl rfl rfl ?_
                    refine pw_ld E (pc' := 144) (st' := [.long k42_4]) rfl (fun _ => rfl) ?_
                    refine pw_ld E (pc' := 145) (st' := [.ref 141, .long k42_4]) rfl (fun _ => rfl) ?_
                    refine pw_getL h97I E (c := 125) (k := 24) (pc' := 148) rfl rfl rfl rfl rfl rfl ?_
                    refine pw_ld E (pc' := 149) (st' := [.long (Int64.ofInt 0), .long (pw_gl h97 125 24), .long k42_4]) rfl (fun _ => rfl) ?_
                    refine pw_lcmp E (pc' := 150) rfl rfl (fun c109 hc109 => ?_)
                    refine pw_if E (pc' := 157) rfl (by decide) (by omega) (by omega) ?_ ?_
                    · intro hc110
                      change (0 : Int) ≤ c109 at hc110
                      refine pw_ld E (pc' := 158) (st' := [.long (Int64.ofInt 0), .long k42_4]) rfl (fun _ => rfl) ?_
                      refine pw_ld E (pc' := 159) (st' := [.long (k42_4 + (Int64.ofInt 0))]) rfl (fun _ => rfl) ?_
                      refine pw_lst E (pc' := 161) (ls' := [some (.ref 141), some (pw_i wt), some (.long (k42_2 + (Int64.ofInt 1))), none, some (.long (k42_4 + (Int64.ofInt 0))), none, some (.long k42_6), none, some (.long (pw_gl h97 125 24)), none, some (.long (Int64.ofInt (pw_gm h97 125 25))), none, some (.long (pw_gl h97 125 24)), none, some (.long (Int64.ofInt (pw_gm h97 125 25))), none, some (pw_i k42_16)]) rfl rfl rfl rfl ?_
                      refine pw_ld E (pc' := 163) (st' := [.long k42_6]) rfl (fun _ => rfl) ?_
                      refine pw_ld E (pc' := 164) (st' := [.ref 141, .long k42_6]) rfl (fun _ => rfl) ?_
                      refine pw_getL h97I E (c := 125) (k := 24) (pc' := 167) rfl rfl rfl rfl rfl rfl ?_
                      refine pw_ld E (pc' := 168) (st' := [.long (Int64.ofInt 0), .long (pw_gl h97 125 24), .long k42_6]) rfl (fun _ => rfl) ?_
                      refine pw_lcmp E (pc' := 169) rfl rfl (fun c111 hc111 => ?_)
                      refine pw_if E (pc' := 176) rfl (by decide) (by omega) (by omega) ?_ ?_
                      · intro hc112
                        change c111 ≤ (0 : Int) at hc112
                        refine pw_ld E (pc' := 177) (st' := [.long (Int64.ofInt 0), .long k42_6]) rfl (fun _ => rfl) ?_
                        refine pw_ld E (pc' := 178) (st' := [.long (k42_6 + (Int64.ofInt 0))]) rfl (fun _ => rfl) ?_
                        refine pw_lst E (pc' := 180) (ls' := [some (.ref 141), some (pw_i wt), some (.long (k42_2 + (Int64.ofInt 1))), none, some (.long (k42_4 + (Int64.ofInt 0))), none, some (.long (k42_6 + (Int64.ofInt 0))), none, some (.long (pw_gl h97 125 24)), none, some (.long (Int64.ofInt (pw_gm h97 125 25))), none, some (.long (pw_gl h97 125 24)), none, some (.long (Int64.ofInt (pw_gm h97 125 25))), none, some (pw_i k42_16)]) rfl rfl rfl rfl ?_
                        refine pw_inc E (pc' := 183) (ls' := [some (.ref 141), some (pw_i wt), some (.long (k42_2 + (Int64.ofInt 1))), none, some (.long (k42_4 + (Int64.ofInt 0))), none, some (.long (k42_6 + (Int64.ofInt 0))), none, some (.long (pw_gl h97 125 24)), none, some (.long (Int64.ofInt (pw_gm h97 125 25))), none, some (.long (pw_gl h97 125 24)), none, some (.long (Int64.ofInt (pw_gm h97 125 25))), none, some (pw_i (k42_16 + 1))]) rfl rfl rfl rfl ?_
                        refine pw_goto E (pc' := 42) rfl (by decide) ?_
                        exact ih42 _ (by omega) (k42_2 + (Int64.ofInt 1)) (k42_4 + (Int64.ofInt 0)) (k42_6 + (Int64.ofInt 0)) (pw_gl h97 125 24) (pw_gm h97 125 25) (pw_gl h97 125 24) (pw_gm h97 125 25) (k42_16 + 1) h97 h97I h97F (by omega) (by omega) (by omega) (by omega) (by omega) (by omega)  rfl
                      · intro hc113
                        change ¬ (c111 ≤ (0 : Int)) at hc113
                        refine pw_ld E (pc' := 173) (st' := [.long (Int64.ofInt 1), .long k42_6]) rfl (fun _ => rfl) ?_
                        refine pw_goto E (pc' := 177) rfl (by decide) ?_
                        refine pw_ld E (pc' := 178) (st' := [.long (k42_6 + (Int64.ofInt 1))]) rfl (fun _ => rfl) ?_
                        refine pw_lst E (pc' := 180) (ls' := [some (.ref 141), some (pw_i wt), some (.long (k42_2 + (Int64.ofInt 1))), none, some (.long (k42_4 + (Int64.ofInt 0))), none, some (.long (k42_6 + (Int64.ofInt 1))), none, some (.long (pw_gl h97 125 24)), none, some (.long (Int64.ofInt (pw_gm h97 125 25))), none, some (.long (pw_gl h97 125 24)), none, some (.long (Int64.ofInt (pw_gm h97 125 25))), none, some (pw_i k42_16)]) rfl rfl rfl rfl ?_
                        refine pw_inc E (pc' := 183) (ls' := [some (.ref 141), some (pw_i wt), some (.long (k42_2 + (Int64.ofInt 1))), none, some (.long (k42_4 + (Int64.ofInt 0))), none, some (.long (k42_6 + (Int64.ofInt 1))), none, some (.long (pw_gl h97 125 24)), none, some (.long (Int64.ofInt (pw_gm h97 125 25))), none, some (.long (pw_gl h97 125 24)), none, some (.long (Int64.ofInt (pw_gm h97 125 25))), none, some (pw_i (k42_16 + 1))]) rfl rfl rfl rfl ?_
                        refine pw_goto E (pc' := 42) rfl (by decide) ?_
                        exact ih42 _ (by omega) (k42_2 + (Int64.ofInt 1)) (k42_4 + (Int64.ofInt 0)) (k42_6 + (Int64.ofInt 1)) (pw_gl h97 125 24) (pw_gm h97 125 25) (pw_gl h97 125 24) (pw_gm h97 125 25) (k42_16 + 1) h97 h97I h97F (by omega) (by omega) (by omega) (by omega) (by omega) (by omega)  rfl
                    · intro hc114
                      change ¬ ((0 : Int) ≤ c109) at hc114
                      refine pw_ld E (pc' := 154) (st' := [.long (Int64.ofInt 1), .long k42_4]) rfl (fun _ => rfl) ?_
                      refine pw_goto E (pc' := 158) rfl (by decide) ?_
                      refine pw_ld E (pc' := 159) (st' := [.long (k42_4 + (Int64.ofInt 1))]) rfl (fun _ => rfl) ?_
                      refine pw_lst E (pc' := 161) (ls' := [some (.ref 141), some (pw_i wt), some (.long (k42_2 + (Int64.ofInt 1))), none, some (.long (k42_4 + (Int64.ofInt 1))), none, some (.long k42_6), none, some (.long (pw_gl h97 125 24)), none, some (.long (Int64.ofInt (pw_gm h97 125 25))), none, some (.long (pw_gl h97 125 24)), none, some (.long (Int64.ofInt (pw_gm h97 125 25))), none, some (pw_i k42_16)]) rfl rfl rfl rfl ?_
                      refine pw_ld E (pc' := 163) (st' := [.long k42_6]) rfl (fun _ => rfl) ?_
                      refine pw_ld E (pc' := 164) (st' := [.ref 141, .long k42_6]) rfl (fun _ => rfl) ?_
                      refine pw_getL h97I E (c := 125) (k := 24) (pc' := 167) rfl rfl rfl rfl rfl rfl ?_
                      refine pw_ld E (pc' := 168) (st' := [.long (Int64.ofInt 0), .long (pw_gl h97 125 24), .long k42_6]) rfl (fun _ => rfl) ?_
                      refine pw_lcmp E (pc' := 169) rfl rfl (fun c115 hc115 => ?_)
                      refine pw_if E (pc' := 176) rfl (by decide) (by omega) (by omega) ?_ ?_
                      · intro hc116
                        change c115 ≤ (0 : Int) at hc116
                        refine pw_ld E (pc' := 177) (st' := [.long (Int64.ofInt 0), .long k42_6]) rfl (fun _ => rfl) ?_
                        refine pw_ld E (pc' := 178) (st' := [.long (k42_6 + (Int64.ofInt 0))]) rfl (fun _ => rfl) ?_
                        refine pw_lst E (pc' := 180) (ls' := [some (.ref 141), some (pw_i wt), some (.long (k42_2 + (Int64.ofInt 1))), none, some (.long (k42_4 + (Int64.ofInt 1))), none, some (.long (k42_6 + (Int64.ofInt 0))), none, some (.long (pw_gl h97 125 24)), none, some (.long (Int64.ofInt (pw_gm h97 125 25))), none, some (.long (pw_gl h97 125 24)), none, some (.long (Int64.ofInt (pw_gm h97 125 25))), none, some (pw_i k42_16)]) rfl rfl rfl rfl ?_
                        refine pw_inc E (pc' := 183) (ls' := [some (.ref 141), some (pw_i wt), some (.long (k42_2 + (Int64.ofInt 1))), none, some (.long (k42_4 + (Int64.ofInt 1))), none, some (.long (k42_6 + (Int64.ofInt 0))), none, some (.long (pw_gl h97 125 24)), none, some (.long (Int64.ofInt (pw_gm h97 125 25))), none, some (.long (pw_gl h97 125 24)), none, some (.long (Int64.ofInt (pw_gm h97 125 25))), none, some (pw_i (k42_16 + 1))]) rfl rfl rfl rfl ?_
                        refine pw_goto E (pc' := 42) rfl (by decide) ?_
                        exact ih42 _ (by omega) (k42_2 + (Int64.ofInt 1)) (k42_4 + (Int64.ofInt 1)) (k42_6 + (Int64.ofInt 0)) (pw_gl h97 125 24) (pw_gm h97 125 25) (pw_gl h97 125 24) (pw_gm h97 125 25) (k42_16 + 1) h97 h97I h97F (by omega) (by omega) (by omega) (by omega) (by omega) (by omega)  rfl
                      · intro hc117
                        change ¬ (c115 ≤ (0 : Int)) at hc117
                        refine pw_ld E (pc' := 173) (st' := [.long (Int64.ofInt 1), .long k42_6]) rfl (fun _ => rfl) ?_
                        refine pw_goto E (pc' := 177) rfl (by decide) ?_
                        refine pw_ld E (pc' := 178) (st' := [.long (k42_6 + (Int64.ofInt 1))]) rfl (fun _ => rfl) ?_
                        refine pw_lst E (pc' := 180) (ls' := [some (.ref 141), some (pw_i wt), some (.long (k42_2 + (Int64.ofInt 1))), none, some (.long (k42_4 + (Int64.ofInt 1))), none, some (.long (k42_6 + (Int64.ofInt 1))), none, some (.long (pw_gl h97 125 24)), none, some (.long (Int64.ofInt (pw_gm h97 125 25))), none, some (.long (pw_gl h97 125 24)), none, some (.long (Int64.ofInt (pw_gm h97 125 25))), none, some (pw_i k42_16)]) rfl rfl rfl rfl ?_
                        refine pw_inc E (pc' := 183) (ls' := [some (.ref 141), some (pw_i wt), some (.long (k42_2 + (Int64.ofInt 1))), none, some (.long (k42_4 + (Int64.ofInt 1))), none, some (.long (k42_6 + (Int64.ofInt 1))), none, some (.long (pw_gl h97 125 24)), none, some (.long (Int64.ofInt (pw_gm h97 125 25))), none, some (.long (pw_gl h97 125 24)), none, some (.long (Int64.ofInt (pw_gm h97 125 25))), none, some (pw_i (k42_16 + 1))]) rfl rfl rfl rfl ?_
                        refine pw_goto E (pc' := 42) rfl (by decide) ?_
                        exact ih42 _ (by omega) (k42_2 + (Int64.ofInt 1)) (k42_4 + (Int64.ofInt 1)) (k42_6 + (Int64.ofInt 1)) (pw_gl h97 125 24) (pw_gm h97 125 25) (pw_gl h97 125 24) (pw_gm h97 125 25) (k42_16 + 1) h97 h97I h97F (by omega) (by omega) (by omega) (by omega) (by omega) (by omega)  rfl
                  · intro hc118
                    change ¬ (c106 = (0 : Int)) at hc118
                    refine pw_ld E (pc' := 109) (st' := [.ref 141]) rfl (fun _ => rfl) ?_
                    refine pw_getL h97I E (c := 125) (k := 24) (pc' := 112) rfl rfl rfl rfl rfl rfl ?_
                    refine pw_ld E (pc' := 114) (st' := [.long (Int64.ofInt k42_14), .long (pw_gl h97 125 24)]) rfl (fun _ => rfl) ?_
                    refine pw_ld E (pc' := 115) (st' := [.long ((pw_gl h97 125 24) * (Int64.ofInt k42_14))]) rfl (fun _ => rfl) ?_
                    refine pw_ld E (pc' := 117) (st' := [.long k42_12, .long ((pw_gl h97 125 24) * (Int64.ofInt k42_14))]) rfl (fun _ => rfl) ?_
                    refine pw_ld E (pc' := 118) (st' := [.ref 141, .long k42_12, .long ((pw_gl h97 125 24) * (Int64.ofInt k42_14))]) rfl (fun _ => rfl) ?_
                    refine pw_getM h97I E (c := 125) (k := 25) (pc' := 121) rfl rfl rfl rfl rfl rfl (fun hf119a hf119b => ?_)
                    refine pw_ld E (pc' := 122) (st' := [.long (k42_12 * (Int64.ofInt (pw_gm h97 125 25))), .long ((pw_gl h97 125 24) * (Int64.ofInt k42_14))]) rfl (fun _ => rfl) ?_
                    refine pw_lcmp E (pc' := 123) rfl rfl (fun c120 hc120 => ?_)
                    refine pw_if E (pc' := 138) rfl (by decide) (by omega) (by omega) ?_ ?_
                    · intro hc121
                      change c120 ≤ (0 : Int) at hc121
                      refine pw_ld E (pc' := 139) (st' := [.long k42_2]) rfl (fun _ => rfl) ?_
                      refine pw_ld E (pc' := 140) (st' := [.long (Int64.ofInt 1), .long k42_2]) rfl (fun _ => rfl) ?_
                      refine pw_ld E (pc' := 141) (st' := [.long (k42_2 + (Int64.ofInt 1))]) rfl (fun _ => rfl) ?_
                      refine pw_lstn E (pc' := 142) (ls' := [some (.ref 141), some (pw_i wt), some (.long (k42_2 + (Int64.ofInt 1))), none, some (.long k42_4), none, some (.long k42_6), none, some (.long (pw_gl h97 125 24)), none, some (.long (Int64.ofInt (pw_gm h97 125 25))), none, some (.long k42_12), none, some (.long (Int64.ofInt k42_14)), none, some (pw_i k42_16)]) rfl rfl rfl rfl ?_
                      refine pw_ld E (pc' := 144) (st' := [.long k42_4]) rfl (fun _ => rfl) ?_
                      refine pw_ld E (pc' := 145) (st' := [.ref 141, .long k42_4]) rfl (fun _ => rfl) ?_
                      refine pw_getL h97I E (c := 125) (k := 24) (pc' := 148) rfl rfl rfl rfl rfl rfl ?_
                      refine pw_ld E (pc' := 149) (st' := [.long (Int64.ofInt 0), .long (pw_gl h97 125 24), .long k42_4]) rfl (fun _ => rfl) ?_
                      refine pw_lcmp E (pc' := 150) rfl rfl (fun c122 hc122 => ?_)
                      refine pw_if E (pc' := 157) rfl (by decide) (by omega) (by omega) ?_ ?_
                      · intro hc123
                        change (0 : Int) ≤ c122 at hc123
                        refine pw_ld E (pc' := 158) (st' := [.long (Int64.ofInt 0), .long k42_4]) rfl (fun _ => rfl) ?_
                        refine pw_ld E (pc' := 159) (st' := [.long (k42_4 + (Int64.ofInt 0))]) rfl (fun _ => rfl) ?_
                        refine pw_lst E (pc' := 161) (ls' := [some (.ref 141), some (pw_i wt), some (.long (k42_2 + (Int64.ofInt 1))), none, some (.long (k42_4 + (Int64.ofInt 0))), none, some (.long k42_6), none, some (.long (pw_gl h97 125 24)), none, some (.long (Int64.ofInt (pw_gm h97 125 25))), none, some (.long k42_12), none, some (.long (Int64.ofInt k42_14)), none, some (pw_i k42_16)]) rfl rfl rfl rfl ?_
                        refine pw_ld E (pc' := 163) (st' := [.long k42_6]) rfl (fun _ => rfl) ?_
                        refine pw_ld E (pc' := 164) (st' := [.ref 141, .long k42_6]) rfl (fun _ => rfl) ?_
                        refine pw_getL h97I E (c := 125) (k := 24) (pc' := 167) rfl rfl rfl rfl rfl rfl ?_
                        refine pw_ld E (pc' := 168) (st' := [.long (Int64.ofInt 0), .long (pw_gl h97 125 24), .long k42_6]) rfl (fun _ => rfl) ?_
                        refine pw_lcmp E (pc' := 169) rfl rfl (fun c124 hc124 => ?_)
                        refine pw_if E (pc' := 176) rfl (by decide) (by omega) (by omega) ?_ ?_
                        · intro hc125
                          change c124 ≤ (0 : Int) at hc125
                          refine pw_ld E (pc' := 177) (st' := [.long (Int64.ofInt 0), .long k42_6]) rfl (fun _ => rfl) ?_
                          refine pw_ld E (pc' := 178) (st' := [.long (k42_6 + (Int64.ofInt 0))]) rfl (fun _ => rfl) ?_
                          refine pw_lst E (pc' := 180) (ls' := [some (.ref 141), some (pw_i wt), some (.long (k42_2 + (Int64.ofInt 1))), none, some (.long (k42_4 + (Int64.ofInt 0))), none, some (.long (k42_6 + (Int64.ofInt 0))), none, some (.long (pw_gl h97 125 24)), none, some (.long (Int64.ofInt (pw_gm h97 125 25))), none, some (.long k42_12), none, some (.long (Int64.ofInt k42_14)), none, some (pw_i k42_16)]) rfl rfl rfl rfl ?_
                          refine pw_inc E (pc' := 183) (ls' := [some (.ref 141), some (pw_i wt), some (.long (k42_2 + (Int64.ofInt 1))), none, some (.long (k42_4 + (Int64.ofInt 0))), none, some (.long (k42_6 + (Int64.ofInt 0))), none, some (.long (pw_gl h97 125 24)), none, some (.long (Int64.ofInt (pw_gm h97 125 25))), none, some (.long k42_12), none, some (.long (Int64.ofInt k42_14)), none, some (pw_i (k42_16 + 1))]) rfl rfl rfl rfl ?_
                          refine pw_goto E (pc' := 42) rfl (by decide) ?_
                          exact ih42 _ (by omega) (k42_2 + (Int64.ofInt 1)) (k42_4 + (Int64.ofInt 0)) (k42_6 + (Int64.ofInt 0)) (pw_gl h97 125 24) (pw_gm h97 125 25) (k42_12) (k42_14) (k42_16 + 1) h97 h97I h97F (by omega) (by omega) (by omega) (by omega) (by omega) (by omega)  rfl
                        · intro hc126
                          change ¬ (c124 ≤ (0 : Int)) at hc126
                          refine pw_ld E (pc' := 173) (st' := [.long (Int64.ofInt 1), .long k42_6]) rfl (fun _ => rfl) ?_
                          refine pw_goto E (pc' := 177) rfl (by decide) ?_
                          refine pw_ld E (pc' := 178) (st' := [.long (k42_6 + (Int64.ofInt 1))]) rfl (fun _ => rfl) ?_
                          refine pw_lst E (pc' := 180) (ls' := [some (.ref 141), some (pw_i wt), some (.long (k42_2 + (Int64.ofInt 1))), none, some (.long (k42_4 + (Int64.ofInt 0))), none, some (.long (k42_6 + (Int64.ofInt 1))), none, some (.long (pw_gl h97 125 24)), none, some (.long (Int64.ofInt (pw_gm h97 125 25))), none, some (.long k42_12), none, some (.long (Int64.ofInt k42_14)), none, some (pw_i k42_16)]) rfl rfl rfl rfl ?_
                          refine pw_inc E (pc' := 183) (ls' := [some (.ref 141), some (pw_i wt), some (.long (k42_2 + (Int64.ofInt 1))), none, some (.long (k42_4 + (Int64.ofInt 0))), none, some (.long (k42_6 + (Int64.ofInt 1))), none, some (.long (pw_gl h97 125 24)), none, some (.long (Int64.ofInt (pw_gm h97 125 25))), none, some (.long k42_12), none, some (.long (Int64.ofInt k42_14)), none, some (pw_i (k42_16 + 1))]) rfl rfl rfl rfl ?_
                          refine pw_goto E (pc' := 42) rfl (by decide) ?_
                          exact ih42 _ (by omega) (k42_2 + (Int64.ofInt 1)) (k42_4 + (Int64.ofInt 0)) (k42_6 + (Int64.ofInt 1)) (pw_gl h97 125 24) (pw_gm h97 125 25) (k42_12) (k42_14) (k42_16 + 1) h97 h97I h97F (by omega) (by omega) (by omega) (by omega) (by omega) (by omega)  rfl
                      · intro hc127
                        change ¬ ((0 : Int) ≤ c122) at hc127
                        refine pw_ld E (pc' := 154) (st' := [.long (Int64.ofInt 1), .long k42_4]) rfl (fun _ => rfl) ?_
                        refine pw_goto E (pc' := 158) rfl (by decide) ?_
                        refine pw_ld E (pc' := 159) (st' := [.long (k42_4 + (Int64.ofInt 1))]) rfl (fun _ => rfl) ?_
                        refine pw_lst E (pc' := 161) (ls' := [some (.ref 141), some (pw_i wt), some (.long (k42_2 + (Int64.ofInt 1))), none, some (.long (k42_4 + (Int64.ofInt 1))), none, some (.long k42_6), none, some (.long (pw_gl h97 125 24)), none, some (.long (Int64.ofInt (pw_gm h97 125 25))), none, some (.long k42_12), none, some (.long (Int64.ofInt k42_14)), none, some (pw_i k42_16)]) rfl rfl rfl rfl ?_
                        refine pw_ld E (pc' := 163) (st' := [.long k42_6]) rfl (fun _ => rfl) ?_
                        refine pw_ld E (pc' := 164) (st' := [.ref 141, .long k42_6]) rfl (fun _ => rfl) ?_
                        refine pw_getL h97I E (c := 125) (k := 24) (pc' := 167) rfl rfl rfl rfl rfl rfl ?_
                        refine pw_ld E (pc' := 168) (st' := [.long (Int64.ofInt 0), .long (pw_gl h97 125 24), .long k42_6]) rfl (fun _ => rfl) ?_
                        refine pw_lcmp E (pc' := 169) rfl rfl (fun c128 hc128 => ?_)
                        refine pw_if E (pc' := 176) rfl (by decide) (by omega) (by omega) ?_ ?_
                        · intro hc129
                          change c128 ≤ (0 : Int) at hc129
                          refine pw_ld E (pc' := 177) (st' := [.long (Int64.ofInt 0), .long k42_6]) rfl (fun _ => rfl) ?_
                          refine pw_ld E (pc' := 178) (st' := [.long (k42_6 + (Int64.ofInt 0))]) rfl (fun _ => rfl) ?_
                          refine pw_lst E (pc' := 180) (ls' := [some (.ref 141), some (pw_i wt), some (.long (k42_2 + (Int64.ofInt 1))), none, some (.long (k42_4 + (Int64.ofInt 1))), none, some (.long (k42_6 + (Int64.ofInt 0))), none, some (.long (pw_gl h97 125 24)), none, some (.long (Int64.ofInt (pw_gm h97 125 25))), none, some (.long k42_12), none, some (.long (Int64.ofInt k42_14)), none, some (pw_i k42_16)]) rfl rfl rfl rfl ?_
                          refine pw_inc E (pc' := 183) (ls' := [some (.ref 141), some (pw_i wt), some (.long (k42_2 + (Int64.ofInt 1))), none, some (.long (k42_4 + (Int64.ofInt 1))), none, some (.long (k42_6 + (Int64.ofInt 0))), none, some (.long (pw_gl h97 125 24)), none, some (.long (Int64.ofInt (pw_gm h97 125 25))), none, some (.long k42_12), none, some (.long (Int64.ofInt k42_14)), none, some (pw_i (k42_16 + 1))]) rfl rfl rfl rfl ?_
                          refine pw_goto E (pc' := 42) rfl (by decide) ?_
                          exact ih42 _ (by omega) (k42_2 + (Int64.ofInt 1)) (k42_4 + (Int64.ofInt 1)) (k42_6 + (Int64.ofInt 0)) (pw_gl h97 125 24) (pw_gm h97 125 25) (k42_12) (k42_14) (k42_16 + 1) h97 h97I h97F (by omega) (by omega) (by omega) (by omega) (by omega) (by omega)  rfl
                        · intro hc130
                          change ¬ (c128 ≤ (0 : Int)) at hc130
                          refine pw_ld E (pc' := 173) (st' := [.long (Int64.ofInt 1), .long k42_6]) rfl (fun _ => rfl) ?_
                          refine pw_goto E (pc' := 177) rfl (by decide) ?_
                          refine pw_ld E (pc' := 178) (st' := [.long (k42_6 + (Int64.ofInt 1))]) rfl (fun _ => rfl) ?_
                          refine pw_lst E (pc' := 180) (ls' := [some (.ref 141), some (pw_i wt), some (.long (k42_2 + (Int64.ofInt 1))), none, some (.long (k42_4 + (Int64.ofInt 1))), none, some (.long (k42_6 + (Int64.ofInt 1))), none, some (.long (pw_gl h97 125 24)), none, some (.long (Int64.ofInt (pw_gm h97 125 25))), none, some (.long k42_12), none, some (.long (Int64.ofInt k42_14)), none, some (pw_i k42_16)]) rfl rfl rfl rfl ?_
                          refine pw_inc E (pc' := 183) (ls' := [some (.ref 141), some (pw_i wt), some (.long (k42_2 + (Int64.ofInt 1))), none, some (.long (k42_4 + (Int64.ofInt 1))), none, some (.long (k42_6 + (Int64.ofInt 1))), none, some (.long (pw_gl h97 125 24)), none, some (.long (Int64.ofInt (pw_gm h97 125 25))), none, some (.long k42_12), none, some (.long (Int64.ofInt k42_14)), none, some (pw_i (k42_16 + 1))]) rfl rfl rfl rfl ?_
                          refine pw_goto E (pc' := 42) rfl (by decide) ?_
                          exact ih42 _ (by omega) (k42_2 + (Int64.ofInt 1)) (k42_4 + (Int64.ofInt 1)) (k42_6 + (Int64.ofInt 1)) (pw_gl h97 125 24) (pw_gm h97 125 25) (k42_12) (k42_14) (k42_16 + 1) h97 h97I h97F (by omega) (by omega) (by omega) (by omega) (by omega) (by omega)  rfl
                    · intro hc131
                      change ¬ (c120 ≤ (0 : Int)) at hc131
                      refine pw_ld E (pc' := 127) (st' := [.ref 141]) rfl (fun _ => rfl) ?_
                      refine pw_getL h97I E (c := 125) (k := 24) (pc' := 130) rfl rfl rfl rfl rfl rfl ?_
                      refine pw_lst E (pc' := 132) (ls' := [some (.ref 141), some (pw_i wt), some (.long k42_2), none, some (.long k42_4), none, some (.long k42_6), none, some (.long (pw_gl h97 125 24)), none, some (.long (Int64.ofInt (pw_gm h97 125 25))), none, some (.long (pw_gl h97 125 24)), none, some (.long (Int64.ofInt k42_14)), none, some (pw_i k42_16)]) rfl rfl rfl rfl ?_
                      refine pw_ld E (pc' := 133) (st' := [.ref 141]) rfl (fun _ => rfl) ?_
                      refine pw_getM h97I E (c := 125) (k := 25) (pc' := 136) rfl rfl rfl rfl rfl rfl (fun hf132a hf132b => ?_)
                      refine pw_lst E (pc' := 138) (ls' := [some (.ref 141), some (pw_i wt), some (.long k42_2), none, some (.long k42_4), none, some (.long k42_6), none, some (.long (pw_gl h97 125 24)), none, some (.long (Int64.ofInt (pw_gm h97 125 25))), none, some (.long (pw_gl h97 125 24)), none, some (.long (Int64.ofInt (pw_gm h97 125 25))), none, some (pw_i k42_16)]) rfl rfl rfl rfl ?_
                      refine pw_ld E (pc' := 139) (st' := [.long k42_2]) rfl (fun _ => rfl) ?_
                      refine pw_ld E (pc' := 140) (st' := [.long (Int64.ofInt 1), .long k42_2]) rfl (fun _ => rfl) ?_
                      refine pw_ld E (pc' := 141) (st' := [.long (k42_2 + (Int64.ofInt 1))]) rfl (fun _ => rfl) ?_
                      refine pw_lstn E (pc' := 142) (ls' := [some (.ref 141), some (pw_i wt), some (.long (k42_2 + (Int64.ofInt 1))), none, some (.long k42_4), none, some (.long k42_6), none, some (.long (pw_gl h97 125 24)), none, some (.long (Int64.ofInt (pw_gm h97 125 25))), none, some (.long (pw_gl h97 125 24)), none, some (.long (Int64.ofInt (pw_gm h97 125 25))), none, some (pw_i k42_16)]) rfl rfl rfl rfl ?_
                      refine pw_ld E (pc' := 144) (st' := [.long k42_4]) rfl (fun _ => rfl) ?_
                      refine pw_ld E (pc' := 145) (st' := [.ref 141, .long k42_4]) rfl (fun _ => rfl) ?_
                      refine pw_getL h97I E (c := 125) (k := 24) (pc' := 148) rfl rfl rfl rfl rfl rfl ?_
                      refine pw_ld E (pc' := 149) (st' := [.long (Int64.ofInt 0), .long (pw_gl h97 125 24), .long k42_4]) rfl (fun _ => rfl) ?_
                      refine pw_lcmp E (pc' := 150) rfl rfl (fun c133 hc133 => ?_)
                      refine pw_if E (pc' := 157) rfl (by decide) (by omega) (by omega) ?_ ?_
                      · intro hc134
                        change (0 : Int) ≤ c133 at hc134
                        refine pw_ld E (pc' := 158) (st' := [.long (Int64.ofInt 0), .long k42_4]) rfl (fun _ => rfl) ?_
                        refine pw_ld E (pc' := 159) (st' := [.long (k42_4 + (Int64.ofInt 0))]) rfl (fun _ => rfl) ?_
                        refine pw_lst E (pc' := 161) (ls' := [some (.ref 141), some (pw_i wt), some (.long (k42_2 + (Int64.ofInt 1))), none, some (.long (k42_4 + (Int64.ofInt 0))), none, some (.long k42_6), none, some (.long (pw_gl h97 125 24)), none, some (.long (Int64.ofInt (pw_gm h97 125 25))), none, some (.long (pw_gl h97 125 24)), none, some (.long (Int64.ofInt (pw_gm h97 125 25))), none, some (pw_i k42_16)]) rfl rfl rfl rfl ?_
                        refine pw_ld E (pc' := 163) (st' := [.long k42_6]) rfl (fun _ => rfl) ?_
                        refine pw_ld E (pc' := 164) (st' := [.ref 141, .long k42_6]) rfl (fun _ => rfl) ?_
                        refine pw_getL h97I E (c := 125) (k := 24) (pc' := 167) rfl rfl rfl rfl rfl rfl ?_
                        refine pw_ld E (pc' := 168) (st' := [.long (Int64.ofInt 0), .long (pw_gl h97 125 24), .long k42_6]) rfl (fun _ => rfl) ?_
                        refine pw_lcmp E (pc' := 169) rfl rfl (fun c135 hc135 => ?_)
                        refine pw_if E (pc' := 176) rfl (by decide) (by omega) (by omega) ?_ ?_
                        · intro hc136
                          change c135 ≤ (0 : Int) at hc136
                          refine pw_ld E (pc' := 177) (st' := [.long (Int64.ofInt 0), .long k42_6]) rfl (fun _ => rfl) ?_
                          refine pw_ld E (pc' := 178) (st' := [.long (k42_6 + (Int64.ofInt 0))]) rfl (fun _ => rfl) ?_
                          refine pw_lst E (pc' := 180) (ls' := [some (.ref 141), some (pw_i wt), some (.long (k42_2 + (Int64.ofInt 1))), none, some (.long (k42_4 + (Int64.ofInt 0))), none, some (.long (k42_6 + (Int64.ofInt 0))), none, some (.long (pw_gl h97 125 24)), none, some (.long (Int64.ofInt (pw_gm h97 125 25))), none, some (.long (pw_gl h97 125 24)), none, some (.long (Int64.ofInt (pw_gm h97 125 25))), none, some (pw_i k42_16)]) rfl rfl rfl rfl ?_
                          refine pw_inc E (pc' := 183) (ls' := [some (.ref 141), some (pw_i wt), some (.long (k42_2 + (Int64.ofInt 1))), none, some (.long (k42_4 + (Int64.ofInt 0))), none, some (.long (k42_6 + (Int64.ofInt 0))), none, some (.long (pw_gl h97 125 24)), none, some (.long (Int64.ofInt (pw_gm h97 125 25))), none, some (.long (pw_gl h97 125 24)), none, some (.long (Int64.ofInt (pw_gm h97 125 25))), none, some (pw_i (k42_16 + 1))]) rfl rfl rfl rfl ?_
                          refine pw_goto E (pc' := 42) rfl (by decide) ?_
                          exact ih42 _ (by omega) (k42_2 + (Int64.ofInt 1)) (k42_4 + (Int64.ofInt 0)) (k42_6 + (Int64.ofInt 0)) (pw_gl h97 125 24) (pw_gm h97 125 25) (pw_gl h97 125 24) (pw_gm h97 125 25) (k42_16 + 1) h97 h97I h97F (by omega) (by omega) (by omega) (by omega) (by omega) (by omega)  rfl
                        · intro hc137
                          change ¬ (c135 ≤ (0 : Int)) at hc137
                          refine pw_ld E (pc' := 173) (st' := [.long (Int64.ofInt 1), .long k42_6]) rfl (fun _ => rfl) ?_
                          refine pw_goto E (pc' := 177) rfl (by decide) ?_
                          refine pw_ld E (pc' := 178) (st' := [.long (k42_6 + (Int64.ofInt 1))]) rfl (fun _ => rfl) ?_
                          refine pw_lst E (pc' := 180) (ls' := [some (.ref 141), some (pw_i wt), some (.long (k42_2 + (Int64.ofInt 1))), none, some (.long (k42_4 + (Int64.ofInt 0))), none, some (.long (k42_6 + (Int64.ofInt 1))), none, some (.long (pw_gl h97 125 24)), none, some (.long (Int64.ofInt (pw_gm h97 125 25))), none, some (.long (pw_gl h97 125 24)), none, some (.long (Int64.ofInt (pw_gm h97 125 25))), none, some (pw_i k42_16)]) rfl rfl rfl rfl ?_
                          refine pw_inc E (pc' := 183) (ls' := [some (.ref 141), some (pw_i wt), some (.long (k42_2 + (Int64.ofInt 1))), none, some (.long (k42_4 + (Int64.ofInt 0))), none, some (.long (k42_6 + (Int64.ofInt 1))), none, some (.long (pw_gl h97 125 24)), none, some (.long (Int64.ofInt (pw_gm h97 125 25))), none, some (.long (pw_gl h97 125 24)), none, some (.long (Int64.ofInt (pw_gm h97 125 25))), none, some (pw_i (k42_16 + 1))]) rfl rfl rfl rfl ?_
                          refine pw_goto E (pc' := 42) rfl (by decide) ?_
                          exact ih42 _ (by omega) (k42_2 + (Int64.ofInt 1)) (k42_4 + (Int64.ofInt 0)) (k42_6 + (Int64.ofInt 1)) (pw_gl h97 125 24) (pw_gm h97 125 25) (pw_gl h97 125 24) (pw_gm h97 125 25) (k42_16 + 1) h97 h97I h97F (by omega) (by omega) (by omega) (by omega) (by omega) (by omega)  rfl
                      · intro hc138
                        change ¬ ((0 : Int) ≤ c133) at hc138
                        refine pw_ld E (pc' := 154) (st' := [.long (Int64.ofInt 1), .long k42_4]) rfl (fun _ => rfl) ?_
                        refine pw_goto E (pc' := 158) rfl (by decide) ?_
                        refine pw_ld E (pc' := 159) (st' := [.long (k42_4 + (Int64.ofInt 1))]) rfl (fun _ => rfl) ?_
                        refine pw_lst E (pc' := 161) (ls' := [some (.ref 141), some (pw_i wt), some (.long (k42_2 + (Int64.ofInt 1))), none, some (.long (k42_4 + (Int64.ofInt 1))), none, some (.long k42_6), none, some (.long (pw_gl h97 125 24)), none, some (.long (Int64.ofInt (pw_gm h97 125 25))), none, some (.long (pw_gl h97 125 24)), none, some (.long (Int64.ofInt (pw_gm h97 125 25))), none, some (pw_i k42_16)]) rfl rfl rfl rfl ?_
                        refine pw_ld E (pc' := 163) (st' := [.long k42_6]) rfl (fun _ => rfl) ?_
                        refine pw_ld E (pc' := 164) (st' := [.ref 141, .long k42_6]) rfl (fun _ => rfl) ?_
                        refine pw_getL h97I E (c := 125) (k := 24) (pc' := 167) rfl rfl rfl rfl rfl rfl ?_
                        refine pw_ld E (pc' := 168) (st' := [.long (Int64.ofInt 0), .long (pw_gl h97 125 24), .long k42_6]) rfl (fun _ => rfl) ?_
                        refine pw_lcmp E (pc' := 169) rfl rfl (fun c139 hc139 => ?_)
                        refine pw_if E (pc' := 176) rfl (by decide) (by omega) (by omega) ?_ ?_
                        · intro hc140
                          change c139 ≤ (0 : Int) at hc140
                          refine pw_ld E (pc' := 177) (st' := [.long (Int64.ofInt 0), .long k42_6]) rfl (fun _ => rfl) ?_
                          refine pw_ld E (pc' := 178) (st' := [.long (k42_6 + (Int64.ofInt 0))]) rfl (fun _ => rfl) ?_
                          refine pw_lst E (pc' := 180) (ls' := [some (.ref 141), some (pw_i wt), some (.long (k42_2 + (Int64.ofInt 1))), none, some (.long (k42_4 + (Int64.ofInt 1))), none, some (.long (k42_6 + (Int64.ofInt 0))), none, some (.long (pw_gl h97 125 24)), none, some (.long (Int64.ofInt (pw_gm h97 125 25))), none, some (.long (pw_gl h97 125 24)), none, some (.long (Int64.ofInt (pw_gm h97 125 25))), none, some (pw_i k42_16)]) rfl rfl rfl rfl ?_
                          refine pw_inc E (pc' := 183) (ls' := [some (.ref 141), some (pw_i wt), some (.long (k42_2 + (Int64.ofInt 1))), none, some (.long (k42_4 + (Int64.ofInt 1))), none, some (.long (k42_6 + (Int64.ofInt 0))), none, some (.long (pw_gl h97 125 24)), none, some (.long (Int64.ofInt (pw_gm h97 125 25))), none, some (.long (pw_gl h97 125 24)), none, some (.long (Int64.ofInt (pw_gm h97 125 25))), none, some (pw_i (k42_16 + 1))]) rfl rfl rfl rfl ?_
                          refine pw_goto E (pc' := 42) rfl (by decide) ?_
                          exact ih42 _ (by omega) (k42_2 + (Int64.ofInt 1)) (k42_4 + (Int64.ofInt 1)) (k42_6 + (Int64.ofInt 0)) (pw_gl h97 125 24) (pw_gm h97 125 25) (pw_gl h97 125 24) (pw_gm h97 125 25) (k42_16 + 1) h97 h97I h97F (by omega) (by omega) (by omega) (by omega) (by omega) (by omega)  rfl
                        · intro hc141
                          change ¬ (c139 ≤ (0 : Int)) at hc141
                          refine pw_ld E (pc' := 173) (st' := [.long (Int64.ofInt 1), .long k42_6]) rfl (fun _ => rfl) ?_
                          refine pw_goto E (pc' := 177) rfl (by decide) ?_
                          refine pw_ld E (pc' := 178) (st' := [.long (k42_6 + (Int64.ofInt 1))]) rfl (fun _ => rfl) ?_
                          refine pw_lst E (pc' := 180) (ls' := [some (.ref 141), some (pw_i wt), some (.long (k42_2 + (Int64.ofInt 1))), none, some (.long (k42_4 + (Int64.ofInt 1))), none, some (.long (k42_6 + (Int64.ofInt 1))), none, some (.long (pw_gl h97 125 24)), none, some (.long (Int64.ofInt (pw_gm h97 125 25))), none, some (.long (pw_gl h97 125 24)), none, some (.long (Int64.ofInt (pw_gm h97 125 25))), none, some (pw_i k42_16)]) rfl rfl rfl rfl ?_
                          refine pw_inc E (pc' := 183) (ls' := [some (.ref 141), some (pw_i wt), some (.long (k42_2 + (Int64.ofInt 1))), none, some (.long (k42_4 + (Int64.ofInt 1))), none, some (.long (k42_6 + (Int64.ofInt 1))), none, some (.long (pw_gl h97 125 24)), none, some (.long (Int64.ofInt (pw_gm h97 125 25))), none, some (.long (pw_gl h97 125 24)), none, some (.long (Int64.ofInt (pw_gm h97 125 25))), none, some (pw_i (k42_16 + 1))]) rfl rfl rfl rfl ?_
                          refine pw_goto E (pc' := 42) rfl (by decide) ?_
                          exact ih42 _ (by omega) (k42_2 + (Int64.ofInt 1)) (k42_4 + (Int64.ofInt 1)) (k42_6 + (Int64.ofInt 1)) (pw_gl h97 125 24) (pw_gm h97 125 25) (pw_gl h97 125 24) (pw_gm h97 125 25) (k42_16 + 1) h97 h97I h97F (by omega) (by omega) (by omega) (by omega) (by omega) (by omega)  rfl
                · intro hc142
                  change ¬ (c103 = (0 : Int)) at hc142
                  refine pw_ld E (pc' := 73) (st' := [.ref 141]) rfl (fun _ => rfl) ?_
                  refine pw_getL h97I E (c := 125) (k := 24) (pc' := 76) rfl rfl rfl rfl rfl rfl ?_
                  refine pw_ld E (pc' := 78) (st' := [.long (Int64.ofInt k42_10), .long (pw_gl h97 125 24)]) rfl (fun _ => rfl) ?_
                  refine pw_ld E (pc' := 79) (st' := [.long ((pw_gl h97 125 24) * (Int64.ofInt k42_10))]) rfl (fun _ => rfl) ?_
                  refine pw_ld E (pc' := 81) (st' := [.long k42_8, .long ((pw_gl h97 125 24) * (Int64.ofInt k42_10))]) rfl (fun _ => rfl) ?_
                  refine pw_ld E (pc' := 82) (st' := [.ref 141, .long k42_8, .long ((pw_gl h97 125 24) * (Int64.ofInt k42_10))]) rfl (fun _ => rfl) ?_
                  refine pw_getM h97I E (c := 125) (k := 25) (pc' := 85) rfl rfl rfl rfl rfl rfl (fun hf143a hf143b => ?_)
                  refine pw_ld E (pc' := 86) (st' := [.long (k42_8 * (Int64.ofInt (pw_gm h97 125 25))), .long ((pw_gl h97 125 24) * (Int64.ofInt k42_10))]) rfl (fun _ => rfl) ?_
                  refine pw_lcmp E (pc' := 87) rfl rfl (fun c144 hc144 => ?_)
                  refine pw_if E (pc' := 102) rfl (by decide) (by omega) (by omega) ?_ ?_
                  · intro hc145
                    change (0 : Int) ≤ c144 at hc145
                    refine pw_ld E (pc' := 103) (st' := [.long k42_2]) rfl (fun _ => rfl) ?_
                    refine pw_ld E (pc' := 104) (st' := [.long (Int64.ofInt 0), .long k42_2]) rfl (fun _ => rfl) ?_
                    refine pw_lcmp E (pc' := 105) rfl rfl (fun c146 hc146 => ?_)
                    refine pw_if E (pc' := 126) rfl (by decide) (by omega) (by omega) ?_ ?_
                    · intro hc147
                      change c146 = (0 : Int) at hc147
                      refine pw_ld E (pc' := 127) (st' := [.ref 141]) rfl (fun _ => rfl) ?_
                      refine pw_getL h97I E (c := 125) (k := 24) (pc' := 130) rfl rfl rfl rfl rfl rfl ?_
                      refine pw_lst E (pc' := 132) (ls' := [some (.ref 141), some (pw_i wt), some (.long k42_2), none, some (.long k42_4), none, some (.long k42_6), none, some (.long k42_8), none, some (.long (Int64.ofInt k42_10)), none, some (.long (pw_gl h97 125 24)), none, some (.long (Int64.ofInt k42_14)), none, some (pw_i k42_16)]) rfl rfl rfl rfl ?_
                      refine pw_ld E (pc' := 133) (st' := [.ref 141]) rfl (fun _ => rfl) ?_
                      refine pw_getM h97I E (c := 125) (k := 25) (pc' := 136) rfl rfl rfl rfl rfl rfl (fun hf148a hf148b => ?_)
                      refine pw_lst E (pc' := 138) (ls' := [some (.ref 141), some (pw_i wt), some (.long k42_2), none, some (.long k42_4), none, some (.long k42_6), none, some (.long k42_8), none, some (.long (Int64.ofInt k42_10)), none, some (.long (pw_gl h97 125 24)), none, some (.long (Int64.ofInt (pw_gm h97 125 25))), none, some (pw_i k42_16)]) rfl rfl rfl rfl ?_
                      refine pw_ld E (pc' := 139) (st' := [.long k42_2]) rfl (fun _ => rfl) ?_
                      refine pw_ld E (pc' := 140) (st' := [.long (Int64.ofInt 1), .long k42_2]) rfl (fun _ => rfl) ?_
                      refine pw_ld E (pc' := 141) (st' := [.long (k42_2 + (Int64.ofInt 1))]) rfl (fun _ => rfl) ?_
                      refine pw_lstn E (pc' := 142) (ls' := [some (.ref 141), some (pw_i wt), some (.long (k42_2 + (Int64.ofInt 1))), none, some (.long k42_4), none, some (.long k42_6), none, some (.long k42_8), none, some (.long (Int64.ofInt k42_10)), none, some (.long (pw_gl h97 125 24)), none, some (.long (Int64.ofInt (pw_gm h97 125 25))), none, some (pw_i k42_16)]) rfl rfl rfl rfl ?_
                      refine pw_ld E (pc' := 144) (st' := [.long k42_4]) rfl (fun _ => rfl) ?_
                      refine pw_ld E (pc' := 145) (st' := [.ref 141, .long k42_4]) rfl (fun _ => rfl) ?_
                      refine pw_getL h97I E (c := 125) (k := 24) (pc' := 148) rfl rfl rfl rfl rfl rfl ?_
                      refine pw_ld E (pc' := 149) (st' := [.long (Int64.ofInt 0), .long (pw_gl h97 125 24), .long k42_4]) rfl (fun _ => rfl) ?_
                      refine pw_lcmp E (pc' := 150) rfl rfl (fun c149 hc149 => ?_)
                      refine pw_if E (pc' := 157) rfl (by decide) (by omega) (by omega) ?_ ?_
                      · intro hc150
                        change (0 : Int) ≤ c149 at hc150
                        refine pw_ld E (pc' := 158) (st' := [.long (Int64.ofInt 0), .long k42_4]) rfl (fun _ => rfl) ?_
                        refine pw_ld E (pc' := 159) (st' := [.long (k42_4 + (Int64.ofInt 0))]) rfl (fun _ => rfl) ?_
                        refine pw_lst E (pc' := 161) (ls' := [some (.ref 141), some (pw_i wt), some (.long (k42_2 + (Int64.ofInt 1))), none, some (.long (k42_4 + (Int64.ofInt 0))), none, some (.long k42_6), none, some (.long k42_8), none, some (.long (Int64.ofInt k42_10)), none, some (.long (pw_gl h97 125 24)), none, some (.long (Int64.ofInt (pw_gm h97 125 25))), none, some (pw_i k42_16)]) rfl rfl rfl rfl ?_
                        refine pw_ld E (pc' := 163) (st' := [.long k42_6]) rfl (fun _ => rfl) ?_
                        refine pw_ld E (pc' := 164) (st' := [.ref 141, .long k42_6]) rfl (fun _ => rfl) ?_
                        refine pw_getL h97I E (c := 125) (k := 24) (pc' := 167) rfl rfl rfl rfl rfl rfl ?_
                        refine pw_ld E (pc' := 168) (st' := [.long (Int64.ofInt 0), .long (pw_gl h97 125 24), .long k42_6]) rfl (fun _ => rfl) ?_
                        refine pw_lcmp E (pc' := 169) rfl rfl (fun c151 hc151 => ?_)
                        refine pw_if E (pc' := 176) rfl (by decide) (by omega) (by omega) ?_ ?_
                        · intro hc152
                          change c151 ≤ (0 : Int) at hc152
                          refine pw_ld E (pc' := 177) (st' := [.long (Int64.ofInt 0), .long k42_6]) rfl (fun _ => rfl) ?_
                          refine pw_ld E (pc' := 178) (st' := [.long (k42_6 + (Int64.ofInt 0))]) rfl (fun _ => rfl) ?_
                          refine pw_lst E (pc' := 180) (ls' := [some (.ref 141), some (pw_i wt), some (.long (k42_2 + (Int64.ofInt 1))), none, some (.long (k42_4 + (Int64.ofInt 0))), none, some (.long (k42_6 + (Int64.ofInt 0))), none, some (.long k42_8), none, some (.long (Int64.ofInt k42_10)), none, some (.long (pw_gl h97 125 24)), none, some (.long (Int64.ofInt (pw_gm h97 125 25))), none, some (pw_i k42_16)]) rfl rfl rfl rfl ?_
                          refine pw_inc E (pc' := 183) (ls' := [some (.ref 141), some (pw_i wt), some (.long (k42_2 + (Int64.ofInt 1))), none, some (.long (k42_4 + (Int64.ofInt 0))), none, some (.long (k42_6 + (Int64.ofInt 0))), none, some (.long k42_8), none, some (.long (Int64.ofInt k42_10)), none, some (.long (pw_gl h97 125 24)), none, some (.long (Int64.ofInt (pw_gm h97 125 25))), none, some (pw_i (k42_16 + 1))]) rfl rfl rfl rfl ?_
                          refine pw_goto E (pc' := 42) rfl (by decide) ?_
                          exact ih42 _ (by omega) (k42_2 + (Int64.ofInt 1)) (k42_4 + (Int64.ofInt 0)) (k42_6 + (Int64.ofInt 0)) (k42_8) (k42_10) (pw_gl h97 125 24) (pw_gm h97 125 25) (k42_16 + 1) h97 h97I h97F (by omega) (by omega) (by omega) (by omega) (by omega) (by omega)  rfl
                        · intro hc153
                          change ¬ (c151 ≤ (0 : Int)) at hc153
                          refine pw_ld E (pc' := 173) (st' := [.long (Int64.ofInt 1), .long k42_6]) rfl (fun _ => rfl) ?_
                          refine pw_goto E (pc' := 177) rfl (by decide) ?_
                          refine pw_ld E (pc' := 178) (st' := [.long (k42_6 + (Int64.ofInt 1))]) rfl (fun _ => rfl) ?_
                          refine pw_lst E (pc' := 180) (ls' := [some (.ref 141), some (pw_i wt), some (.long (k42_2 + (Int64.ofInt 1))), none, some (.long (k42_4 + (Int64.ofInt 0))), none, some (.long (k42_6 + (Int64.ofInt 1))), none, some (.long k42_8), none, some (.long (Int64.ofInt k42_10)), none, some (.long (pw_gl h97 125 24)), none, some (.long (Int64.ofInt (pw_gm h97 125 25))), none, some (pw_i k42_16)]) rfl rfl rfl rfl ?_
                          refine pw_inc E (pc' := 183) (ls' := [some (.ref 141), some (pw_i wt), some (.long (k42_2 + (Int64.ofInt 1))), none, some (.long (k42_4 + (Int64.ofInt 0))), none, some (.long (k42_6 + (Int64.ofInt 1))), none, some (.long k42_8), none, some (.long (Int64.ofInt k42_10)), none, some (.long (pw_gl h97 125 24)), none, some (.long (Int64.ofInt (pw_gm h97 125 25))), none, some (pw_i (k42_16 + 1))]) rfl rfl rfl rfl ?_
                          refine pw_goto E (pc' := 42) rfl (by decide) ?_
                          exact ih42 _ (by omega) (k42_2 + (Int64.ofInt 1)) (k42_4 + (Int64.ofInt 0)) (k42_6 + (Int64.ofInt 1)) (k42_8) (k42_10) (pw_gl h97 125 24) (pw_gm h97 125 25) (k42_16 + 1) h97 h97I h97F (by omega) (by omega) (by omega) (by omega) (by omega) (by omega)  rfl
                      · intro hc154
                        change ¬ ((0 : Int) ≤ c149) at hc154
                        refine pw_ld E (pc' := 154) (st' := [.long (Int64.ofInt 1), .long k42_4]) rfl (fun _ => rfl) ?_
                        refine pw_goto E (pc' := 158) rfl (by decide) ?_
                        refine pw_ld E (pc' := 159) (st' := [.long (k42_4 + (Int64.ofInt 1))]) rfl (fun _ => rfl) ?_
                        refine pw_lst E (pc' := 161) (ls' := [some (.ref 141), some (pw_i wt), some (.long (k42_2 + (Int64.ofInt 1))), none, some (.long (k42_4 + (Int64.ofInt 1))), none, some (.long k42_6), none, some (.long k42_8), none, some (.long (Int64.ofInt k42_10)), none, some (.long (pw_gl h97 125 24)), none, some (.long (Int64.ofInt (pw_gm h97 125 25))), none, some (pw_i k42_16)]) rfl rfl rfl rfl ?_
                        refine pw_ld E (pc' := 163) (st' := [.long k42_6]) rfl (fun _ => rfl) ?_
                        refine pw_ld E (pc' := 164) (st' := [.ref 141, .long k42_6]) rfl (fun _ => rfl) ?_
                        refine pw_getL h97I E (c := 125) (k := 24) (pc' := 167) rfl rfl rfl rfl rfl rfl ?_
                        refine pw_ld E (pc' := 168) (st' := [.long (Int64.ofInt 0), .long (pw_gl h97 125 24), .long k42_6]) rfl (fun _ => rfl) ?_
                        refine pw_lcmp E (pc' := 169) rfl rfl (fun c155 hc155 => ?_)
                        refine pw_if E (pc' := 176) rfl (by decide) (by omega) (by omega) ?_ ?_
                        · intro hc156
                          change c155 ≤ (0 : Int) at hc156
                          refine pw_ld E (pc' := 177) (st' := [.long (Int64.ofInt 0), .long k42_6]) rfl (fun _ => rfl) ?_
                          refine pw_ld E (pc' := 178) (st' := [.long (k42_6 + (Int64.ofInt 0))]) rfl (fun _ => rfl) ?_
                          refine pw_lst E (pc' := 180) (ls' := [some (.ref 141), some (pw_i wt), some (.long (k42_2 + (Int64.ofInt 1))), none, some (.long (k42_4 + (Int64.ofInt 1))), none, some (.long (k42_6 + (Int64.ofInt 0))), none, some (.long k42_8), none, some (.long (Int64.ofInt k42_10)), none, some (.long (pw_gl h97 125 24)), none, some (.long (Int64.ofInt (pw_gm h97 125 25))), none, some (pw_i k42_16)]) rfl rfl rfl rfl ?_
                          refine pw_inc E (pc' := 183) (ls' := [some (.ref 141), some (pw_i wt), some (.long (k42_2 + (Int64.ofInt 1))), none, some (.long (k42_4 + (Int64.ofInt 1))), none, some (.long (k42_6 + (Int64.ofInt 0))), none, some (.long k42_8), none, some (.long (Int64.ofInt k42_10)), none, some (.long (pw_gl h97 125 24)), none, some (.long (Int64.ofInt (pw_gm h97 125 25))), none, some (pw_i (k42_16 + 1))]) rfl rfl rfl rfl ?_
                          refine pw_goto E (pc' := 42) rfl (by decide) ?_
                          exact ih42 _ (by omega) (k42_2 + (Int64.ofInt 1)) (k42_4 + (Int64.ofInt 1)) (k42_6 + (Int64.ofInt 0)) (k42_8) (k42_10) (pw_gl h97 125 24) (pw_gm h97 125 25) (k42_16 + 1) h97 h97I h97F (by omega) (by omega) (by omega) (by omega) (by omega) (by omega)  rfl
                        · intro hc157
                          change ¬ (c155 ≤ (0 : Int)) at hc157
                          refine pw_ld E (pc' := 173) (st' := [.long (Int64.ofInt 1), .long k42_6]) rfl (fun _ => rfl) ?_
                          refine pw_goto E (pc' := 177) rfl (by decide) ?_
                          refine pw_ld E (pc' := 178) (st' := [.long (k42_6 + (Int64.ofInt 1))]) rfl (fun _ => rfl) ?_
                          refine pw_lst E (pc' := 180) (ls' := [some (.ref 141), some (pw_i wt), some (.long (k42_2 + (Int64.ofInt 1))), none, some (.long (k42_4 + (Int64.ofInt 1))), none, some (.long (k42_6 + (Int64.ofInt 1))), none, some (.long k42_8), none, some (.long (Int64.ofInt k42_10)), none, some (.long (pw_gl h97 125 24)), none, some (.long (Int64.ofInt (pw_gm h97 125 25))), none, some (pw_i k42_16)]) rfl rfl rfl rfl ?_
                          refine pw_inc E (pc' := 183) (ls' := [some (.ref 141), some (pw_i wt), some (.long (k42_2 + (Int64.ofInt 1))), none, some (.long (k42_4 + (Int64.ofInt 1))), none, some (.long (k42_6 + (Int64.ofInt 1))), none, some (.long k42_8), none, some (.long (Int64.ofInt k42_10)), none, some (.long (pw_gl h97 125 24)), none, some (.long (Int64.ofInt (pw_gm h97 125 25))), none, some (pw_i (k42_16 + 1))]) rfl rfl rfl rfl ?_
                          refine pw_goto E (pc' := 42) rfl (by decide) ?_
                          exact ih42 _ (by omega) (k42_2 + (Int64.ofInt 1)) (k42_4 + (Int64.ofInt 1)) (k42_6 + (Int64.ofInt 1)) (k42_8) (k42_10) (pw_gl h97 125 24) (pw_gm h97 125 25) (k42_16 + 1) h97 h97I h97F (by omega) (by omega) (by omega) (by omega) (by omega) (by omega)  rfl
                    · intro hc158
                      change ¬ (c146 = (0 : Int)) at hc158
                      refine pw_ld E (pc' := 109) (st' := [.ref 141]) rfl (fun _ => rfl) ?_
                      refine pw_getL h97I E (c := 125) (k := 24) (pc' := 112) rfl rfl rfl rfl rfl rfl ?_
                      refine pw_ld E (pc' := 114) (st' := [.long (Int64.ofInt k42_14), .long (pw_gl h97 125 24)]) rfl (fun _ => rfl) ?_
                      refine pw_ld E (pc' := 115) (st' := [.long ((pw_gl h97 125 24) * (Int64.ofInt k42_14))]) rfl (fun _ => rfl) ?_
                      refine pw_ld E (pc' := 117) (st' := [.long k42_12, .long ((pw_gl h97 125 24) * (Int64.ofInt k42_14))]) rfl (fun _ => rfl) ?_
                      refine pw_ld E (pc' := 118) (st' := [.ref 141, .long k42_12, .long ((pw_gl h97 125 24) * (Int64.ofInt k42_14))]) rfl (fun _ => rfl) ?_
                      refine pw_getM h97I E (c := 125) (k := 25) (pc' := 121) rfl rfl rfl rfl rfl rfl (fun hf159a hf159b => ?_)
                      refine pw_ld E (pc' := 122) (st' := [.long (k42_12 * (Int64.ofInt (pw_gm h97 125 25))), .long ((pw_gl h97 125 24) * (Int64.ofInt k42_14))]) rfl (fun _ => rfl) ?_
                      refine pw_lcmp E (pc' := 123) rfl rfl (fun c160 hc160 => ?_)
                      refine pw_if E (pc' := 138) rfl (by decide) (by omega) (by omega) ?_ ?_
                      · intro hc161
                        change c160 ≤ (0 : Int) at hc161
                        refine pw_ld E (pc' := 139) (st' := [.long k42_2]) rfl (fun _ => rfl) ?_
                        refine pw_ld E (pc' := 140) (st' := [.long (Int64.ofInt 1), .long k42_2]) rfl (fun _ => rfl) ?_
                        refine pw_ld E (pc' := 141) (st' := [.long (k42_2 + (Int64.ofInt 1))]) rfl (fun _ => rfl) ?_
                        refine pw_lstn E (pc' := 142) (ls' := [some (.ref 141), some (pw_i wt), some (.long (k42_2 + (Int64.ofInt 1))), none, some (.long k42_4), none, some (.long k42_6), none, some (.long k42_8), none, some (.long (Int64.ofInt k42_10)), none, some (.long k42_12), none, some (.long (Int64.ofInt k42_14)), none, some (pw_i k42_16)]) rfl rfl rfl rfl ?_
                        refine pw_ld E (pc' := 144) (st' := [.long k42_4]) rfl (fun _ => rfl) ?_
                        refine pw_ld E (pc' := 145) (st' := [.ref 141, .long k42_4]) rfl (fun _ => rfl) ?_
                        refine pw_getL h97I E (c := 125) (k := 24) (pc' := 148) rfl rfl rfl rfl rfl rfl ?_
                        refine pw_ld E (pc' := 149) (st' := [.long (Int64.ofInt 0), .long (pw_gl h97 125 24), .long k42_4]) rfl (fun _ => rfl) ?_
                        refine pw_lcmp E (pc' := 150) rfl rfl (fun c162 hc162 => ?_)
                        refine pw_if E (pc' := 157) rfl (by decide) (by omega) (by omega) ?_ ?_
                        · intro hc163
                          change (0 : Int) ≤ c162 at hc163
                          refine pw_ld E (pc' := 158) (st' := [.long (Int64.ofInt 0), .long k42_4]) rfl (fun _ => rfl) ?_
                          refine pw_ld E (pc' := 159) (st' := [.long (k42_4 + (Int64.ofInt 0))]) rfl (fun _ => rfl) ?_
                          refine pw_lst E (pc' := 161) (ls' := [some (.ref 141), some (pw_i wt), some (.long (k42_2 + (Int64.ofInt 1))), none, some (.long (k42_4 + (Int64.ofInt 0))), none, some (.long k42_6), none, some (.long k42_8), none, some (.long (Int64.ofInt k42_10)), none, some (.long k42_12), none, some (.long (Int64.ofInt k42_14)), none, some (pw_i k42_16)]) rfl rfl rfl rfl ?_
                          refine pw_ld E (pc' := 163) (st' := [.long k42_6]) rfl (fun _ => rfl) ?_
                          refine pw_ld E (pc' := 164) (st' := [.ref 141, .long k42_6]) rfl (fun _ => rfl) ?_
                          refine pw_getL h97I E (c := 125) (k := 24) (pc' := 167) rfl rfl rfl rfl rfl rfl ?_
                          refine pw_ld E (pc' := 168) (st' := [.long (Int64.ofInt 0), .long (pw_gl h97 125 24), .long k42_6]) rfl (fun _ => rfl) ?_
                          refine pw_lcmp E (pc' := 169) rfl rfl (fun c164 hc164 => ?_)
                          refine pw_if E (pc' := 176) rfl (by decide) (by omega) (by omega) ?_ ?_
                          · intro hc165
                            change c164 ≤ (0 : Int) at hc165
                            refine pw_ld E (pc' := 177) (st' := [.long (Int64.ofInt 0), .long k42_6]) rfl (fun _ => rfl) ?_
                            refine pw_ld E (pc' := 178) (st' := [.long (k42_6 + (Int64.ofInt 0))]) rfl (fun _ => rfl) ?_
                            refine pw_lst E (pc' := 180) (ls' := [some (.ref 141), some (pw_i wt), some (.long (k42_2 + (Int64.ofInt 1))), none, some (.long (k42_4 + (Int64.ofInt 0))), none, some (.long (k42_6 + (Int64.ofInt 0))), none, some (.long k42_8), none, some (.long (Int64.ofInt k42_10)), none, some (.long k42_12), none, some (.long (Int64.ofInt k42_14)), none, some (pw_i k42_16)]) rfl rfl rfl rfl ?_
                            refine pw_inc E (pc' := 183) (ls' := [some (.ref 141), some (pw_i wt), some (.long (k42_2 + (Int64.ofInt 1))), none, some (.long (k42_4 + (Int64.ofInt 0))), none, some (.long (k42_6 + (Int64.ofInt 0))), none, some (.long k42_8), none, some (.long (Int64.ofInt k42_10)), none, some (.long k42_12), none, some (.long (Int64.ofInt k42_14)), none, some (pw_i (k42_16 + 1))]) rfl rfl rfl rfl ?_
                            refine pw_goto E (pc' := 42) rfl (by decide) ?_
                            exact ih42 _ (by omega) (k42_2 + (Int64.ofInt 1)) (k42_4 + (Int64.ofInt 0)) (k42_6 + (Int64.ofInt 0)) (k42_8) (k42_10) (k42_12) (k42_14) (k42_16 + 1) h97 h97I h97F (by omega) (by omega) (by omega) (by omega) (by omega) (by omega)  rfl
                          · intro hc166
                            change ¬ (c164 ≤ (0 : Int)) at hc166
                            refine pw_ld E (pc' := 173) (st' := [.long (Int64.ofInt 1), .long k42_6]) rfl (fun _ => rfl) ?_
                            refine pw_goto E (pc' := 177) rfl (by decide) ?_
                            refine pw_ld E (pc' := 178) (st' := [.long (k42_6 + (Int64.ofInt 1))]) rfl (fun _ => rfl) ?_
                            refine pw_lst E (pc' := 180) (ls' := [some (.ref 141), some (pw_i wt), some (.long (k42_2 + (Int64.ofInt 1))), none, some (.long (k42_4 + (Int64.ofInt 0))), none, some (.long (k42_6 + (Int64.ofInt 1))), none, some (.long k42_8), none, some (.long (Int64.ofInt k42_10)), none, some (.long k42_12), none, some (.long (Int64.ofInt k42_14)), none, some (pw_i k42_16)]) rfl rfl rfl rfl ?_
                            refine pw_inc E (pc' := 183) (ls' := [some (.ref 141), some (pw_i wt), some (.long (k42_2 + (Int64.ofInt 1))), none, some (.long (k42_4 + (Int64.ofInt 0))), none, some (.long (k42_6 + (Int64.ofInt 1))), none, some (.long k42_8), none, some (.long (Int64.ofInt k42_10)), none, some (.long k42_12), none, some (.long (Int64.ofInt k42_14)), none, some (pw_i (k42_16 + 1))]) rfl rfl rfl rfl ?_
                            refine pw_goto E (pc' := 42) rfl (by decide) ?_
                            exact ih42 _ (by omega) (k42_2 + (Int64.ofInt 1)) (k42_4 + (Int64.ofInt 0)) (k42_6 + (Int64.ofInt 1)) (k42_8) (k42_10) (k42_12) (k42_14) (k42_16 + 1) h97 h97I h97F (by omega) (by omega) (by omega) (by omega) (by omega) (by omega)  rfl
                        · intro hc167
                          change ¬ ((0 : Int) ≤ c162) at hc167
                          refine pw_ld E (pc' := 154) (st' := [.long (Int64.ofInt 1), .long k42_4]) rfl (fun _ => rfl) ?_
                          refine pw_goto E (pc' := 158) rfl (by decide) ?_
                          refine pw_ld E (pc' := 159) (st' := [.long (k42_4 + (Int64.ofInt 1))]) rfl (fun _ => rfl) ?_
                          refine pw_lst E (pc' := 161) (ls' := [some (.ref 141), some (pw_i wt), some (.long (k42_2 + (Int64.ofInt 1))), none, some (.long (k42_4 + (Int64.ofInt 1))), none, some (.long k42_6), none, some (.long k42_8), none, some (.long (Int64.ofInt k42_10)), none, some (.long k42_12), none, some (.long (Int64.ofInt k42_14)), none, some (pw_i k42_16)]) rfl rfl rfl rfl ?_
                          refine pw_ld E (pc' := 163) (st' := [.long k42_6]) rfl (fun _ => rfl) ?_
                          refine pw_ld E (pc' := 164) (st' := [.ref 141, .long k42_6]) rfl (fun _ => rfl) ?_
                          refine pw_getL h97I E (c := 125) (k := 24) (pc' := 167) rfl rfl rfl rfl rfl rfl ?_
                          refine pw_ld E (pc' := 168) (st' := [.long (Int64.ofInt 0), .long (pw_gl h97 125 24), .long k42_6]) rfl (fun _ => rfl) ?_
                          refine pw_lcmp E (pc' := 169) rfl rfl (fun c168 hc168 => ?_)
                          refine pw_if E (pc' := 176) rfl (by decide) (by omega) (by omega) ?_ ?_
                          · intro hc169
                            change c168 ≤ (0 : Int) at hc169
                            refine pw_ld E (pc' := 177) (st' := [.long (Int64.ofInt 0), .long k42_6]) rfl (fun _ => rfl) ?_
                            refine pw_ld E (pc' := 178) (st' := [.long (k42_6 + (Int64.ofInt 0))]) rfl (fun _ => rfl) ?_
                            refine pw_lst E (pc' := 180) (ls' := [some (.ref 141), some (pw_i wt), some (.long (k42_2 + (Int64.ofInt 1))), none, some (.long (k42_4 + (Int64.ofInt 1))), none, some (.long (k42_6 + (Int64.ofInt 0))), none, some (.long k42_8), none, some (.long (Int64.ofInt k42_10)), none, some (.long k42_12), none, some (.long (Int64.ofInt k42_14)), none, some (pw_i k42_16)]) rfl rfl rfl rfl ?_
                            refine pw_inc E (pc' := 183) (ls' := [some (.ref 141), some (pw_i wt), some (.long (k42_2 + (Int64.ofInt 1))), none, some (.long (k42_4 + (Int64.ofInt 1))), none, some (.long (k42_6 + (Int64.ofInt 0))), none, some (.long k42_8), none, some (.long (Int64.ofInt k42_10)), none, some (.long k42_12), none, some (.long (Int64.ofInt k42_14)), none, some (pw_i (k42_16 + 1))]) rfl rfl rfl rfl ?_
                            refine pw_goto E (pc' := 42) rfl (by decide) ?_
                            exact ih42 _ (by omega) (k42_2 + (Int64.ofInt 1)) (k42_4 + (Int64.ofInt 1)) (k42_6 + (Int64.ofInt 0)) (k42_8) (k42_10) (k42_12) (k42_14) (k42_16 + 1) h97 h97I h97F (by omega) (by omega) (by omega) (by omega) (by omega) (by omega)  rfl
                          · intro hc170
                            change ¬ (c168 ≤ (0 : Int)) at hc170
                            refine pw_ld E (pc' := 173) (st' := [.long (Int64.ofInt 1), .long k42_6]) rfl (fun _ => rfl) ?_
                            refine pw_goto E (pc' := 177) rfl (by decide) ?_
                            refine pw_ld E (pc' := 178) (st' := [.long (k42_6 + (Int64.ofInt 1))]) rfl (fun _ => rfl) ?_
                            refine pw_lst E (pc' := 180) (ls' := [some (.ref 141), some (pw_i wt), some (.long (k42_2 + (Int64.ofInt 1))), none, some (.long (k42_4 + (Int64.ofInt 1))), none, some (.long (k42_6 + (Int64.ofInt 1))), none, some (.long k42_8), none, some (.long (Int64.ofInt k42_10)), none, some (.long k42_12), none, some (.long (Int64.ofInt k42_14)), none, some (pw_i k42_16)]) rfl rfl rfl rfl ?_
                            refine pw_inc E (pc' := 183) (ls' := [some (.ref 141), some (pw_i wt), some (.long (k42_2 + (Int64.ofInt 1))), none, some (.long (k42_4 + (Int64.ofInt 1))), none, some (.long (k42_6 + (Int64.ofInt 1))), none, some (.long k42_8), none, some (.long (Int64.ofInt k42_10)), none, some (.long k42_12), none, some (.long (Int64.ofInt k42_14)), none, some (pw_i (k42_16 + 1))]) rfl rfl rfl rfl ?_
                            refine pw_goto E (pc' := 42) rfl (by decide) ?_
                            exact ih42 _ (by omega) (k42_2 + (Int64.ofInt 1)) (k42_4 + (Int64.ofInt 1)) (k42_6 + (Int64.ofInt 1)) (k42_8) (k42_10) (k42_12) (k42_14) (k42_16 + 1) h97 h97I h97F (by omega) (by omega) (by omega) (by omega) (by omega) (by omega)  rfl
                      · intro hc171
                        change ¬ (c160 ≤ (0 : Int)) at hc171
                        refine pw_ld E (pc' := 127) (st' := [.ref 141]) rfl (fun _ => rfl) ?_
                        refine pw_getL h97I E (c := 125) (k := 24) (pc' := 130) rfl rfl rfl rfl rfl rfl ?_
                        refine pw_lst E (pc' := 132) (ls' := [some (.ref 141), some (pw_i wt), some (.long k42_2), none, some (.long k42_4), none, some (.long k42_6), none, some (.long k42_8), none, some (.long (Int64.ofInt k42_10)), none, some (.long (pw_gl h97 125 24)), none, some (.long (Int64.ofInt k42_14)), none, some (pw_i k42_16)]) rfl rfl rfl rfl ?_
                        refine pw_ld E (pc' := 133) (st' := [.ref 141]) rfl (fun _ => rfl) ?_
                        refine pw_getM h97I E (c := 125) (k := 25) (pc' := 136) rfl rfl rfl rfl rfl rfl (fun hf172a hf172b => ?_)
                        refine pw_lst E (pc' := 138) (ls' := [some (.ref 141), some (pw_i wt), some (.long k42_2), none, some (.long k42_4), none, some (.long k42_6), none, some (.long k42_8), none, some (.long (Int64.ofInt k42_10)), none, some (.long (pw_gl h97 125 24)), none, some (.long (Int64.ofInt (pw_gm h97 125 25))), none, some (pw_i k42_16)]) rfl rfl rfl rfl ?_
                        refine pw_ld E (pc' := 139) (st' := [.long k42_2]) rfl (fun _ => rfl) ?_
                        refine pw_ld E (pc' := 140) (st' := [.long (Int64.ofInt 1), .long k42_2]) rfl (fun _ => rfl) ?_
                        refine pw_ld E (pc' := 141) (st' := [.long (k42_2 + (Int64.ofInt 1))]) rfl (fun _ => rfl) ?_
                        refine pw_lstn E (pc' := 142) (ls' := [some (.ref 141), some (pw_i wt), some (.long (k42_2 + (Int64.ofInt 1))), none, some (.long k42_4), none, some (.long k42_6), none, some (.long k42_8), none, some (.long (Int64.ofInt k42_10)), none, some (.long (pw_gl h97 125 24)), none, some (.long (Int64.ofInt (pw_gm h97 125 25))), none, some (pw_i k42_16)]) rfl rfl rfl rfl ?_
                        refine pw_ld E (pc' := 144) (st' := [.long k42_4]) rfl (fun _ => rfl) ?_
                        refine pw_ld E (pc' := 145) (st' := [.ref 141, .long k42_4]) rfl (fun _ => rfl) ?_
                        refine pw_getL h97I E (c := 125) (k := 24) (pc' := 148) rfl rfl rfl rfl rfl rfl ?_
                        refine pw_ld E (pc' := 149) (st' := [.long (Int64.ofInt 0), .long (pw_gl h97 125 24), .long k42_4]) rfl (fun _ => rfl) ?_
                        refine pw_lcmp E (pc' := 150) rfl rfl (fun c173 hc173 => ?_)
                        refine pw_if E (pc' := 157) rfl (by decide) (by omega) (by omega) ?_ ?_
                        · intro hc174
                          change (0 : Int) ≤ c173 at hc174
                          refine pw_ld E (pc' := 158) (st' := [.long (Int64.ofInt 0), .long k42_4]) rfl (fun _ => rfl) ?_
                          refine pw_ld E (pc' := 159) (st' := [.long (k42_4 + (Int64.ofInt 0))]) rfl (fun _ => rfl) ?_
                          refine pw_lst E (pc' := 161) (ls' := [some (.ref 141), some (pw_i wt), some (.long (k42_2 + (Int64.ofInt 1))), none, some (.long (k42_4 + (Int64.ofInt 0))), none, some (.long k42_6), none, some (.long k42_8), none, some (.long (Int64.ofInt k42_10)), none, some (.long (pw_gl h97 125 24)), none, some (.long (Int64.ofInt (pw_gm h97 125 25))), none, some (pw_i k42_16)]) rfl rfl rfl rfl ?_
                          refine pw_ld E (pc' := 163) (st' := [.long k42_6]) rfl (fun _ => rfl) ?_
                          refine pw_ld E (pc' := 164) (st' := [.ref 141, .long k42_6]) rfl (fun _ => rfl) ?_
                          refine pw_getL h97I E (c := 125) (k := 24) (pc' := 167) rfl rfl rfl rfl rfl rfl ?_
                          refine pw_ld E (pc' := 168) (st' := [.long (Int64.ofInt 0), .long (pw_gl h97 125 24), .long k42_6]) rfl (fun _ => rfl) ?_
                          refine pw_lcmp E (pc' := 169) rfl rfl (fun c175 hc175 => ?_)
                          refine pw_if E (pc' := 176) rfl (by decide) (by omega) (by omega) ?_ ?_
                          · intro hc176
                            change c175 ≤ (0 : Int) at hc176
                            refine pw_ld E (pc' := 177) (st' := [.long (Int64.ofInt 0), .long k42_6]) rfl (fun _ => rfl) ?_
                            refine pw_ld E (pc' := 178) (st' := [.long (k42_6 + (Int64.ofInt 0))]) rfl (fun _ => rfl) ?_
                            refine pw_lst E (pc' := 180) (ls' := [some (.ref 141), some (pw_i wt), some (.long (k42_2 + (Int64.ofInt 1))), none, some (.long (k42_4 + (Int64.ofInt 0))), none, some (.long (k42_6 + (Int64.ofInt 0))), none, some (.long k42_8), none, some (.long (Int64.ofInt k42_10)), none, some (.long (pw_gl h97 125 24)), none, some (.long (Int64.ofInt (pw_gm h97 125 25))), none, some (pw_i k42_16)]) rfl rfl rfl rfl ?_
                            refine pw_inc E (pc' := 183) (ls' := [some (.ref 141), some (pw_i wt), some (.long (k42_2 + (Int64.ofInt 1))), none, some (.long (k42_4 + (Int64.ofInt 0))), none, some (.long (k42_6 + (Int64.ofInt 0))), none, some (.long k42_8), none, some (.long (Int64.ofInt k42_10)), none, some (.long (pw_gl h97 125 24)), none, some (.long (Int64.ofInt (pw_gm h97 125 25))), none, some (pw_i (k42_16 + 1))]) rfl rfl rfl rfl ?_
                            refine pw_goto E (pc' := 42) rfl (by decide) ?_
                            exact ih42 _ (by omega) (k42_2 + (Int64.ofInt 1)) (k42_4 + (Int64.ofInt 0)) (k42_6 + (Int64.ofInt 0)) (k42_8) (k42_10) (pw_gl h97 125 24) (pw_gm h97 125 25) (k42_16 + 1) h97 h97I h97F (by omega) (by omega) (by omega) (by omega) (by omega) (by omega)  rfl
                          · intro hc177
                            change ¬ (c175 ≤ (0 : Int)) at hc177
                            refine pw_ld E (pc' := 173) (st' := [.long (Int64.ofInt 1), .long k42_6]) rfl (fun _ => rfl) ?_
                            refine pw_goto E (pc' := 177) rfl (by decide) ?_
                            refine pw_ld E (pc' := 178) (st' := [.long (k42_6 + (Int64.ofInt 1))]) rfl (fun _ => rfl) ?_
                            refine pw_lst E (pc' := 180) (ls' := [some (.ref 141), some (pw_i wt), some (.long (k42_2 + (Int64.ofInt 1))), none, some (.long (k42_4 + (Int64.ofInt 0))), none, some (.long (k42_6 + (Int64.ofInt 1))), none, some (.long k42_8), none, some (.long (Int64.ofInt k42_10)), none, some (.long (pw_gl h97 125 24)), none, some (.long (Int64.ofInt (pw_gm h97 125 25))), none, some (pw_i k42_16)]) rfl rfl rfl rfl ?_
                            refine pw_inc E (pc' := 183) (ls' := [some (.ref 141), some (pw_i wt), some (.long (k42_2 + (Int64.ofInt 1))), none, some (.long (k42_4 + (Int64.ofInt 0))), none, some (.long (k42_6 + (Int64.ofInt 1))), none, some (.long k42_8), none, some (.long (Int64.ofInt k42_10)), none, some (.long (pw_gl h97 125 24)), none, some (.long (Int64.ofInt (pw_gm h97 125 25))), none, some (pw_i (k42_16 + 1))]) rfl rfl rfl rfl ?_
                            refine pw_goto E (pc' := 42) rfl (by decide) ?_
                            exact ih42 _ (by omega) (k42_2 + (Int64.ofInt 1)) (k42_4 + (Int64.ofInt 0)) (k42_6 + (Int64.ofInt 1)) (k42_8) (k42_10) (pw_gl h97 125 24) (pw_gm h97 125 25) (k42_16 + 1) h97 h97I h97F (by omega) (by omega) (by omega) (by omega) (by omega) (by omega)  rfl
                        · intro hc178
                          change ¬ ((0 : Int) ≤ c173) at hc178
                          refine pw_ld E (pc' := 154) (st' := [.long (Int64.ofInt 1), .long k42_4]) rfl (fun _ => rfl) ?_
                          refine pw_goto E (pc' := 158) rfl (by decide) ?_
                          refine pw_ld E (pc' := 159) (st' := [.long (k42_4 + (Int64.ofInt 1))]) rfl (fun _ => rfl) ?_
                          refine pw_lst E (pc' := 161) (ls' := [some (.ref 141), some (pw_i wt), some (.long (k42_2 + (Int64.ofInt 1))), none, some (.long (k42_4 + (Int64.ofInt 1))), none, some (.long k42_6), none, some (.long k42_8), none, some (.long (Int64.ofInt k42_10)), none, some (.long (pw_gl h97 125 24)), none, some (.long (Int64.ofInt (pw_gm h97 125 25))), none, some (pw_i k42_16)]) rfl rfl rfl rfl ?_
                          refine pw_ld E (pc' := 163) (st' := [.long k42_6]) rfl (fun _ => rfl) ?_
                          refine pw_ld E (pc' := 164) (st' := [.ref 141, .long k42_6]) rfl (fun _ => rfl) ?_
                          refine pw_getL h97I E (c := 125) (k := 24) (pc' := 167) rfl rfl rfl rfl rfl rfl ?_
                          refine pw_ld E (pc' := 168) (st' := [.long (Int64.ofInt 0), .long (pw_gl h97 125 24), .long k42_6]) rfl (fun _ => rfl) ?_
                          refine pw_lcmp E (pc' := 169) rfl rfl (fun c179 hc179 => ?_)
                          refine pw_if E (pc' := 176) rfl (by decide) (by omega) (by omega) ?_ ?_
                          · intro hc180
                            change c179 ≤ (0 : Int) at hc180
                            refine pw_ld E (pc' := 177) (st' := [.long (Int64.ofInt 0), .long k42_6]) rfl (fun _ => rfl) ?_
                            refine pw_ld E (pc' := 178) (st' := [.long (k42_6 + (Int64.ofInt 0))]) rfl (fun _ => rfl) ?_
                            refine pw_lst E (pc' := 180) (ls' := [some (.ref 141), some (pw_i wt), some (.long (k42_2 + (Int64.ofInt 1))), none, some (.long (k42_4 + (Int64.ofInt 1))), none, some (.long (k42_6 + (Int64.ofInt 0))), none, some (.long k42_8), none, some (.long (Int64.ofInt k42_10)), none, some (.long (pw_gl h97 125 24)), none, some (.long (Int64.ofInt (pw_gm h97 125 25))), none, some (pw_i k42_16)]) rfl rfl rfl rfl ?_
                            refine pw_inc E (pc' := 183) (ls' := [some (.ref 141), some (pw_i wt), some (.long (k42_2 + (Int64.ofInt 1))), none, some (.long (k42_4 + (Int64.ofInt 1))), none, some (.long (k42_6 + (Int64.ofInt 0))), none, some (.long k42_8), none, some (.long (Int64.ofInt k42_10)), none, some (.long (pw_gl h97 125 24)), none, some (.long (Int64.ofInt (pw_gm h97 125 25))), none, some (pw_i (k42_16 + 1))]) rfl rfl rfl rfl ?_
                            refine pw_goto E (pc' := 42) rfl (by decide) ?_
                            exact ih42 _ (by omega) (k42_2 + (Int64.ofInt 1)) (k42_4 + (Int64.ofInt 1)) (k42_6 + (Int64.ofInt 0)) (k42_8) (k42_10) (pw_gl h97 125 24) (pw_gm h97 125 25) (k42_16 + 1) h97 h97I h97F (by omega) (by omega) (by omega) (by omega) (by omega) (by omega)  rfl
                          · intro hc181
                            change ¬ (c179 ≤ (0 : Int)) at hc181
                            refine pw_ld E (pc' := 173) (st' := [.long (Int64.ofInt 1), .long k42_6]) rfl (fun _ => rfl) ?_
                            refine pw_goto E (pc' := 177) rfl (by decide) ?_
                            refine pw_ld E (pc' := 178) (st' := [.long (k42_6 + (Int64.ofInt 1))]) rfl (fun _ => rfl) ?_
                            refine pw_lst E (pc' := 180) (ls' := [some (.ref 141), some (pw_i wt), some (.long (k42_2 + (Int64.ofInt 1))), none, some (.long (k42_4 + (Int64.ofInt 1))), none, some (.long (k42_6 + (Int64.ofInt 1))), none, some (.long k42_8), none, some (.long (Int64.ofInt k42_10)), none, some (.long (pw_gl h97 125 24)), none, some (.long (Int64.ofInt (pw_gm h97 125 25))), none, some (pw_i k42_16)]) rfl rfl rfl rfl ?_
                            refine pw_inc E (pc' := 183) (ls' := [some (.ref 141), some (pw_i wt), some (.long (k42_2 + (Int64.ofInt 1))), none, some (.long (k42_4 + (Int64.ofInt 1))), none, some (.long (k42_6 + (Int64.ofInt 1))), none, some (.long k42_8), none, some (.long (Int64.ofInt k42_10)), none, some (.long (pw_gl h97 125 24)), none, some (.long (Int64.ofInt (pw_gm h97 125 25))), none, some (pw_i (k42_16 + 1))]) rfl rfl rfl rfl ?_
                            refine pw_goto E (pc' := 42) rfl (by decide) ?_
                            exact ih42 _ (by omega) (k42_2 + (Int64.ofInt 1)) (k42_4 + (Int64.ofInt 1)) (k42_6 + (Int64.ofInt 1)) (k42_8) (k42_10) (pw_gl h97 125 24) (pw_gm h97 125 25) (k42_16 + 1) h97 h97I h97F (by omega) (by omega) (by omega) (by omega) (by omega) (by omega)  rfl
                  · intro hc182
                    change ¬ ((0 : Int) ≤ c144) at hc182
                    refine pw_ld E (pc' := 91) (st' := [.ref 141]) rfl (fun _ => rfl) ?_
                    refine pw_getL h97I E (c := 125) (k := 24) (pc' := 94) rfl rfl rfl rfl rfl rfl ?_
                    refine pw_lst E (pc' := 96) (ls' := [some (.ref 141), some (pw_i wt), some (.long k42_2), none, some (.long k42_4), none, some (.long k42_6), none, some (.long (pw_gl h97 125 24)), none, some (.long (Int64.ofInt k42_10)), none, some (.long k42_12), none, some (.long (Int64.ofInt k42_14)), none, some (pw_i k42_16)]) rfl rfl rfl rfl ?_
                    refine pw_ld E (pc' := 97) (st' := [.ref 141]) rfl (fun _ => rfl) ?_
                    refine pw_getM h97I E (c := 125) (k := 25) (pc' := 100) rfl rfl rfl rfl rfl rfl (fun hf183a hf183b => ?_)
                    refine pw_lst E (pc' := 102) (ls' := [some (.ref 141), some (pw_i wt), some (.long k42_2), none, some (.long k42_4), none, some (.long k42_6), none, some (.long (pw_gl h97 125 24)), none, some (.long (Int64.ofInt (pw_gm h97 125 25))), none, some (.long k42_12), none, some (.long (Int64.ofInt k42_14)), none, some (pw_i k42_16)]) rfl rfl rfl rfl ?_
                    refine pw_ld E (pc' := 103) (st' := [.long k42_2]) rfl (fun _ => rfl) ?_
                    refine pw_ld E (pc' := 104) (st' := [.long (Int64.ofInt 0), .long k42_2]) rfl (fun _ => rfl) ?_
                    refine pw_lcmp E (pc' := 105) rfl rfl (fun c184 hc184 => ?_)
                    refine pw_if E (pc' := 126) rfl (by decide) (by omega) (by omega) ?_ ?_
                    · intro hc185
                      change c184 = (0 : Int) at hc185
                      refine pw_ld E (pc' := 127) (st' := [.ref 141]) rfl (fun _ => rfl) ?_
                      refine pw_getL h97I E (c := 125) (k := 24) (pc' := 130) rfl rfl rfl rfl rfl rfl ?_
                      refine pw_lst E (pc' := 132) (ls' := [some (.ref 141), some (pw_i wt), some (.long k42_2), none, some (.long k42_4), none, some (.long k42_6), none, some (.long (pw_gl h97 125 24)), none, some (.long (Int64.ofInt (pw_gm h97 125 25))), none, some (.long (pw_gl h97 125 24)), none, some (.long (Int64.ofInt k42_14)), none, some (pw_i k42_16)]) rfl rfl rfl rfl ?_
                      refine pw_ld E (pc' := 133) (st' := [.ref 141]) rfl (fun _ => rfl) ?_
                      refine pw_getM h97I E (c := 125) (k := 25) (pc' := 136) rfl rfl rfl rfl rfl rfl (fun hf186a hf186b => ?_)
                      refine pw_lst E (pc' := 138) (ls' := [some (.ref 141), some (pw_i wt), some (.long k42_2), none, some (.long k42_4), none, some (.long k42_6), none, some (.long (pw_gl h97 125 24)), none, some (.long (Int64.ofInt (pw_gm h97 125 25))), none, some (.long (pw_gl h97 125 24)), none, some (.long (Int64.ofInt (pw_gm h97 125 25))), none, some (pw_i k42_16)]) rfl rfl rfl rfl ?_
                      refine pw_ld E (pc' := 139) (st' := [.long k42_2]) rfl (fun _ => rfl) ?_
                      refine pw_ld E (pc' := 140) (st' := [.long (Int64.ofInt 1), .long k42_2]) rfl (fun _ => rfl) ?_
                      refine pw_ld E (pc' := 141) (st' := [.long (k42_2 + (Int64.ofInt 1))]) rfl (fun _ => rfl) ?_
                      refine pw_lstn E (pc' := 142) (ls' := [some (.ref 141), some (pw_i wt), some (.long (k42_2 + (Int64.ofInt 1))), none, some (.long k42_4), none, some (.long k42_6), none, some (.long (pw_gl h97 125 24)), none, some (.long (Int64.ofInt (pw_gm h97 125 25))), none, some (.long (pw_gl h97 125 24)), none, some (.long (Int64.ofInt (pw_gm h97 125 25))), none, some (pw_i k42_16)]) rfl rfl rfl rfl ?_
                      refine pw_ld E (pc' := 144) (st' := [.long k42_4]) rfl (fun _ => rfl) ?_
                      refine pw_ld E (pc' := 145) (st' := [.ref 141, .long k42_4]) rfl (fun _ => rfl) ?_
                      refine pw_getL h97I E (c := 125) (k := 24) (pc' := 148) rfl rfl rfl rfl rfl rfl ?_
                      refine pw_ld E (pc' := 149) (st' := [.long (Int64.ofInt 0), .long (pw_gl h97 125 24), .long k42_4]) rfl (fun _ => rfl) ?_
                      refine pw_lcmp E (pc' := 150) rfl rfl (fun c187 hc187 => ?_)
                      refine pw_if E (pc' := 157) rfl (by decide) (by omega) (by omega) ?_ ?_
                      · intro hc188
                        change (0 : Int) ≤ c187 at hc188
                        refine pw_ld E (pc' := 158) (st' := [.long (Int64.ofInt 0), .long k42_4]) rfl (fun _ => rfl) ?_
                        refine pw_ld E (pc' := 159) (st' := [.long (k42_4 + (Int64.ofInt 0))]) rfl (fun _ => rfl) ?_
                        refine pw_lst E (pc' := 161) (ls' := [some (.ref 141), some (pw_i wt), some (.long (k42_2 + (Int64.ofInt 1))), none, some (.long (k42_4 + (Int64.ofInt 0))), none, some (.long k42_6), none, some (.long (pw_gl h97 125 24)), none, some (.long (Int64.ofInt (pw_gm h97 125 25))), none, some (.long (pw_gl h97 125 24)), none, some (.long (Int64.ofInt (pw_gm h97 125 25))), none, some (pw_i k42_16)]) rfl rfl rfl rfl ?_
                        refine pw_ld E (pc' := 163) (st' := [.long k42_6]) rfl (fun _ => rfl) ?_
                        refine pw_ld E (pc' := 164) (st' := [.ref 141, .long k42_6]) rfl (fun _ => rfl) ?_
                        refine pw_getL h97I E (c := 125) (k := 24) (pc' := 167) rfl rfl rfl rfl rfl rfl ?_
                        refine pw_ld E (pc' := 168) (st' := [.long (Int64.ofInt 0), .long (pw_gl h97 125 24), .long k42_6]) rfl (fun _ => rfl) ?_
                        refine pw_lcmp E (pc' := 169) rfl rfl (fun c189 hc189 => ?_)
                        refine pw_if E (pc' := 176) rfl (by decide) (by omega) (by omega) ?_ ?_
                        · intro hc190
                          change c189 ≤ (0 : Int) at hc190
                          refine pw_ld E (pc' := 177) (st' := [.long (Int64.ofInt 0), .long k42_6]) rfl (fun _ => rfl) ?_
                          refine pw_ld E (pc' := 178) (st' := [.long (k42_6 + (Int64.ofInt 0))]) rfl (fun _ => rfl) ?_
                          refine pw_lst E (pc' := 180) (ls' := [some (.ref 141), some (pw_i wt), some (.long (k42_2 + (Int64.ofInt 1))), none, some (.long (k42_4 + (Int64.ofInt 0))), none, some (.long (k42_6 + (Int64.ofInt 0))), none, some (.long (pw_gl h97 125 24)), none, some (.long (Int64.ofInt (pw_gm h97 125 25))), none, some (.long (pw_gl h97 125 24)), none, some (.long (Int64.ofInt (pw_gm h97 125 25))), none, some (pw_i k42_16)]) rfl rfl rfl rfl ?_
                          refine pw_inc E (pc' := 183) (ls' := [some (.ref 141), some (pw_i wt), some (.long (k42_2 + (Int64.ofInt 1))), none, some (.long (k42_4 + (Int64.ofInt 0))), none, some (.long (k42_6 + (Int64.ofInt 0))), none, some (.long (pw_gl h97 125 24)), none, some (.long (Int64.ofInt (pw_gm h97 125 25))), none, some (.long (pw_gl h97 125 24)), none, some (.long (Int64.ofInt (pw_gm h97 125 25))), none, some (pw_i (k42_16 + 1))]) rfl rfl rfl rfl ?_
                          refine pw_goto E (pc' := 42) rfl (by decide) ?_
                          exact ih42 _ (by omega) (k42_2 + (Int64.ofInt 1)) (k42_4 + (Int64.ofInt 0)) (k42_6 + (Int64.ofInt 0)) (pw_gl h97 125 24) (pw_gm h97 125 25) (pw_gl h97 125 24) (pw_gm h97 125 25) (k42_16 + 1) h97 h97I h97F (by omega) (by omega) (by omega) (by omega) (by omega) (by omega)  rfl
                        · intro hc191
                          change ¬ (c189 ≤ (0 : Int)) at hc191
                          refine pw_ld E (pc' := 173) (st' := [.long (Int64.ofInt 1), .long k42_6]) rfl (fun _ => rfl) ?_
                          refine pw_goto E (pc' := 177) rfl (by decide) ?_
                          refine pw_ld E (pc' := 178) (st' := [.long (k42_6 + (Int64.ofInt 1))]) rfl (fun _ => rfl) ?_
                          refine pw_lst E (pc' := 180) (ls' := [some (.ref 141), some (pw_i wt), some (.long (k42_2 + (Int64.ofInt 1))), none, some (.long (k42_4 + (Int64.ofInt 0))), none, some (.long (k42_6 + (Int64.ofInt 1))), none, some (.long (pw_gl h97 125 24)), none, some (.long (Int64.ofInt (pw_gm h97 125 25))), none, some (.long (pw_gl h97 125 24)), none, some (.long (Int64.ofInt (pw_gm h97 125 25))), none, some (pw_i k42_16)]) rfl rfl rfl rfl ?_
                          refine pw_inc E (pc' := 183) (ls' := [some (.ref 141), some (pw_i wt), some (.long (k42_2 + (Int64.ofInt 1))), none, some (.long (k42_4 + (Int64.ofInt 0))), none, some (.long (k42_6 + (Int64.ofInt 1))), none, some (.long (pw_gl h97 125 24)), none, some (.long (Int64.ofInt (pw_gm h97 125 25))), none, some (.long (pw_gl h97 125 24)), none, some (.long (Int64.ofInt (pw_gm h97 125 25))), none, some (pw_i (k42_16 + 1))]) rfl rfl rfl rfl ?_
                          refine pw_goto E (pc' := 42) rfl (by decide) ?_
                          exact ih42 _ (by omega) (k42_2 + (Int64.ofInt 1)) (k42_4 + (Int64.ofInt 0)) (k42_6 + (Int64.ofInt 1)) (pw_gl h97 125 24) (pw_gm h97 125 25) (pw_gl h97 125 24) (pw_gm h97 125 25) (k42_16 + 1) h97 h97I h97F (by omega) (by omega) (by omega) (by omega) (by omega) (by omega)  rfl
                      · intro hc192
                        change ¬ ((0 : Int) ≤ c187) at hc192
                        refine pw_ld E (pc' := 154) (st' := [.long (Int64.ofInt 1), .long k42_4]) rfl (fun _ => rfl) ?_
                        refine pw_goto E (pc' := 158) rfl (by decide) ?_
                        refine pw_ld E (pc' := 159) (st' := [.long (k42_4 + (Int64.ofInt 1))]) rfl (fun _ => rfl) ?_
                        refine pw_lst E (pc' := 161) (ls' := [some (.ref 141), some (pw_i wt), some (.long (k42_2 + (Int64.ofInt 1))), none, some (.long (k42_4 + (Int64.ofInt 1))), none, some (.long k42_6), none, some (.long (pw_gl h97 125 24)), none, some (.long (Int64.ofInt (pw_gm h97 125 25))), none, some (.long (pw_gl h97 125 24)), none, some (.long (Int64.ofInt (pw_gm h97 125 25))), none, some (pw_i k42_16)]) rfl rfl rfl rfl ?_
                        refine pw_ld E (pc' := 163) (st' := [.long k42_6]) rfl (fun _ => rfl) ?_
                        refine pw_ld E (pc' := 164) (st' := [.ref 141, .long k42_6]) rfl (fun _ => rfl) ?_
                        refine pw_getL h97I E (c := 125) (k := 24) (pc' := 167) rfl rfl rfl rfl rfl rfl ?_
                        refine pw_ld E (pc' := 168) (st' := [.long (Int64.ofInt 0), .long (pw_gl h97 125 24), .long k42_6]) rfl (fun _ => rfl) ?_
                        refine pw_lcmp E (pc' := 169) rfl rfl (fun c193 hc193 => ?_)
                        refine pw_if E (pc' := 176) rfl (by decide) (by omega) (by omega) ?_ ?_
                        · intro hc194
                          change c193 ≤ (0 : Int) at hc194
                          refine pw_ld E (pc' := 177) (st' := [.long (Int64.ofInt 0), .long k42_6]) rfl (fun _ => rfl) ?_
                          refine pw_ld E (pc' := 178) (st' := [.long (k42_6 + (Int64.ofInt 0))]) rfl (fun _ => rfl) ?_
                          refine pw_lst E (pc' := 180) (ls' := [some (.ref 141), some (pw_i wt), some (.long (k42_2 + (Int64.ofInt 1))), none, some (.long (k42_4 + (Int64.ofInt 1))), none, some (.long (k42_6 + (Int64.ofInt 0))), none, some (.long (pw_gl h97 125 24)), none, some (.long (Int64.ofInt (pw_gm h97 125 25))), none, some (.long (pw_gl h97 125 24)), none, some (.long (Int64.ofInt (pw_gm h97 125 25))), none, some (pw_i k42_16)]) rfl rfl rfl rfl ?_
                          refine pw_inc E (pc' := 183) (ls' := [some (.ref 141), some (pw_i wt), some (.long (k42_2 + (Int64.ofInt 1))), none, some (.long (k42_4 + (Int64.ofInt 1))), none, some (.long (k42_6 + (Int64.ofInt 0))), none, some (.long (pw_gl h97 125 24)), none, some (.long (Int64.ofInt (pw_gm h97 125 25))), none, some (.long (pw_gl h97 125 24)), none, some (.long (Int64.ofInt (pw_gm h97 125 25))), none, some (pw_i (k42_16 + 1))]) rfl rfl rfl rfl ?_
                          refine pw_goto E (pc' := 42) rfl (by decide) ?_
                          exact ih42 _ (by omega) (k42_2 + (Int64.ofInt 1)) (k42_4 + (Int64.ofInt 1)) (k42_6 + (Int64.ofInt 0)) (pw_gl h97 125 24) (pw_gm h97 125 25) (pw_gl h97 125 24) (pw_gm h97 125 25) (k42_16 + 1) h97 h97I h97F (by omega) (by omega) (by omega) (by omega) (by omega) (by omega)  rfl
                        · intro hc195
                          change ¬ (c193 ≤ (0 : Int)) at hc195
                          refine pw_ld E (pc' := 173) (st' := [.long (Int64.ofInt 1), .long k42_6]) rfl (fun _ => rfl) ?_
                          refine pw_goto E (pc' := 177) rfl (by decide) ?_
                          refine pw_ld E (pc' := 178) (st' := [.long (k42_6 + (Int64.ofInt 1))]) rfl (fun _ => rfl) ?_
                          refine pw_lst E (pc' := 180) (ls' := [some (.ref 141), some (pw_i wt), some (.long (k42_2 + (Int64.ofInt 1))), none, some (.long (k42_4 + (Int64.ofInt 1))), none, some (.long (k42_6 + (Int64.ofInt 1))), none, some (.long (pw_gl h97 125 24)), none, some (.long (Int64.ofInt (pw_gm h97 125 25))), none, some (.long (pw_gl h97 125 24)), none, some (.long (Int64.ofInt (pw_gm h97 125 25))), none, some (pw_i k42_16)]) rfl rfl rfl rfl ?_
                          refine pw_inc E (pc' := 183) (ls' := [some (.ref 141), some (pw_i wt), some (.long (k42_2 + (Int64.ofInt 1))), none, some (.long (k42_4 + (Int64.ofInt 1))), none, some (.long (k42_6 + (Int64.ofInt 1))), none, some (.long (pw_gl h97 125 24)), none, some (.long (Int64.ofInt (pw_gm h97 125 25))), none, some (.long (pw_gl h97 125 24)), none, some (.long (Int64.ofInt (pw_gm h97 125 25))), none, some (pw_i (k42_16 + 1))]) rfl rfl rfl rfl ?_
                          refine pw_goto E (pc' := 42) rfl (by decide) ?_
                          exact ih42 _ (by omega) (k42_2 + (Int64.ofInt 1)) (k42_4 + (Int64.ofInt 1)) (k42_6 + (Int64.ofInt 1)) (pw_gl h97 125 24) (pw_gm h97 125 25) (pw_gl h97 125 24) (pw_gm h97 125 25) (k42_16 + 1) h97 h97I h97F (by omega) (by omega) (by omega) (by omega) (by omega) (by omega)  rfl
                    · intro hc196
                      change ¬ (c184 = (0 : Int)) at hc196
                      refine pw_ld E (pc' := 109) (st' := [.ref 141]) rfl (fun _ => rfl) ?_
                      refine pw_getL h97I E (c := 125) (k := 24) (pc' := 112) rfl rfl rfl rfl rfl rfl ?_
                      refine pw_ld E (pc' := 114) (st' := [.long (Int64.ofInt k42_14), .long (pw_gl h97 125 24)]) rfl (fun _ => rfl) ?_
                      refine pw_ld E (pc' := 115) (st' := [.long ((pw_gl h97 125 24) * (Int64.ofInt k42_14))]) rfl (fun _ => rfl) ?_
                      refine pw_ld E (pc' := 117) (st' := [.long k42_12, .long ((pw_gl h97 125 24) * (Int64.ofInt k42_14))]) rfl (fun _ => rfl) ?_
                      refine pw_ld E (pc' := 118) (st' := [.ref 141, .long k42_12, .long ((pw_gl h97 125 24) * (Int64.ofInt k42_14))]) rfl (fun _ => rfl) ?_
                      refine pw_getM h97I E (c := 125) (k := 25) (pc' := 121) rfl rfl rfl rfl rfl rfl (fun hf197a hf197b => ?_)
                      refine pw_ld E (pc' := 122) (st' := [.long (k42_12 * (Int64.ofInt (pw_gm h97 125 25))), .long ((pw_gl h97 125 24) * (Int64.ofInt k42_14))]) rfl (fun _ => rfl) ?_
                      refine pw_lcmp E (pc' := 123) rfl rfl (fun c198 hc198 => ?_)
                      refine pw_if E (pc' := 138) rfl (by decide) (by omega) (by omega) ?_ ?_
                      · intro hc199
                        change c198 ≤ (0 : Int) at hc199
                        refine pw_ld E (pc' := 139) (st' := [.long k42_2]) rfl (fun _ => rfl) ?_
                        refine pw_ld E (pc' := 140) (st' := [.long (Int64.ofInt 1), .long k42_2]) rfl (fun _ => rfl) ?_
                        refine pw_ld E (pc' := 141) (st' := [.long (k42_2 + (Int64.ofInt 1))]) rfl (fun _ => rfl) ?_
                        refine pw_lstn E (pc' := 142) (ls' := [some (.ref 141), some (pw_i wt), some (.long (k42_2 + (Int64.ofInt 1))), none, some (.long k42_4), none, some (.long k42_6), none, some (.long (pw_gl h97 125 24)), none, some (.long (Int64.ofInt (pw_gm h97 125 25))), none, some (.long k42_12), none, some (.long (Int64.ofInt k42_14)), none, some (pw_i k42_16)]) rfl rfl rfl rfl ?_
                        refine pw_ld E (pc' := 144) (st' := [.long k42_4]) rfl (fun _ => rfl) ?_
                        refine pw_ld E (pc' := 145) (st' := [.ref 141, .long k42_4]) rfl (fun _ => rfl) ?_
                        refine pw_getL h97I E (c := 125) (k := 24) (pc' := 148) rfl rfl rfl rfl rfl rfl ?_
                        refine pw_ld E (pc' := 149) (st' := [.long (Int64.ofInt 0), .long (pw_gl h97 125 24), .long k42_4]) rfl (fun _ => rfl) ?_
                        refine pw_lcmp E (pc' := 150) rfl rfl (fun c200 hc200 => ?_)
                        refine pw_if E (pc' := 157) rfl (by decide) (by omega) (by omega) ?_ ?_
                        · intro hc201
                          change (0 : Int) ≤ c200 at hc201
                          refine pw_ld E (pc' := 158) (st' := [.long (Int64.ofInt 0), .long k42_4]) rfl (fun _ => rfl) ?_
                          refine pw_ld E (pc' := 159) (st' := [.long (k42_4 + (Int64.ofInt 0))]) rfl (fun _ => rfl) ?_
                          refine pw_lst E (pc' := 161) (ls' := [some (.ref 141), some (pw_i wt), some (.long (k42_2 + (Int64.ofInt 1))), none, some (.long (k42_4 + (Int64.ofInt 0))), none, some (.long k42_6), none, some (.long (pw_gl h97 125 24)), none, some (.long (Int64.ofInt (pw_gm h97 125 25))), none, some (.long k42_12), none, some (.long (Int64.ofInt k42_14)), none, some (pw_i k42_16)]) rfl rfl rfl rfl ?_
                          refine pw_ld E (pc' := 163) (st' := [.long k42_6]) rfl (fun _ => rfl) ?_
                          refine pw_ld E (pc' := 164) (st' := [.ref 141, .long k42_6]) rfl (fun _ => rfl) ?_
                          refine pw_getL h97I E (c := 125) (k := 24) (pc' := 167) rfl rfl rfl rfl rfl rfl ?_
                          refine pw_ld E (pc' := 168) (st' := [.long (Int64.ofInt 0), .long (pw_gl h97 125 24), .long k42_6]) rfl (fun _ => rfl) ?_
                          refine pw_lcmp E (pc' := 169) rfl rfl (fun c202 hc202 => ?_)
                          refine pw_if E (pc' := 176) rfl (by decide) (by omega) (by omega) ?_ ?_
                          · intro hc203
                            change c202 ≤ (0 : Int) at hc203
                            refine pw_ld E (pc' := 177) (st' := [.long (Int64.ofInt 0), .long k42_6]) rfl (fun _ => rfl) ?_
                            refine pw_ld E (pc' := 178) (st' := [.long (k42_6 + (Int64.ofInt 0))]) rfl (fun _ => rfl) ?_
                            refine pw_lst E (pc' := 180) (ls' := [some (.ref 141), some (pw_i wt), some (.long (k42_2 + (Int64.ofInt 1))), none, some (.long (k42_4 + (Int64.ofInt 0))), none, some (.long (k42_6 + (Int64.ofInt 0))), none, some (.long (pw_gl h97 125 24)), none, some (.long (Int64.ofInt (pw_gm h97 125 25))), none, some (.long k42_12), none, some (.long (Int64.ofInt k42_14)), none, some (pw_i k42_16)]) rfl rfl rfl rfl ?_
                            refine pw_inc E (pc' := 183) (ls' := [some (.ref 141), some (pw_i wt), some (.long (k42_2 + (Int64.ofInt 1))), none, some (.long (k42_4 + (Int64.ofInt 0))), none, some (.long (k42_6 + (Int64.ofInt 0))), none, some (.long (pw_gl h97 125 24)), none, some (.long (Int64.ofInt (pw_gm h97 125 25))), none, some (.long k42_12), none, some (.long (Int64.ofInt k42_14)), none, some (pw_i (k42_16 + 1))]) rfl rfl rfl rfl ?_
                            refine pw_goto E (pc' := 42) rfl (by decide) ?_
                            exact ih42 _ (by omega) (k42_2 + (Int64.ofInt 1)) (k42_4 + (Int64.ofInt 0)) (k42_6 + (Int64.ofInt 0)) (pw_gl h97 125 24) (pw_gm h97 125 25) (k42_12) (k42_14) (k42_16 + 1) h97 h97I h97F (by omega) (by omega) (by omega) (by omega) (by omega) (by omega)  rfl
                          · intro hc204
                            change ¬ (c202 ≤ (0 : Int)) at hc204
                            refine pw_ld E (pc' := 173) (st' := [.long (Int64.ofInt 1), .long k42_6]) rfl (fun _ => rfl) ?_
                            refine pw_goto E (pc' := 177) rfl (by decide) ?_
                            refine pw_ld E (pc' := 178) (st' := [.long (k42_6 + (Int64.ofInt 1))]) rfl (fun _ => rfl) ?_
                            refine pw_lst E (pc' := 180) (ls' := [some (.ref 141), some (pw_i wt), some (.long (k42_2 + (Int64.ofInt 1))), none, some (.long (k42_4 + (Int64.ofInt 0))), none, some (.long (k42_6 + (Int64.ofInt 1))), none, some (.long (pw_gl h97 125 24)), none, some (.long (Int64.ofInt (pw_gm h97 125 25))), none, some (.long k42_12), none, some (.long (Int64.ofInt k42_14)), none, some (pw_i k42_16)]) rfl rfl rfl rfl ?_
                            refine pw_inc E (pc' := 183) (ls' := [some (.ref 141), some (pw_i wt), some (.long (k42_2 + (Int64.ofInt 1))), none, some (.long (k42_4 + (Int64.ofInt 0))), none, some (.long (k42_6 + (Int64.ofInt 1))), none, some (.long (pw_gl h97 125 24)), none, some (.long (Int64.ofInt (pw_gm h97 125 25))), none, some (.long k42_12), none, some (.long (Int64.ofInt k42_14)), none, some (pw_i (k42_16 + 1))]) rfl rfl rfl rfl ?_
                            refine pw_goto E (pc' := 42) rfl (by decide) ?_
                            exact ih42 _ (by omega) (k42_2 + (Int64.ofInt 1)) (k42_4 + (Int64.ofInt 0)) (k42_6 + (Int64.ofInt 1)) (pw_gl h97 125 24) (pw_gm h97 125 25) (k42_12) (k42_14) (k42_16 + 1) h97 h97I h97F (by omega) (by omega) (by omega) (by omega) (by omega) (by omega)  rfl
                        · intro hc205
                          change ¬ ((0 : Int) ≤ c200) at hc205
                          refine pw_ld E (pc' := 154) (st' := [.long (Int64.ofInt 1), .long k42_4]) rfl (fun _ => rfl) ?_
                          refine pw_goto E (pc' := 158) rfl (by decide) ?_
                          refine pw_ld E (pc' := 159) (st' := [.long (k42_4 + (Int64.ofInt 1))]) rfl (fun _ => rfl) ?_
                          refine pw_lst E (pc' := 161) (ls' := [some (.ref 141), some (pw_i wt), some (.long (k42_2 + (Int64.ofInt 1))), none, some (.long (k42_4 + (Int64.ofInt 1))), none, some (.long k42_6), none, some (.long (pw_gl h97 125 24)), none, some (.long (Int64.ofInt (pw_gm h97 125 25))), none, some (.long k42_12), none, some (.long (Int64.ofInt k42_14)), none, some (pw_i k42_16)]) rfl rfl rfl rfl ?_
                          refine pw_ld E (pc' := 163) (st' := [.long k42_6]) rfl (fun _ => rfl) ?_
                          refine pw_ld E (pc' := 164) (st' := [.ref 141, .long k42_6]) rfl (fun _ => rfl) ?_
                          refine pw_getL h97I E (c := 125) (k := 24) (pc' := 167) rfl rfl rfl rfl rfl rfl ?_
                          refine pw_ld E (pc' := 168) (st' := [.long (Int64.ofInt 0), .long (pw_gl h97 125 24), .long k42_6]) rfl (fun _ => rfl) ?_
                          refine pw_lcmp E (pc' := 169) rfl rfl (fun c206 hc206 => ?_)
                          refine pw_if E (pc' := 176) rfl (by decide) (by omega) (by omega) ?_ ?_
                          · intro hc207
                            change c206 ≤ (0 : Int) at hc207
                            refine pw_ld E (pc' := 177) (st' := [.long (Int64.ofInt 0), .long k42_6]) rfl (fun _ => rfl) ?_
                            refine pw_ld E (pc' := 178) (st' := [.long (k42_6 + (Int64.ofInt 0))]) rfl (fun _ => rfl) ?_
                            refine pw_lst E (pc' := 180) (ls' := [some (.ref 141), some (pw_i wt), some (.long (k42_2 + (Int64.ofInt 1))), none, some (.long (k42_4 + (Int64.ofInt 1))), none, some (.long (k42_6 + (Int64.ofInt 0))), none, some (.long (pw_gl h97 125 24)), none, some (.long (Int64.ofInt (pw_gm h97 125 25))), none, some (.long k42_12), none, some (.long (Int64.ofInt k42_14)), none, some (pw_i k42_16)]) rfl rfl rfl rfl ?_
                            refine pw_inc E (pc' := 183) (ls' := [some (.ref 141), some (pw_i wt), some (.long (k42_2 + (Int64.ofInt 1))), none, some (.long (k42_4 + (Int64.ofInt 1))), none, some (.long (k42_6 + (Int64.ofInt 0))), none, some (.long (pw_gl h97 125 24)), none, some (.long (Int64.ofInt (pw_gm h97 125 25))), none, some (.long k42_12), none, some (.long (Int64.ofInt k42_14)), none, some (pw_i (k42_16 + 1))]) rfl rfl rfl rfl ?_
                            refine pw_goto E (pc' := 42) rfl (by decide) ?_
                            exact ih42 _ (by omega) (k42_2 + (Int64.ofInt 1)) (k42_4 + (Int64.ofInt 1)) (k42_6 + (Int64.ofInt 0)) (pw_gl h97 125 24) (pw_gm h97 125 25) (k42_12) (k42_14) (k42_16 + 1) h97 h97I h97F (by omega) (by omega) (by omega) (by omega) (by omega) (by omega)  rfl
                          · intro hc208
                            change ¬ (c206 ≤ (0 : Int)) at hc208
                            refine pw_ld E (pc' := 173) (st' := [.long (Int64.ofInt 1), .long k42_6]) rfl (fun _ => rfl) ?_
                            refine pw_goto E (pc' := 177) rfl (by decide) ?_
                            refine pw_ld E (pc' := 178) (st' := [.long (k42_6 + (Int64.ofInt 1))]) rfl (fun _ => rfl) ?_
                            refine pw_lst E (pc' := 180) (ls' := [some (.ref 141), some (pw_i wt), some (.long (k42_2 + (Int64.ofInt 1))), none, some (.long (k42_4 + (Int64.ofInt 1))), none, some (.long (k42_6 + (Int64.ofInt 1))), none, some (.long (pw_gl h97 125 24)), none, some (.long (Int64.ofInt (pw_gm h97 125 25))), none, some (.long k42_12), none, some (.long (Int64.ofInt k42_14)), none, some (pw_i k42_16)]) rfl rfl rfl rfl ?_
                            refine pw_inc E (pc' := 183) (ls' := [some (.ref 141), some (pw_i wt), some (.long (k42_2 + (Int64.ofInt 1))), none, some (.long (k42_4 + (Int64.ofInt 1))), none, some (.long (k42_6 + (Int64.ofInt 1))), none, some (.long (pw_gl h97 125 24)), none, some (.long (Int64.ofInt (pw_gm h97 125 25))), none, some (.long k42_12), none, some (.long (Int64.ofInt k42_14)), none, some (pw_i (k42_16 + 1))]) rfl rfl rfl rfl ?_
                            refine pw_goto E (pc' := 42) rfl (by decide) ?_
                            exact ih42 _ (by omega) (k42_2 + (Int64.ofInt 1)) (k42_4 + (Int64.ofInt 1)) (k42_6 + (Int64.ofInt 1)) (pw_gl h97 125 24) (pw_gm h97 125 25) (k42_12) (k42_14) (k42_16 + 1) h97 h97I h97F (by omega) (by omega) (by omega) (by omega) (by omega) (by omega)  rfl
                      · intro hc209
                        change ¬ (c198 ≤ (0 : Int)) at hc209
                        refine pw_ld E (pc' := 127) (st' := [.ref 141]) rfl (fun _ => rfl) ?_
                        refine pw_getL h97I E (c := 125) (k := 24) (pc' := 130) rfl rfl rfl rfl rfl rfl ?_
                        refine pw_lst E (pc' := 132) (ls' := [some (.ref 141), some (pw_i wt), some (.long k42_2), none, some (.long k42_4), none, some (.long k42_6), none, some (.long (pw_gl h97 125 24)), none, some (.long (Int64.ofInt (pw_gm h97 125 25))), none, some (.long (pw_gl h97 125 24)), none, some (.long (Int64.ofInt k42_14)), none, some (pw_i k42_16)]) rfl rfl rfl rfl ?_
                        refine pw_ld E (pc' := 133) (st' := [.ref 141]) rfl (fun _ => rfl) ?_
                        refine pw_getM h97I E (c := 125) (k := 25) (pc' := 136) rfl rfl rfl rfl rfl rfl (fun hf210a hf210b => ?_)
                        refine pw_lst E (pc' := 138) (ls' := [some (.ref 141), some (pw_i wt), some (.long k42_2), none, some (.long k42_4), none, some (.long k42_6), none, some (.long (pw_gl h97 125 24)), none, some (.long (Int64.ofInt (pw_gm h97 125 25))), none, some (.long (pw_gl h97 125 24)), none, some (.long (Int64.ofInt (pw_gm h97 125 25))), none, some (pw_i k42_16)]) rfl rfl rfl rfl ?_
                        refine pw_ld E (pc' := 139) (st' := [.long k42_2]) rfl (fun _ => rfl) ?_
                        refine pw_ld E (pc' := 140) (st' := [.long (Int64.ofInt 1), .long k42_2]) rfl (fun _ => rfl) ?_
                        refine pw_ld E (pc' := 141) (st' := [.long (k42_2 + (Int64.ofInt 1))]) rfl (fun _ => rfl) ?_
                        refine pw_lstn E (pc' := 142) (ls' := [some (.ref 141), some (pw_i wt), some (.long (k42_2 + (Int64.ofInt 1))), none, some (.long k42_4), none, some (.long k42_6), none, some (.long (pw_gl h97 125 24)), none, some (.long (Int64.ofInt (pw_gm h97 125 25))), none, some (.long (pw_gl h97 125 24)), none, some (.long (Int64.ofInt (pw_gm h97 125 25))), none, some (pw_i k42_16)]) rfl rfl rfl rfl ?_
                        refine pw_ld E (pc' := 144) (st' := [.long k42_4]) rfl (fun _ => rfl) ?_
                        refine pw_ld E (pc' := 145) (st' := [.ref 141, .long k42_4]) rfl (fun _ => rfl) ?_
                        refine pw_getL h97I E (c := 125) (k := 24) (pc' := 148) rfl rfl rfl rfl rfl rfl ?_
                        refine pw_ld E (pc' := 149) (st' := [.long (Int64.ofInt 0), .long (pw_gl h97 125 24), .long k42_4]) rfl (fun _ => rfl) ?_
                        refine pw_lcmp E (pc' := 150) rfl rfl (fun c211 hc211 => ?_)
                        refine pw_if E (pc' := 157) rfl (by decide) (by omega) (by omega) ?_ ?_
                        · intro hc212
                          change (0 : Int) ≤ c211 at hc212
                          refine pw_ld E (pc' := 158) (st' := [.long (Int64.ofInt 0), .long k42_4]) rfl (fun _ => rfl) ?_
                          refine pw_ld E (pc' := 159) (st' := [.long (k42_4 + (Int64.ofInt 0))]) rfl (fun _ => rfl) ?_
                          refine pw_lst E (pc' := 161) (ls' := [some (.ref 141), some (pw_i wt), some (.long (k42_2 + (Int64.ofInt 1))), none, some (.long (k42_4 + (Int64.ofInt 0))), none, some (.long k42_6), none, some (.long (pw_gl h97 125 24)), none, some (.long (Int64.ofInt (pw_gm h97 125 25))), none, some (.long (pw_gl h97 125 24)), none, some (.long (Int64.ofInt (pw_gm h97 125 25))), none, some (pw_i k42_16)]) rfl rfl rfl rfl ?_
                          refine pw_ld E (pc' := 163) (st' := [.long k42_6]) rfl (fun _ => rfl) ?_
                          refine pw_ld E (pc' := 164) (st' := [.ref 141, .long k42_6]) rfl (fun _ => rfl) ?_
                          refine pw_getL h97I E (c := 125) (k := 24) (pc' := 167) rfl rfl rfl rfl rfl rfl ?_
                          refine pw_ld E (pc' := 168) (st' := [.long (Int64.ofInt 0), .long (pw_gl h97 125 24), .long k42_6]) rfl (fun _ => rfl) ?_
                          refine pw_lcmp E (pc' := 169) rfl rfl (fun c213 hc213 => ?_)
                          refine pw_if E (pc' := 176) rfl (by decide) (by omega) (by omega) ?_ ?_
                          · intro hc214
                            change c213 ≤ (0 : Int) at hc214
                            refine pw_ld E (pc' := 177) (st' := [.long (Int64.ofInt 0), .long k42_6]) rfl (fun _ => rfl) ?_
                            refine pw_ld E (pc' := 178) (st' := [.long (k42_6 + (Int64.ofInt 0))]) rfl (fun _ => rfl) ?_
                            refine pw_lst E (pc' := 180) (ls' := [some (.ref 141), some (pw_i wt), some (.long (k42_2 + (Int64.ofInt 1))), none, some (.long (k42_4 + (Int64.ofInt 0))), none, some (.long (k42_6 + (Int64.ofInt 0))), none, some (.long (pw_gl h97 125 24)), none, some (.long (Int64.ofInt (pw_gm h97 125 25))), none, some (.long (pw_gl h97 125 24)), none, some (.long (Int64.ofInt (pw_gm h97 125 25))), none, some (pw_i k42_16)]) rfl rfl rfl rfl ?_
                            refine pw_inc E (pc' := 183) (ls' := [some (.ref 141), some (pw_i wt), some (.long (k42_2 + (Int64.ofInt 1))), none, some (.long (k42_4 + (Int64.ofInt 0))), none, some (.long (k42_6 + (Int64.ofInt 0))), none, some (.long (pw_gl h97 125 24)), none, some (.long (Int64.ofInt (pw_gm h97 125 25))), none, some (.long (pw_gl h97 125 24)), none, some (.long (Int64.ofInt (pw_gm h97 125 25))), none, some (pw_i (k42_16 + 1))]) rfl rfl rfl rfl ?_
                            refine pw_goto E (pc' := 42) rfl (by decide) ?_
                            exact ih42 _ (by omega) (k42_2 + (Int64.ofInt 1)) (k42_4 + (Int64.ofInt 0)) (k42_6 + (Int64.ofInt 0)) (pw_gl h97 125 24) (pw_gm h97 125 25) (pw_gl h97 125 24) (pw_gm h97 125 25) (k42_16 + 1) h97 h97I h97F (by omega) (by omega) (by omega) (by omega) (by omega) (by omega)  rfl
                          · intro hc215
                            change ¬ (c213 ≤ (0 : Int)) at hc215
                            refine pw_ld E (pc' := 173) (st' := [.long (Int64.ofInt 1), .long k42_6]) rfl (fun _ => rfl) ?_
                            refine pw_goto E (pc' := 177) rfl (by decide) ?_
                            refine pw_ld E (pc' := 178) (st' := [.long (k42_6 + (Int64.ofInt 1))]) rfl (fun _ => rfl) ?_
                            refine pw_lst E (pc' := 180) (ls' := [some (.ref 141), some (pw_i wt), some (.long (k42_2 + (Int64.ofInt 1))), none, some (.long (k42_4 + (Int64.ofInt 0))), none, some (.long (k42_6 + (Int64.ofInt 1))), none, some (.long (pw_gl h97 125 24)), none, some (.long (Int64.ofInt (pw_gm h97 125 25))), none, some (.long (pw_gl h97 125 24)), none, some (.long (Int64.ofInt (pw_gm h97 125 25))), none, some (pw_i k42_16)]) rfl rfl rfl rfl ?_
                            refine pw_inc E (pc' := 183) (ls' := [some (.ref 141), some (pw_i wt), some (.long (k42_2 + (Int64.ofInt 1))), none, some (.long (k42_4 + (Int64.ofInt 0))), none, some (.long (k42_6 + (Int64.ofInt 1))), none, some (.long (pw_gl h97 125 24)), none, some (.long (Int64.ofInt (pw_gm h97 125 25))), none, some (.long (pw_gl h97 125 24)), none, some (.long (Int64.ofInt (pw_gm h97 125 25))), none, some (pw_i (k42_16 + 1))]) rfl rfl rfl rfl ?_
                            refine pw_goto E (pc' := 42) rfl (by decide) ?_
                            exact ih42 _ (by omega) (k42_2 + (Int64.ofInt 1)) (k42_4 + (Int64.ofInt 0)) (k42_6 + (Int64.ofInt 1)) (pw_gl h97 125 24) (pw_gm h97 125 25) (pw_gl h97 125 24) (pw_gm h97 125 25) (k42_16 + 1) h97 h97I h97F (by omega) (by omega) (by omega) (by omega) (by omega) (by omega)  rfl
                        · intro hc216
                          change ¬ ((0 : Int) ≤ c211) at hc216
                          refine pw_ld E (pc' := 154) (st' := [.long (Int64.ofInt 1), .long k42_4]) rfl (fun _ => rfl) ?_
                          refine pw_goto E (pc' := 158) rfl (by decide) ?_
                          refine pw_ld E (pc' := 159) (st' := [.long (k42_4 + (Int64.ofInt 1))]) rfl (fun _ => rfl) ?_
                          refine pw_lst E (pc' := 161) (ls' := [some (.ref 141), some (pw_i wt), some (.long (k42_2 + (Int64.ofInt 1))), none, some (.long (k42_4 + (Int64.ofInt 1))), none, some (.long k42_6), none, some (.long (pw_gl h97 125 24)), none, some (.long (Int64.ofInt (pw_gm h97 125 25))), none, some (.long (pw_gl h97 125 24)), none, some (.long (Int64.ofInt (pw_gm h97 125 25))), none, some (pw_i k42_16)]) rfl rfl rfl rfl ?_
                          refine pw_ld E (pc' := 163) (st' := [.long k42_6]) rfl (fun _ => rfl) ?_
                          refine pw_ld E (pc' := 164) (st' := [.ref 141, .long k42_6]) rfl (fun _ => rfl) ?_
                          refine pw_getL h97I E (c := 125) (k := 24) (pc' := 167) rfl rfl rfl rfl rfl rfl ?_
                          refine pw_ld E (pc' := 168) (st' := [.long (Int64.ofInt 0), .long (pw_gl h97 125 24), .long k42_6]) rfl (fun _ => rfl) ?_
                          refine pw_lcmp E (pc' := 169) rfl rfl (fun c217 hc217 => ?_)
                          refine pw_if E (pc' := 176) rfl (by decide) (by omega) (by omega) ?_ ?_
                          · intro hc218
                            change c217 ≤ (0 : Int) at hc218
                            refine pw_ld E (pc' := 177) (st' := [.long (Int64.ofInt 0), .long k42_6]) rfl (fun _ => rfl) ?_
                            refine pw_ld E (pc' := 178) (st' := [.long (k42_6 + (Int64.ofInt 0))]) rfl (fun _ => rfl) ?_
                            refine pw_lst E (pc' := 180) (ls' := [some (.ref 141), some (pw_i wt), some (.long (k42_2 + (Int64.ofInt 1))), none, some (.long (k42_4 + (Int64.ofInt 1))), none, some (.long (k42_6 + (Int64.ofInt 0))), none, some (.long (pw_gl h97 125 24)), none, some (.long (Int64.ofInt (pw_gm h97 125 25))), none, some (.long (pw_gl h97 125 24)), none, some (.long (Int64.ofInt (pw_gm h97 125 25))), none, some (pw_i k42_16)]) rfl rfl rfl rfl ?_
                            refine pw_inc E (pc' := 183) (ls' := [some (.ref 141), some (pw_i wt), some (.long (k42_2 + (Int64.ofInt 1))), none, some (.long (k42_4 + (Int64.ofInt 1))), none, some (.long (k42_6 + (Int64.ofInt 0))), none, some (.long (pw_gl h97 125 24)), none, some (.long (Int64.ofInt (pw_gm h97 125 25))), none, some (.long (pw_gl h97 125 24)), none, some (.long (Int64.ofInt (pw_gm h97 125 25))), none, some (pw_i (k42_16 + 1))]) rfl rfl rfl rfl ?_
                            refine pw_goto E (pc' := 42) rfl (by decide) ?_
                            exact ih42 _ (by omega) (k42_2 + (Int64.ofInt 1)) (k42_4 + (Int64.ofInt 1)) (k42_6 + (Int64.ofInt 0)) (pw_gl h97 125 24) (pw_gm h97 125 25) (pw_gl h97 125 24) (pw_gm h97 125 25) (k42_16 + 1) h97 h97I h97F (by omega) (by omega) (by omega) (by omega) (by omega) (by omega)  rfl
                          · intro hc219
                            change ¬ (c217 ≤ (0 : Int)) at hc219
                            refine pw_ld E (pc' := 173) (st' := [.long (Int64.ofInt 1), .long k42_6]) rfl (fun _ => rfl) ?_
                            refine pw_goto E (pc' := 177) rfl (by decide) ?_
                            refine pw_ld E (pc' := 178) (st' := [.long (k42_6 + (Int64.ofInt 1))]) rfl (fun _ => rfl) ?_
                            refine pw_lst E (pc' := 180) (ls' := [some (.ref 141), some (pw_i wt), some (.long (k42_2 + (Int64.ofInt 1))), none, some (.long (k42_4 + (Int64.ofInt 1))), none, some (.long (k42_6 + (Int64.ofInt 1))), none, some (.long (pw_gl h97 125 24)), none, some (.long (Int64.ofInt (pw_gm h97 125 25))), none, some (.long (pw_gl h97 125 24)), none, some (.long (Int64.ofInt (pw_gm h97 125 25))), none, some (pw_i k42_16)]) rfl rfl rfl rfl ?_
                            refine pw_inc E (pc' := 183) (ls' := [some (.ref 141), some (pw_i wt), some (.long (k42_2 + (Int64.ofInt 1))), none, some (.long (k42_4 + (Int64.ofInt 1))), none, some (.long (k42_6 + (Int64.ofInt 1))), none, some (.long (pw_gl h97 125 24)), none, some (.long (Int64.ofInt (pw_gm h97 125 25))), none, some (.long (pw_gl h97 125 24)), none, some (.long (Int64.ofInt (pw_gm h97 125 25))), none, some (pw_i (k42_16 + 1))]) rfl rfl rfl rfl ?_
                            refine pw_goto E (pc' := 42) rfl (by decide) ?_
                            exact ih42 _ (by omega) (k42_2 + (Int64.ofInt 1)) (k42_4 + (Int64.ofInt 1)) (k42_6 + (Int64.ofInt 1)) (pw_gl h97 125 24) (pw_gm h97 125 25) (pw_gl h97 125 24) (pw_gm h97 125 25) (k42_16 + 1) h97 h97I h97F (by omega) (by omega) (by omega) (by omega) (by omega) (by omega)  rfl
            · skip
              refine pw_if E (pc' := 180) rfl (by decide) (by omega) (by omega) ?_ ?_
              · intro hc221
                change x99 = (0 : Int) at hc221
                refine pw_inc E (pc' := 183) (ls' := [some (.ref 141), some (pw_i wt), some (.long k42_2), none, some (.long k42_4), none, some (.long k42_6), none, some (.long k42_8), none, some (.long (Int64.ofInt k42_10)), none, some (.long k42_12), none, some (.long (Int64.ofInt k42_14)), none, some (pw_i (k42_16 + 1))]) rfl rfl rfl rfl ?_
                refine pw_goto E (pc' := 42) rfl (by decide) ?_
                exact ih42 _ (by omega) (k42_2) (k42_4) (k42_6) (k42_8) (k42_10) (k42_12) (k42_14) (k42_16 + 1) h97 h97I h97F (by omega) (by omega) (by omega) (by omega) (by omega) (by omega)  rfl
              · intro hc222
                change ¬ (x99 = (0 : Int)) at hc222
                exfalso; omega
      exact L42 _ (Int64.ofInt 0) (Int64.ofInt 0) (Int64.ofInt 0) (Int64.ofInt 0) (1) (Int64.ofInt 0) (1) (0) h7 h7I h7F (by omega) (by omega) (by omega) (by omega) (by omega) (by omega)  rfl
  · skip
    refine pw_if E (pc' := 15) rfl (by decide) (by omega) (by omega) ?_ ?_
    · intro hc224
      change x3 = (0 : Int) at hc224
      refine pw_ld E (pc' := 16) (st' := [pw_i 1, .ref 141]) rfl (fun _ => rfl) ?_
      refine pw_putI I E (c := 125) (k := 0) (pc' := 19) rfl rfl rfl rfl (by omega) (by omega) (by omega) (by omega) rfl rfl ?_
      intro h225I h225E
      generalize h225w : pw_w h 125 0 (pw_i 1) = h225 at h225I h225E ⊢
      have h225F := E0.tr (h225E.wk (W' := [125, 149, 150]) (by first | rfl | simp))
      refine pw_ld E (pc' := 20) (st' := [.long (Int64.ofInt 0)]) rfl (fun _ => rfl) ?_
      refine pw_lstn E (pc' := 21) (ls' := [some (.ref 141), some (pw_i wt), some (.long (Int64.ofInt 0)), none, none, none, none, none, none, none, none, none, none, none, none, none, none]) rfl rfl rfl rfl ?_
      refine pw_ld E (pc' := 22) (st' := [.long (Int64.ofInt 0)]) rfl (fun _ => rfl) ?_
      refine pw_lst E (pc' := 24) (ls' := [some (.ref 141), some (pw_i wt), some (.long (Int64.ofInt 0)), none, some (.long (Int64.ofInt 0)), none, none, none, none, none, none, none, none, none, none, none, none]) rfl rfl rfl rfl ?_
      refine pw_ld E (pc' := 25) (st' := [.long (Int64.ofInt 0)]) rfl (fun _ => rfl) ?_
      refine pw_lst E (pc' := 27) (ls' := [some (.ref 141), some (pw_i wt), some (.long (Int64.ofInt 0)), none, some (.long (Int64.ofInt 0)), none, some (.long (Int64.ofInt 0)), none, none, none, none, none, none, none, none, none, none]) rfl rfl rfl rfl ?_
      refine pw_ld E (pc' := 28) (st' := [.long (Int64.ofInt 0)]) rfl (fun _ => rfl) ?_
      refine pw_lst E (pc' := 30) (ls' := [some (.ref 141), some (pw_i wt), some (.long (Int64.ofInt 0)), none, some (.long (Int64.ofInt 0)), none, some (.long (Int64.ofInt 0)), none, some (.long (Int64.ofInt 0)), none, none, none, none, none, none, none, none]) rfl rfl rfl rfl ?_
      refine pw_ld E (pc' := 31) (st' := [.long (Int64.ofInt 1)]) rfl (fun _ => rfl) ?_
      refine pw_lst E (pc' := 33) (ls' := [some (.ref 141), some (pw_i wt), some (.long (Int64.ofInt 0)), none, some (.long (Int64.ofInt 0)), none, some (.long (Int64.ofInt 0)), none, some (.long (Int64.ofInt 0)), none, some (.long (Int64.ofInt 1)), none, none, none, none, none, none]) rfl rfl rfl rfl ?_
      refine pw_ld E (pc' := 34) (st' := [.long (Int64.ofInt 0)]) rfl (fun _ => rfl) ?_
      refine pw_lst E (pc' := 36) (ls' := [some (.ref 141), some (pw_i wt), some (.long (Int64.ofInt 0)), none, some (.long (Int64.ofInt 0)), none, some (.long (Int64.ofInt 0)), none, some (.long (Int64.ofInt 0)), none, some (.long (Int64.ofInt 1)), none, some (.long (Int64.ofInt 0)), none, none, none, none]) rfl rfl rfl rfl ?_
      refine pw_ld E (pc' := 37) (st' := [.long (Int64.ofInt 1)]) rfl (fun _ => rfl) ?_
      refine pw_lst E (pc' := 39) (ls' := [some (.ref 141), some (pw_i wt), some (.long (Int64.ofInt 0)), none, some (.long (Int64.ofInt 0)), none, some (.long (Int64.ofInt 0)), none, some (.long (Int64.ofInt 0)), none, some (.long (Int64.ofInt 1)), none, some (.long (Int64.ofInt 0)), none, some (.long (Int64.ofInt 1)), none, none]) rfl rfl rfl rfl ?_
      refine pw_ld E (pc' := 40) (st' := [pw_i 0]) rfl (fun _ => rfl) ?_
      refine pw_ist E (pc' := 42) (ls' := [some (.ref 141), some (pw_i wt), some (.long (Int64.ofInt 0)), none, some (.long (Int64.ofInt 0)), none, some (.long (Int64.ofInt 0)), none, some (.long (Int64.ofInt 0)), none, some (.long (Int64.ofInt 1)), none, some (.long (Int64.ofInt 0)), none, some (.long (Int64.ofInt 1)), none, some (pw_i 0)]) rfl rfl rfl rfl ?_
      have L42 : ∀ (n42 : Nat) (k42_2 : Int64) (k42_4 : Int64) (k42_6 : Int64) (k42_8 : Int64) (k42_10 : Int) (k42_12 : Int64) (k42_14 : Int) (k42_16 : Int) (gh42 : pm_H), pw_I gh42 → pw_E [125, 149, 150] h gh42 → 1 ≤ k42_10 → k42_10 ≤ 576 → 1 ≤ k42_14 → k42_14 ≤ 576 → 0 ≤ k42_16 → k42_16 ≤ 44 → (44 - k42_16).toNat = n42 → pw X d gh42 286 42 [some (.ref 141), some (pw_i wt), some (.long k42_2), none, some (.long k42_4), none, some (.long k42_6), none, some (.long k42_8), none, some (.long (Int64.ofInt k42_10)), none, some (.long k42_12), none, some (.long (Int64.ofInt k42_14)), none, some (pw_i k42_16)] [] (fun h' v => pw_I h' ∧ pw_E [125, 149, 150] h h' ∧ ∃ w : Int64, v = .inl (some (.long w))) := by
        intro n42
        induction n42 using Nat.strongRecOn with
        | ind n42 ih42 =>
          intro k42_2 k42_4 k42_6 k42_8 k42_10 k42_12 k42_14 k42_16 gh42 I42 E42 k42_10a k42_10b k42_14a k42_14b k42_16a k42_16b hm42
          refine pw_ld E (pc' := 44) (st' := [pw_i k42_16]) rfl (fun _ => rfl) ?_
          refine pw_bip E (pc' := 46) rfl rfl (by decide) ?_
          refine pw_if2 E (pc' := 186) rfl (by decide) (by omega) (by omega) (by decide) (by decide) ?_ ?_
          · intro hc226
            change (44 : Int) ≤ k42_16 at hc226
            refine pw_ld E (pc' := 187) (st' := [.ref 141]) rfl (fun _ => rfl) ?_
            refine pw_ld E (pc' := 188) (st' := [.ref 141, .ref 141]) rfl (fun _ => rfl) ?_
            refine pw_getI2 I42 E (c := 125) (k := 0) (pc' := 191) rfl rfl rfl rfl rfl rfl (fun hf227a hf227b => ?_)
            refine pw_if E (pc' := 205) rfl (by decide) (by omega) (by omega) ?_ ?_
            · intro hc228
              change (0 : Int) < pw_g gh42 125 0 at hc228
              refine pw_ld E (pc' := 206) (st' := [pw_i 1, .ref 141]) rfl (fun _ => rfl) ?_
              refine pw_goto E (pc' := 210) rfl (by decide) ?_
              refine pw_putI I42 E (c := 125) (k := 0) (pc' := 213) rfl rfl rfl rfl (by omega) (by omega) (by omega) (by omega) rfl rfl ?_
              intro h229I h229E
              generalize h229w : pw_w gh42 125 0 (pw_i 1) = h229 at h229I h229E ⊢
              have h229F := E42.tr (h229E.wk (W' := [125, 149, 150]) (by first | rfl | simp))
              refine pw_ld E (pc' := 214) (st' := [.ref 141]) rfl (fun _ => rfl) ?_
              have he231 : pw_g h229 125 0 = 1 := by rw [← h229w]; exact pw_g_eq (c := 125) (k := 0) I42 rfl rfl (by omega) (by omega)
              refine pw_getI2 h229I E (c := 125) (k := 0) (pc' := 217) rfl rfl rfl rfl rfl rfl (fun hf230a hf230b => ?_)
              refine pw_if E (pc' := 222) rfl (by decide) (by omega) (by omega) ?_ ?_
              · intro hc232
                change pw_g h229 125 0 ≤ (0 : Int) at hc232
                exfalso; omega
              · intro hc233
                change ¬ (pw_g h229 125 0 ≤ (0 : Int)) at hc233
                refine pw_ld E (pc' := 221) (st' := [.long (Int64.ofInt 0)]) rfl (fun _ => rfl) ?_
                refine pw_lret E rfl ?_
                exact ⟨h229I, h229F, ⟨_, rfl⟩⟩
            · intro hc234
              change ¬ ((0 : Int) < pw_g gh42 125 0) at hc234
              refine pw_ld E (pc' := 195) (st' := [pw_i wt, .ref 141]) rfl (fun _ => rfl) ?_
              refine pw_ld E (pc' := 196) (st' := [pw_i 2, pw_i wt, .ref 141]) rfl (fun _ => rfl) ?_
              refine pw_if2 E (pc' := 209) rfl (by decide) (by omega) (by omega) (by decide) (by decide) ?_ ?_
              · intro hc235
                change wt ≤ (2 : Int) at hc235
                refine pw_ld E (pc' := 210) (st' := [pw_i 0, .ref 141]) rfl (fun _ => rfl) ?_
                refine pw_putI I42 E (c := 125) (k := 0) (pc' := 213) rfl rfl rfl rfl (by omega) (by omega) (by omega) (by omega) rfl rfl ?_
                intro h236I h236E
                generalize h236w : pw_w gh42 125 0 (pw_i 0) = h236 at h236I h236E ⊢
                have h236F := E42.tr (h236E.wk (W' := [125, 149, 150]) (by first | rfl | simp))
                refine pw_ld E (pc' := 214) (st' := [.ref 141]) rfl (fun _ => rfl) ?_
                have he238 : pw_g h236 125 0 = 0 := by rw [← h236w]; exact pw_g_eq (c := 125) (k := 0) I42 rfl rfl (by omega) (by omega)
                refine pw_getI2 h236I E (c := 125) (k := 0) (pc' := 217) rfl rfl rfl rfl rfl rfl (fun hf237a hf237b => ?_)
                refine pw_if E (pc' := 222) rfl (by decide) (by omega) (by omega) ?_ ?_
                · intro hc239
                  change pw_g h236 125 0 ≤ (0 : Int) at hc239
                  refine pw_ld E (pc' := 223) (st' := [.ref 141]) rfl (fun _ => rfl) ?_
                  refine pw_ld E (pc' := 224) (st' := [pw_i wt, .ref 141]) rfl (fun _ => rfl) ?_
                  refine pw_ld E (pc' := 225) (st' := [pw_i 5, pw_i wt, .ref 141]) rfl (fun _ => rfl) ?_
                  refine pw_if2 E (pc' := 233) rfl (by decide) (by omega) (by omega) (by decide) (by decide) ?_ ?_
                  · intro hc240
                    change (5 : Int) ≤ wt at hc240
                    exfalso; omega
                  · intro hc241
                    change ¬ ((5 : Int) ≤ wt) at hc241
                    refine pw_ld E (pc' := 230) (st' := [.long k42_8, .ref 141]) rfl (fun _ => rfl) ?_
                    refine pw_goto E (pc' := 235) rfl (by decide) ?_
                    refine pw_putL h236I E (c := 125) (k := 24) (pc' := 238) rfl rfl rfl rfl rfl rfl ?_
                    intro h242I h242E
                    generalize h242w : pw_w h236 125 24 (.long k42_8) = h242 at h242I h242E ⊢
                    have h242F := h236F.tr (h242E.wk (W' := [125, 149, 150]) (by first | rfl | simp))
                    refine pw_ld E (pc' := 239) (st' := [.ref 141]) rfl (fun _ => rfl) ?_
                    refine pw_ld E (pc' := 240) (st' := [pw_i wt, .ref 141]) rfl (fun _ => rfl) ?_
                    refine pw_ld E (pc' := 241) (st' := [pw_i 5, pw_i wt, .ref 141]) rfl (fun _ => rfl) ?_
                    refine pw_if2 E (pc' := 249) rfl (by decide) (by omega) (by omega) (by decide) (by decide) ?_ ?_
                    · intro hc243
                      change (5 : Int) ≤ wt at hc243
                      exfalso; omega
                    · intro hc244
                      change ¬ ((5 : Int) ≤ wt) at hc244
                      refine pw_ld E (pc' := 246) (st' := [.long (Int64.ofInt k42_10), .ref 141]) rfl (fun _ => rfl) ?_
                      refine pw_goto E (pc' := 251) rfl (by decide) ?_
                      refine pw_putM h242I E (c := 125) (k := 25) (pc' := 254) rfl rfl rfl rfl (by omega) (by omega) (by omega) (by omega) rfl rfl ?_
                      intro h245I h245E
                      generalize h245w : pw_w h242 125 25 (.long (Int64.ofInt k42_10)) = h245 at h245I h245E ⊢
                      have h245F := h242F.tr (h245E.wk (W' := [125, 149, 150]) (by first | rfl | simp))
                      refine pw_ld E (pc' := 255) (st' := [pw_i wt]) rfl (fun _ => rfl) ?_
                      refine pw_if E (pc' := 262) rfl (by decide) (by omega) (by omega) ?_ ?_
                      · intro hc246
                        change wt ≠ (0 : Int) at hc246
                        refine pw_ld E (pc' := 263) (st' := [pw_i wt]) rfl (fun _ => rfl) ?_
                        refine pw_ld E (pc' := 264) (st' := [pw_i 1, pw_i wt]) rfl (fun _ => rfl) ?_
                        refine pw_if2 E (pc' := 272) rfl (by decide) (by omega) (by omega) (by decide) (by decide) ?_ ?_
                        · intro hc247
                          change wt ≠ (1 : Int) at hc247
                          refine pw_ld E (pc' := 273) (st' := [pw_i wt]) rfl (fun _ => rfl) ?_
                          refine pw_ld E (pc' := 274) (st' := [pw_i 2, pw_i wt]) rfl (fun _ => rfl) ?_
                          refine pw_if2 E (pc' := 282) rfl (by decide) (by omega) (by omega) (by decide) (by decide) ?_ ?_
                          · intro hc248
                            change wt ≠ (2 : Int) at hc248
                            refine pw_ld E (pc' := 283) (st' := [.ref 141]) rfl (fun _ => rfl) ?_
                            refine pw_ld E (pc' := 284) (st' := [pw_i wt, .ref 141]) rfl (fun _ => rfl) ?_
                            refine pw_ld E (pc' := 285) (st' := [pw_i 2, pw_i wt, .ref 141]) rfl (fun _ => rfl) ?_
                            refine pw_divA E (pc' := 286) rfl rfl rfl (by omega) (by omega) (by omega) ?_
                            intro x249 hx249a hx249b
                            refine pw_ld E (pc' := 287) (st' := [pw_i 1, pw_i x249, .ref 141]) rfl (fun _ => rfl) ?_
                            refine pw_if2 E (pc' := 294) rfl (by decide) (by omega) (by omega) (by decide) (by decide) ?_ ?_
                            · intro hc250
                              change x249 ≠ (1 : Int) at hc250
                              refine pw_ld E (pc' := 295) (st' := [pw_i 1, .ref 141]) rfl (fun _ => rfl) ?_
                              have he251 : pw_gm h245 125 25 = k42_10 := by rw [← h245w]; exact pw_gm_eq (c := 125) (k := 25) h242I rfl rfl (by omega) (by omega)
                              obtain ⟨f252l, f252h, -⟩ := pw_obj (c := 125) h245I rfl
                              refine pw_call (m' := 222) (As := [.ref 141, pw_i 1]) (rest := []) (ls'' := [some (.ref 141), some (pw_i 1), none, none]) (Nat.le_trans (by decide) hd) E rfl (fun _ => pw_iV rfl rfl rfl rfl (pw_cellI f252h rfl)) (rfl : pm_ent 222 = some (2, 4, 12, 2, pmc_222)) rfl rfl (cm_222 (pw_dp hd (by decide)) h245I (1) (by omega) (by omega) (by omega)) ?_
                              rintro u254 v253 ⟨rfl, w255, rfl⟩
                              refine ⟨_, rfl, ?_⟩
                              show pw X d h245 286 298 [some (.ref 141), some (pw_i wt), some (.long k42_2), none, some (.long k42_4), none, some (.long k42_6), none, some (.long k42_8), none, some (.long (Int64.ofInt k42_10)), none, some (.long k42_12), none, some (.long (Int64.ofInt k42_14)), none, some (pw_i k42_16)] [.long w255] _
                              refine pw_lret E rfl ?_
                              exact ⟨h245I, h245F, ⟨_, rfl⟩⟩
                            · intro hc256
                              change ¬ (x249 ≠ (1 : Int)) at hc256
                              refine pw_ld E (pc' := 291) (st' := [pw_i 0, .ref 141]) rfl (fun _ => rfl) ?_
                              refine pw_goto E (pc' := 295) rfl (by decide) ?_
                              have he257 : pw_gm h245 125 25 = k42_10 := by rw [← h245w]; exact pw_gm_eq (c := 125) (k := 25) h242I rfl rfl (by omega) (by omega)
                              obtain ⟨f258l, f258h, -⟩ := pw_obj (c := 125) h245I rfl
                              refine pw_call (m' := 222) (As := [.ref 141, pw_i 0]) (rest := []) (ls'' := [some (.ref 141), some (pw_i 0), none, none]) (Nat.le_trans (by decide) hd) E rfl (fun _ => pw_iV rfl rfl rfl rfl (pw_cellI f258h rfl)) (rfl : pm_ent 222 = some (2, 4, 12, 2, pmc_222)) rfl rfl (cm_222 (pw_dp hd (by decide)) h245I (0) (by omega) (by omega) (by omega)) ?_
                              rintro u260 v259 ⟨rfl, w261, rfl⟩
                              refine ⟨_, rfl, ?_⟩
                              show pw X d h245 286 298 [some (.ref 141), some (pw_i wt), some (.long k42_2), none, some (.long k42_4), none, some (.long k42_6), none, some (.long k42_8), none, some (.long (Int64.ofInt k42_10)), none, some (.long k42_12), none, some (.long (Int64.ofInt k42_14)), none, some (pw_i k42_16)] [.long w261] _
                              refine pw_lret E rfl ?_
                              exact ⟨h245I, h245F, ⟨_, rfl⟩⟩
                          · intro hc262
                            change ¬ (wt ≠ (2 : Int)) at hc262
                            refine pw_ld E (pc' := 279) (st' := [.long k42_6]) rfl (fun _ => rfl) ?_
                            refine pw_goto E (pc' := 298) rfl (by decide) ?_
                            refine pw_lret E rfl ?_
                            exact ⟨h245I, h245F, ⟨_, rfl⟩⟩
                        · intro hc263
                          change ¬ (wt ≠ (1 : Int)) at hc263
                          refine pw_ld E (pc' := 269) (st' := [.long k42_4]) rfl (fun _ => rfl) ?_
                          refine pw_goto E (pc' := 298) rfl (by decide) ?_
                          refine pw_lret E rfl ?_
                          exact ⟨h245I, h245F, ⟨_, rfl⟩⟩
                      · intro hc264
                        change ¬ (wt ≠ (0 : Int)) at hc264
                        refine pw_ld E (pc' := 259) (st' := [.long k42_2]) rfl (fun _ => rfl) ?_
                        refine pw_goto E (pc' := 298) rfl (by decide) ?_
                        refine pw_lret E rfl ?_
                        exact ⟨h245I, h245F, ⟨_, rfl⟩⟩
                · intro hc265
                  change ¬ (pw_g h236 125 0 ≤ (0 : Int)) at hc265
                  exfalso; omega
              · intro hc266
                change ¬ (wt ≤ (2 : Int)) at hc266
                refine pw_ld E (pc' := 200) (st' := [.long k42_2, .ref 141]) rfl (fun _ => rfl) ?_
                refine pw_ld E (pc' := 201) (st' := [.long (Int64.ofInt 0), .long k42_2, .ref 141]) rfl (fun _ => rfl) ?_
                refine pw_lcmp E (pc' := 202) rfl rfl (fun c267 hc267 => ?_)
                refine pw_if E (pc' := 209) rfl (by decide) (by omega) (by omega) ?_ ?_
                · intro hc268
                  change c267 ≠ (0 : Int) at hc268
                  refine pw_ld E (pc' := 210) (st' := [pw_i 0, .ref 141]) rfl (fun _ => rfl) ?_
                  refine pw_putI I42 E (c := 125) (k := 0) (pc' := 213) rfl rfl rfl rfl (by omega) (by omega) (by omega) (by omega) rfl rfl ?_
                  intro h269I h269E
                  generalize h269w : pw_w gh42 125 0 (pw_i 0) = h269 at h269I h269E ⊢
                  have h269F := E42.tr (h269E.wk (W' := [125, 149, 150]) (by first | rfl | simp))
                  refine pw_ld E (pc' := 214) (st' := [.ref 141]) rfl (fun _ => rfl) ?_
                  have he271 : pw_g h269 125 0 = 0 := by rw [← h269w]; exact pw_g_eq (c := 125) (k := 0) I42 rfl rfl (by omega) (by omega)
                  refine pw_getI2 h269I E (c := 125) (k := 0) (pc' := 217) rfl rfl rfl rfl rfl rfl (fun hf270a hf270b => ?_)
                  refine pw_if E (pc' := 222) rfl (by decide) (by omega) (by omega) ?_ ?_
                  · intro hc272
                    change pw_g h269 125 0 ≤ (0 : Int) at hc272
                    refine pw_ld E (pc' := 223) (st' := [.ref 141]) rfl (fun _ => rfl) ?_
                    refine pw_ld E (pc' := 224) (st' := [pw_i wt, .ref 141]) rfl (fun _ => rfl) ?_
                    refine pw_ld E (pc' := 225) (st' := [pw_i 5, pw_i wt, .ref 141]) rfl (fun _ => rfl) ?_
                    refine pw_if2 E (pc' := 233) rfl (by decide) (by omega) (by omega) (by decide) (by decide) ?_ ?_
                    · intro hc273
                      change (5 : Int) ≤ wt at hc273
                      refine pw_ld E (pc' := 235) (st' := [.long k42_12, .ref 141]) rfl (fun _ => rfl) ?_
                      refine pw_putL h269I E (c := 125) (k := 24) (pc' := 238) rfl rfl rfl rfl rfl rfl ?_
                      intro h274I h274E
                      generalize h274w : pw_w h269 125 24 (.long k42_12) = h274 at h274I h274E ⊢
                      have h274F := h269F.tr (h274E.wk (W' := [125, 149, 150]) (by first | rfl | simp))
                      refine pw_ld E (pc' := 239) (st' := [.ref 141]) rfl (fun _ => rfl) ?_
                      refine pw_ld E (pc' := 240) (st' := [pw_i wt, .ref 141]) rfl (fun _ => rfl) ?_
                      refine pw_ld E (pc' := 241) (st' := [pw_i 5, pw_i wt, .ref 141]) rfl (fun _ => rfl) ?_
                      refine pw_if2 E (pc' := 249) rfl (by decide) (by omega) (by omega) (by decide) (by decide) ?_ ?_
                      · intro hc275
                        change (5 : Int) ≤ wt at hc275
                        refine pw_ld E (pc' := 251) (st' := [.long (Int64.ofInt k42_14), .ref 141]) rfl (fun _ => rfl) ?_
                        refine pw_putM h274I E (c := 125) (k := 25) (pc' := 254) rfl rfl rfl rfl (by omega) (by omega) (by omega) (by omega) rfl rfl ?_
                        intro h276I h276E
                        generalize h276w : pw_w h274 125 25 (.long (Int64.ofInt k42_14)) = h276 at h276I h276E ⊢
                        have h276F := h274F.tr (h276E.wk (W' := [125, 149, 150]) (by first | rfl | simp))
                        refine pw_ld E (pc' := 255) (st' := [pw_i wt]) rfl (fun _ => rfl) ?_
                        refine pw_if E (pc' := 262) rfl (by decide) (by omega) (by omega) ?_ ?_
                        · intro hc277
                          change wt ≠ (0 : Int) at hc277
                          refine pw_ld E (pc' := 263) (st' := [pw_i wt]) rfl (fun _ => rfl) ?_
                          refine pw_ld E (pc' := 264) (st' := [pw_i 1, pw_i wt]) rfl (fun _ => rfl) ?_
                          refine pw_if2 E (pc' := 272) rfl (by decide) (by omega) (by omega) (by decide) (by decide) ?_ ?_
                          · intro hc278
                            change wt ≠ (1 : Int) at hc278
                            refine pw_ld E (pc' := 273) (st' := [pw_i wt]) rfl (fun _ => rfl) ?_
                            refine pw_ld E (pc' := 274) (st' := [pw_i 2, pw_i wt]) rfl (fun _ => rfl) ?_
                            refine pw_if2 E (pc' := 282) rfl (by decide) (by omega) (by omega) (by decide) (by decide) ?_ ?_
                            · intro hc279
                              change wt ≠ (2 : Int) at hc279
                              refine pw_ld E (pc' := 283) (st' := [.ref 141]) rfl (fun _ => rfl) ?_
                              refine pw_ld E (pc' := 284) (st' := [pw_i wt, .ref 141]) rfl (fun _ => rfl) ?_
                              refine pw_ld E (pc' := 285) (st' := [pw_i 2, pw_i wt, .ref 141]) rfl (fun _ => rfl) ?_
                              refine pw_rem E (pc' := 286) rfl rfl (by omega) (by omega) (by decide) (by decide) ?_
                              refine pw_ld E (pc' := 287) (st' := [pw_i 1, pw_i (wt % 2), .ref 141]) rfl (fun _ => rfl) ?_
                              refine pw_if2 E (pc' := 294) rfl (by decide) (by omega) (by omega) (by decide) (by decide) ?_ ?_
                              · intro hc280
                                change wt % 2 ≠ (1 : Int) at hc280
                                refine pw_ld E (pc' := 295) (st' := [pw_i 1, .ref 141]) rfl (fun _ => rfl) ?_
                                have he281 : pw_gm h276 125 25 = k42_14 := by rw [← h276w]; exact pw_gm_eq (c := 125) (k := 25) h274I rfl rfl (by omega) (by omega)
                                obtain ⟨f282l, f282h, -⟩ := pw_obj (c := 125) h276I rfl
                                refine pw_call (m' := 222) (As := [.ref 141, pw_i 1]) (rest := []) (ls'' := [some (.ref 141), some (pw_i 1), none, none]) (Nat.le_trans (by decide) hd) E rfl (fun _ => pw_iV rfl rfl rfl rfl (pw_cellI f282h rfl)) (rfl : pm_ent 222 = some (2, 4, 12, 2, pmc_222)) rfl rfl (cm_222 (pw_dp hd (by decide)) h276I (1) (by omega) (by omega) (by omega)) ?_
                                rintro u284 v283 ⟨rfl, w285, rfl⟩
                                refine ⟨_, rfl, ?_⟩
                                show pw X d h276 286 298 [some (.ref 141), some (pw_i wt), some (.long k42_2), none, some (.long k42_4), none, some (.long k42_6), none, some (.long k42_8), none, some (.long (Int64.ofInt k42_10)), none, some (.long k42_12), none, some (.long (Int64.ofInt k42_14)), none, some (pw_i k42_16)] [.long w285] _
                                refine pw_lret E rfl ?_
                                exact ⟨h276I, h276F, ⟨_, rfl⟩⟩
                              · intro hc286
                                change ¬ (wt % 2 ≠ (1 : Int)) at hc286
                                refine pw_ld E (pc' := 291) (st' := [pw_i 0, .ref 141]) rfl (fun _ => rfl) ?_
                                refine pw_goto E (pc' := 295) rfl (by decide) ?_
                                have he287 : pw_gm h276 125 25 = k42_14 := by rw [← h276w]; exact pw_gm_eq (c := 125) (k := 25) h274I rfl rfl (by omega) (by omega)
                                obtain ⟨f288l, f288h, -⟩ := pw_obj (c := 125) h276I rfl
                                refine pw_call (m' := 222) (As := [.ref 141, pw_i 0]) (rest := []) (ls'' := [some (.ref 141), some (pw_i 0), none, none]) (Nat.le_trans (by decide) hd) E rfl (fun _ => pw_iV rfl rfl rfl rfl (pw_cellI f288h rfl)) (rfl : pm_ent 222 = some (2, 4, 12, 2, pmc_222)) rfl rfl (cm_222 (pw_dp hd (by decide)) h276I (0) (by omega) (by omega) (by omega)) ?_
                                rintro u290 v289 ⟨rfl, w291, rfl⟩
                                refine ⟨_, rfl, ?_⟩
                                show pw X d h276 286 298 [some (.ref 141), some (pw_i wt), some (.long k42_2), none, some (.long k42_4), none, some (.long k42_6), none, some (.long k42_8), none, some (.long (Int64.ofInt k42_10)), none, some (.long k42_12), none, some (.long (Int64.ofInt k42_14)), none, some (pw_i k42_16)] [.long w291] _
                                refine pw_lret E rfl ?_
                                exact ⟨h276I, h276F, ⟨_, rfl⟩⟩
                            · intro hc292
                              change ¬ (wt ≠ (2 : Int)) at hc292
                              exfalso; omega
                          · intro hc293
                            change ¬ (wt ≠ (1 : Int)) at hc293
                            exfalso; omega
                        · intro hc294
                          change ¬ (wt ≠ (0 : Int)) at hc294
                          exfalso; omega
                      · intro hc295
                        change ¬ ((5 : Int) ≤ wt) at hc295
                        exfalso; omega
                    · intro hc296
                      change ¬ ((5 : Int) ≤ wt) at hc296
                      refine pw_ld E (pc' := 230) (st' := [.long k42_8, .ref 141]) rfl (fun _ => rfl) ?_
                      refine pw_goto E (pc' := 235) rfl (by decide) ?_
                      refine pw_putL h269I E (c := 125) (k := 24) (pc' := 238) rfl rfl rfl rfl rfl rfl ?_
                      intro h297I h297E
                      generalize h297w : pw_w h269 125 24 (.long k42_8) = h297 at h297I h297E ⊢
                      have h297F := h269F.tr (h297E.wk (W' := [125, 149, 150]) (by first | rfl | simp))
                      refine pw_ld E (pc' := 239) (st' := [.ref 141]) rfl (fun _ => rfl) ?_
                      refine pw_ld E (pc' := 240) (st' := [pw_i wt, .ref 141]) rfl (fun _ => rfl) ?_
                      refine pw_ld E (pc' := 241) (st' := [pw_i 5, pw_i wt, .ref 141]) rfl (fun _ => rfl) ?_
                      refine pw_if2 E (pc' := 249) rfl (by decide) (by omega) (by omega) (by decide) (by decide) ?_ ?_
                      · intro hc298
                        change (5 : Int) ≤ wt at hc298
                        exfalso; omega
                      · intro hc299
                        change ¬ ((5 : Int) ≤ wt) at hc299
                        refine pw_ld E (pc' := 246) (st' := [.long (Int64.ofInt k42_10), .ref 141]) rfl (fun _ => rfl) ?_
                        refine pw_goto E (pc' := 251) rfl (by decide) ?_
                        refine pw_putM h297I E (c := 125) (k := 25) (pc' := 254) rfl rfl rfl rfl (by omega) (by omega) (by omega) (by omega) rfl rfl ?_
                        intro h300I h300E
                        generalize h300w : pw_w h297 125 25 (.long (Int64.ofInt k42_10)) = h300 at h300I h300E ⊢
                        have h300F := h297F.tr (h300E.wk (W' := [125, 149, 150]) (by first | rfl | simp))
                        refine pw_ld E (pc' := 255) (st' := [pw_i wt]) rfl (fun _ => rfl) ?_
                        refine pw_if E (pc' := 262) rfl (by decide) (by omega) (by omega) ?_ ?_
                        · intro hc301
                          change wt ≠ (0 : Int) at hc301
                          refine pw_ld E (pc' := 263) (st' := [pw_i wt]) rfl (fun _ => rfl) ?_
                          refine pw_ld E (pc' := 264) (st' := [pw_i 1, pw_i wt]) rfl (fun _ => rfl) ?_
                          refine pw_if2 E (pc' := 272) rfl (by decide) (by omega) (by omega) (by decide) (by decide) ?_ ?_
                          · intro hc302
                            change wt ≠ (1 : Int) at hc302
                            refine pw_ld E (pc' := 273) (st' := [pw_i wt]) rfl (fun _ => rfl) ?_
                            refine pw_ld E (pc' := 274) (st' := [pw_i 2, pw_i wt]) rfl (fun _ => rfl) ?_
                            refine pw_if2 E (pc' := 282) rfl (by decide) (by omega) (by omega) (by decide) (by decide) ?_ ?_
                            · intro hc303
                              change wt ≠ (2 : Int) at hc303
                              refine pw_ld E (pc' := 283) (st' := [.ref 141]) rfl (fun _ => rfl) ?_
                              refine pw_ld E (pc' := 284) (st' := [pw_i wt, .ref 141]) rfl (fun _ => rfl) ?_
                              refine pw_ld E (pc' := 285) (st' := [pw_i 2, pw_i wt, .ref 141]) rfl (fun _ => rfl) ?_
                              refine pw_rem E (pc' := 286) rfl rfl (by omega) (by omega) (by decide) (by decide) ?_
                              refine pw_ld E (pc' := 287) (st' := [pw_i 1, pw_i (wt % 2), .ref 141]) rfl (fun _ => rfl) ?_
                              refine pw_if2 E (pc' := 294) rfl (by decide) (by omega) (by omega) (by decide) (by decide) ?_ ?_
                              · intro hc304
                                change wt % 2 ≠ (1 : Int) at hc304
                                refine pw_ld E (pc' := 295) (st' := [pw_i 1, .ref 141]) rfl (fun _ => rfl) ?_
                                have he305 : pw_gm h300 125 25 = k42_10 := by rw [← h300w]; exact pw_gm_eq (c := 125) (k := 25) h297I rfl rfl (by omega) (by omega)
                                obtain ⟨f306l, f306h, -⟩ := pw_obj (c := 125) h300I rfl
                                refine pw_call (m' := 222) (As := [.ref 141, pw_i 1]) (rest := []) (ls'' := [some (.ref 141), some (pw_i 1), none, none]) (Nat.le_trans (by decide) hd) E rfl (fun _ => pw_iV rfl rfl rfl rfl (pw_cellI f306h rfl)) (rfl : pm_ent 222 = some (2, 4, 12, 2, pmc_222)) rfl rfl (cm_222 (pw_dp hd (by decide)) h300I (1) (by omega) (by omega) (by omega)) ?_
                                rintro u308 v307 ⟨rfl, w309, rfl⟩
                                refine ⟨_, rfl, ?_⟩
                                show pw X d h300 286 298 [some (.ref 141), some (pw_i wt), some (.long k42_2), none, some (.long k42_4), none, some (.long k42_6), none, some (.long k42_8), none, some (.long (Int64.ofInt k42_10)), none, some (.long k42_12), none, some (.long (Int64.ofInt k42_14)), none, some (pw_i k42_16)] [.long w309] _
                                refine pw_lret E rfl ?_
                                exact ⟨h300I, h300F, ⟨_, rfl⟩⟩
                              · intro hc310
                                change ¬ (wt % 2 ≠ (1 : Int)) at hc310
                                refine pw_ld E (pc' := 291) (st' := [pw_i 0, .ref 141]) rfl (fun _ => rfl) ?_
                                refine pw_goto E (pc' := 295) rfl (by decide) ?_
                                have he311 : pw_gm h300 125 25 = k42_10 := by rw [← h300w]; exact pw_gm_eq (c := 125) (k := 25) h297I rfl rfl (by omega) (by omega)
                                obtain ⟨f312l, f312h, -⟩ := pw_obj (c := 125) h300I rfl
                                refine pw_call (m' := 222) (As := [.ref 141, pw_i 0]) (rest := []) (ls'' := [some (.ref 141), some (pw_i 0), none, none]) (Nat.le_trans (by decide) hd) E rfl (fun _ => pw_iV rfl rfl rfl rfl (pw_cellI f312h rfl)) (rfl : pm_ent 222 = some (2, 4, 12, 2, pmc_222)) rfl rfl (cm_222 (pw_dp hd (by decide)) h300I (0) (by omega) (by omega) (by omega)) ?_
                                rintro u314 v313 ⟨rfl, w315, rfl⟩
                                refine ⟨_, rfl, ?_⟩
                                show pw X d h300 286 298 [some (.ref 141), some (pw_i wt), some (.long k42_2), none, some (.long k42_4), none, some (.long k42_6), none, some (.long k42_8), none, some (.long (Int64.ofInt k42_10)), none, some (.long k42_12), none, some (.long (Int64.ofInt k42_14)), none, some (pw_i k42_16)] [.long w315] _
                                refine pw_lret E rfl ?_
                                exact ⟨h300I, h300F, ⟨_, rfl⟩⟩
                            · intro hc316
                              change ¬ (wt ≠ (2 : Int)) at hc316
                              exfalso; omega
                          · intro hc317
                            change ¬ (wt ≠ (1 : Int)) at hc317
                            exfalso; omega
                        · intro hc318
                          change ¬ (wt ≠ (0 : Int)) at hc318
                          exfalso; omega
                  · intro hc319
                    change ¬ (pw_g h269 125 0 ≤ (0 : Int)) at hc319
                    exfalso; omega
                · intro hc320
                  change ¬ (c267 ≠ (0 : Int)) at hc320
                  refine pw_ld E (pc' := 206) (st' := [pw_i 1, .ref 141]) rfl (fun _ => rfl) ?_
                  refine pw_goto E (pc' := 210) rfl (by decide) ?_
                  refine pw_putI I42 E (c := 125) (k := 0) (pc' := 213) rfl rfl rfl rfl (by omega) (by omega) (by omega) (by omega) rfl rfl ?_
                  intro h321I h321E
                  generalize h321w : pw_w gh42 125 0 (pw_i 1) = h321 at h321I h321E ⊢
                  have h321F := E42.tr (h321E.wk (W' := [125, 149, 150]) (by first | rfl | simp))
                  refine pw_ld E (pc' := 214) (st' := [.ref 141]) rfl (fun _ => rfl) ?_
                  have he323 : pw_g h321 125 0 = 1 := by rw [← h321w]; exact pw_g_eq (c := 125) (k := 0) I42 rfl rfl (by omega) (by omega)
                  refine pw_getI2 h321I E (c := 125) (k := 0) (pc' := 217) rfl rfl rfl rfl rfl rfl (fun hf322a hf322b => ?_)
                  refine pw_if E (pc' := 222) rfl (by decide) (by omega) (by omega) ?_ ?_
                  · intro hc324
                    change pw_g h321 125 0 ≤ (0 : Int) at hc324
                    exfalso; omega
                  · intro hc325
                    change ¬ (pw_g h321 125 0 ≤ (0 : Int)) at hc325
                    refine pw_ld E (pc' := 221) (st' := [.long (Int64.ofInt 0)]) rfl (fun _ => rfl) ?_
                    refine pw_lret E rfl ?_
                    exact ⟨h321I, h321F, ⟨_, rfl⟩⟩
          · intro hc326
            change ¬ ((44 : Int) ≤ k42_16) at hc326
            refine pw_ld E (pc' := 50) (st' := [.ref 141]) rfl (fun _ => rfl) ?_
            refine pw_ld E (pc' := 52) (st' := [pw_i k42_16, .ref 141]) rfl (fun _ => rfl) ?_
            refine pw_bip E (pc' := 54) rfl rfl (by decide) ?_
            refine pw_div E (pc' := 55) rfl rfl (by omega) (by omega) (by decide) (by decide) ?_
            refine pw_ld E (pc' := 57) (st' := [pw_i k42_16, pw_i (k42_16 / 11), .ref 141]) rfl (fun _ => rfl) ?_
            refine pw_bip E (pc' := 59) rfl rfl (by decide) ?_
            refine pw_rem E (pc' := 60) rfl rfl (by omega) (by omega) (by decide) (by decide) ?_
            obtain ⟨f327l, f327h, -⟩ := pw_obj (c := 125) I42 rfl
            refine pw_call (m' := 285) (As := [.ref 141, pw_i (k42_16 / 11), pw_i (k42_16 % 11)]) (rest := []) (ls'' := [some (.ref 141), some (pw_i (k42_16 / 11)), some (pw_i (k42_16 % 11)), none, none, none]) (Nat.le_trans (by decide) hd) E rfl (fun _ => pw_iV rfl rfl rfl rfl (pw_cellI f327h rfl)) (rfl : pm_ent 285 = some (3, 6, 12, 1, pmc_285)) rfl rfl (cm_285 (pw_dp hd (by decide)) I42 (k42_16 / 11) (by omega) (by omega) (k42_16 % 11) (by omega) (by omega) (pw_KE I E42 hp0 rfl)) ?_
            rintro h328 v329 ⟨h328I, h328E, x330, rfl, hx330a, hx330b, hx330r⟩
            refine ⟨_, rfl, ?_⟩
            have h328F := E42.tr (h328E.wk (W' := [125, 149, 150]) (by first | rfl | simp))
            show pw X d h328 286 63 [some (.ref 141), some (pw_i wt), some (.long k42_2), none, some (.long k42_4), none, some (.long k42_6), none, some (.long k42_8), none, some (.long (Int64.ofInt k42_10)), none, some (.long k42_12), none, some (.long (Int64.ofInt k42_14)), none, some (pw_i k42_16)] [pw_i x330] _
            change (x330 = 1 ∧ 1 ≤ pw_gm h328 125 25 ∧ pw_gm h328 125 25 ≤ 576) ∨ x330 = 0 at hx330r
            rcases (by omega : x330 = 1 ∨ x330 = 0) with hb331 | hb331
            · skip
              refine pw_if E (pc' := 180) rfl (by decide) (by omega) (by omega) ?_ ?_
              · intro hc332
                change x330 = (0 : Int) at hc332
                exfalso; omega
              · intro hc333
                change ¬ (x330 = (0 : Int)) at hc333
                refine pw_ld E (pc' := 67) (st' := [.long k42_2]) rfl (fun _ => rfl) ?_
                refine pw_ld E (pc' := 68) (st' := [.long (Int64.ofInt 0), .long k42_2]) rfl (fun _ => rfl) ?_
                refine pw_lcmp E (pc' := 69) rfl rfl (fun c334 hc334 => ?_)
                refine pw_if E (pc' := 90) rfl (by decide) (by omega) (by omega) ?_ ?_
                · intro hc335
                  change c334 = (0 : Int) at hc335
                  refine pw_ld E (pc' := 91) (st' := [.ref 141]) rfl (fun _ => rfl) ?_
                  refine pw_getL h328I E (c := 125) (k := 24) (pc' := 94) rfl rfl rfl rfl rfl rfl ?_
                  refine pw_lst E (pc' := 96) (ls' := [some (.ref 141), some (pw_i wt), some (.long k42_2), none, some (.long k42_4), none, some (.long k42_6), none, some (.long (pw_gl h328 125 24)), none, some (.long (Int64.ofInt k42_10)), none, some (.long k42_12), none, some (.long (Int64.ofInt k42_14)), none, some (pw_i k42_16)]) rfl rfl rfl rfl ?_
                  refine pw_ld E (pc' := 97) (st' := [.ref 141]) rfl (fun _ => rfl) ?_
                  refine pw_getM h328I E (c := 125) (k := 25) (pc' := 100) rfl rfl rfl rfl rfl rfl (fun hf336a hf336b => ?_)
                  refine pw_lst E (pc' := 102) (ls' := [some (.ref 141), some (pw_i wt), some (.long k42_2), none, some (.long k42_4), none, some (.long k42_6), none, some (.long (pw_gl h328 125 24)), none, some (.long (Int64.ofInt (pw_gm h328 125 25))), none, some (.long k42_12), none, some (.long (Int64.ofInt k42_14)), none, some (pw_i k42_16)]) rfl rfl rfl rfl ?_
                  refine pw_ld E (pc' := 103) (st' := [.long k42_2]) rfl (fun _ => rfl) ?_
                  refine pw_ld E (pc' := 104) (st' := [.long (Int64.ofInt 0), .long k42_2]) rfl (fun _ => rfl) ?_
                  refine pw_lcmp E (pc' := 105) rfl rfl (fun c337 hc337 => ?_)
                  refine pw_if E (pc' := 126) rfl (by decide) (by omega) (by omega) ?_ ?_
                  · intro hc338
                    change c337 = (0 : Int) at hc338
                    refine pw_ld E (pc' := 127) (st' := [.ref 141]) rfl (fun _ => rfl) ?_
                    refine pw_getL h328I E (c := 125) (k := 24) (pc' := 130) rfl rfl rfl rfl rfl rfl ?_
                    refine pw_lst E (pc' := 132) (ls' := [some (.ref 141), some (pw_i wt), some (.long k42_2), none, some (.long k42_4), none, some (.long k42_6), none, some (.long (pw_gl h328 125 24)), none, some (.long (Int64.ofInt (pw_gm h328 125 25))), none, some (.long (pw_gl h328 125 24)), none, some (.long (Int64.ofInt k42_14)), none, some (pw_i k42_16)]) rfl rfl rfl rfl ?_
                    refine pw_ld E (pc' := 133) (st' := [.ref 141]) rfl (fun _ => rfl) ?_
                    refine pw_getM h328I E (c := 125) (k := 25) (pc' := 136) rfl rfl rfl rfl rfl rfl (fun hf339a hf339b => ?_)
                    refine pw_lst E (pc' := 138) (ls' := [some (.ref 141), some (pw_i wt), some (.long k42_2), none, some (.long k42_4), none, some (.long k42_6), none, some (.long (pw_gl h328 125 24)), none, some (.long (Int64.ofInt (pw_gm h328 125 25))), none, some (.long (pw_gl h328 125 24)), none, some (.long (Int64.ofInt (pw_gm h328 125 25))), none, some (pw_i k42_16)]) rfl rfl rfl rfl ?_
                    refine pw_ld E (pc' := 139) (st' := [.long k42_2]) rfl (fun _ => rfl) ?_
                    refine pw_ld E (pc' := 140) (st' := [.long (Int64.ofInt 1), .long k42_2]) rfl (fun _ => rfl) ?_
                    refine pw_ld E (pc' := 141) (st' := [.long (k42_2 + (Int64.ofInt 1))]) rfl (fun _ => rfl) ?_
                    refine pw_lstn E (pc' := 142) (ls' := [some (.ref 141), some (pw_i wt), some (.long (k42_2 + (Int64.ofInt 1))), none, some (.long k42_4), none, some (.long k42_6), none, some (.long (pw_gl h328 125 24)), none, some (.long (Int64.ofInt (pw_gm h328 125 25))), none, some (.long (pw_gl h328 125 24)), none, some (.long (Int64.ofInt (pw_gm h328 125 25))), none, some (pw_i k42_16)]) rfl rfl rfl rfl ?_
                    refine pw_ld E (pc' := 144) (st' := [.long k42_4]) rfl (fun _ => rfl) ?_
                    refine pw_ld E (pc' := 145) (st' := [.ref 141, .long k42_4]) rfl (fun _ => rfl) ?_
                    refine pw_getL h328I E (c := 125) (k := 24) (pc' := 148) rfl rfl rfl rfl rfl rfl ?_
                    refine pw_ld E (pc' := 149) (st' := [.long (Int64.ofInt 0), .long (pw_gl h328 125 24), .long k42_4]) rfl (fun _ => rfl) ?_
                    refine pw_lcmp E (pc' := 150) rfl rfl (fun c340 hc340 => ?_)
                    refine pw_if E (pc' := 157) rfl (by decide) (by omega) (by omega) ?_ ?_
                    · intro hc341
                      change (0 : Int) ≤ c340 at hc341
                      refine pw_ld E (pc' := 158) (st' := [.long (Int64.ofInt 0), .long k42_4]) rfl (fun _ => rfl) ?_
                      refine pw_ld E (pc' := 159) (st' := [.long (k42_4 + (Int64.ofInt 0))]) rfl (fun _ => rfl) ?_
                      refine pw_lst E (pc' := 161) (ls' := [some (.ref 141), some (pw_i wt), some (.long (k42_2 + (Int64.ofInt 1))), none, some (.long (k42_4 + (Int64.ofInt 0))), none, some (.long k42_6), none, some (.long (pw_gl h328 125 24)), none, some (.long (Int64.ofInt (pw_gm h328 125 25))), none, some (.long (pw_gl h328 125 24)), none, some (.long (Int64.ofInt (pw_gm h328 125 25))), none, some (pw_i k42_16)]) rfl rfl rfl rfl ?_
                      refine pw_ld E (pc' := 163) (st' := [.long k42_6]) rfl (fun _ => rfl) ?_
                      refine pw_ld E (pc' := 164) (st' := [.ref 141, .long k42_6]) rfl (fun _ => rfl) ?_
                      refine pw_getL h328I E (c := 125) (k := 24) (pc' := 167) rfl rfl rfl rfl rfl rfl ?_
                      refine pw_ld E (pc' := 168) (st' := [.long (Int64.ofInt 0), .long (pw_gl h328 125 24), .long k42_6]) rfl (fun _ => rfl) ?_
                      refine pw_lcmp E (pc' := 169) rfl rfl (fun c342 hc342 => ?_)
                      refine pw_if E (pc' := 176) rfl (by decide) (by omega) (by omega) ?_ ?_
                      · intro hc343
                        change c342 ≤ (0 : Int) at hc343
                        refine pw_ld E (pc' := 177) (st' := [.long (Int64.ofInt 0), .long k42_6]) rfl (fun _ => rfl) ?_
                        refine pw_ld E (pc' := 178) (st' := [.long (k42_6 + (Int64.ofInt 0))]) rfl (fun _ => rfl) ?_
                        refine pw_lst E (pc' := 180) (ls' := [some (.ref 141), some (pw_i wt), some (.long (k42_2 + (Int64.ofInt 1))), none, some (.long (k42_4 + (Int64.ofInt 0))), none, some (.long (k42_6 + (Int64.ofInt 0))), none, some (.long (pw_gl h328 125 24)), none, some (.long (Int64.ofInt (pw_gm h328 125 25))), none, some (.long (pw_gl h328 125 24)), none, some (.long (Int64.ofInt (pw_gm h328 125 25))), none, some (pw_i k42_16)]) rfl rfl rfl rfl ?_
                        refine pw_inc E (pc' := 183) (ls' := [some (.ref 141), some (pw_i wt), some (.long (k42_2 + (Int64.ofInt 1))), none, some (.long (k42_4 + (Int64.ofInt 0))), none, some (.long (k42_6 + (Int64.ofInt 0))), none, some (.long (pw_gl h328 125 24)), none, some (.long (Int64.ofInt (pw_gm h328 125 25))), none, some (.long (pw_gl h328 125 24)), none, some (.long (Int64.ofInt (pw_gm h328 125 25))), none, some (pw_i (k42_16 + 1))]) rfl rfl rfl rfl ?_
                        refine pw_goto E (pc' := 42) rfl (by decide) ?_
                        exact ih42 _ (by omega) (k42_2 + (Int64.ofInt 1)) (k42_4 + (Int64.ofInt 0)) (k42_6 + (Int64.ofInt 0)) (pw_gl h328 125 24) (pw_gm h328 125 25) (pw_gl h328 125 24) (pw_gm h328 125 25) (k42_16 + 1) h328 h328I h328F (by omega) (by omega) (by omega) (by omega) (by omega) (by omega)  rfl
                      · intro hc344
                        change ¬ (c342 ≤ (0 : Int)) at hc344
                        refine pw_ld E (pc' := 173) (st' := [.long (Int64.ofInt 1), .long k42_6]) rfl (fun _ => rfl) ?_
                        refine pw_goto E (pc' := 177) rfl (by decide) ?_
                        refine pw_ld E (pc' := 178) (st' := [.long (k42_6 + (Int64.ofInt 1))]) rfl (fun _ => rfl) ?_
                        refine pw_lst E (pc' := 180) (ls' := [some (.ref 141), some (pw_i wt), some (.long (k42_2 + (Int64.ofInt 1))), none, some (.long (k42_4 + (Int64.ofInt 0))), none, some (.long (k42_6 + (Int64.ofInt 1))), none, some (.long (pw_gl h328 125 24)), none, some (.long (Int64.ofInt (pw_gm h328 125 25))), none, some (.long (pw_gl h328 125 24)), none, some (.long (Int64.ofInt (pw_gm h328 125 25))), none, some (pw_i k42_16)]) rfl rfl rfl rfl ?_
                        refine pw_inc E (pc' := 183) (ls' := [some (.ref 141), some (pw_i wt), some (.long (k42_2 + (Int64.ofInt 1))), none, some (.long (k42_4 + (Int64.ofInt 0))), none, some (.long (k42_6 + (Int64.ofInt 1))), none, some (.long (pw_gl h328 125 24)), none, some (.long (Int64.ofInt (pw_gm h328 125 25))), none, some (.long (pw_gl h328 125 24)), none, some (.long (Int64.ofInt (pw_gm h328 125 25))), none, some (pw_i (k42_16 + 1))]) rfl rfl rfl rfl ?_
                        refine pw_goto E (pc' := 42) rfl (by decide) ?_
                        exact ih42 _ (by omega) (k42_2 + (Int64.ofInt 1)) (k42_4 + (Int64.ofInt 0)) (k42_6 + (Int64.ofInt 1)) (pw_gl h328 125 24) (pw_gm h328 125 25) (pw_gl h328 125 24) (pw_gm h328 125 25) (k42_16 + 1) h328 h328I h328F (by omega) (by omega) (by omega) (by omega) (by omega) (by omega)  rfl
                    · intro hc345
                      change ¬ ((0 : Int) ≤ c340) at hc345
                      refine pw_ld E (pc' := 154) (st' := [.long (Int64.ofInt 1), .long k42_4]) rfl (fun _ => rfl) ?_
                      refine pw_goto E (pc' := 158) rfl (by decide) ?_
                      refine pw_ld E (pc' := 159) (st' := [.long (k42_4 + (Int64.ofInt 1))]) rfl (fun _ => rfl) ?_
                      refine pw_lst E (pc' := 161) (ls' := [some (.ref 141), some (pw_i wt), some (.long (k42_2 + (Int64.ofInt 1))), none, some (.long (k42_4 + (Int64.ofInt 1))), none, some (.long k42_6), none, some (.long (pw_gl h328 125 24)), none, some (.long (Int64.ofInt (pw_gm h328 125 25))), none, some (.long (pw_gl h328 125 24)), none, some (.long (Int64.ofInt (pw_gm h328 125 25))), none, some (pw_i k42_16)]) rfl rfl rfl rfl ?_
                      refine pw_ld E (pc' := 163) (st' := [.long k42_6]) rfl (fun _ => rfl) ?_
                      refine pw_ld E (pc' := 164) (st' := [.ref 141, .long k42_6]) rfl (fun _ => rfl) ?_
                      refine pw_getL h328I E (c := 125) (k := 24) (pc' := 167) rfl rfl rfl rfl rfl rfl ?_
                      refine pw_ld E (pc' := 168) (st' := [.long (Int64.ofInt 0), .long (pw_gl h328 125 24), .long k42_6]) rfl (fun _ => rfl) ?_
                      refine pw_lcmp E (pc' := 169) rfl rfl (fun c346 hc346 => ?_)
                      refine pw_if E (pc' := 176) rfl (by decide) (by omega) (by omega) ?_ ?_
                      · intro hc347
                        change c346 ≤ (0 : Int) at hc347
                        refine pw_ld E (pc' := 177) (st' := [.long (Int64.ofInt 0), .long k42_6]) rfl (fun _ => rfl) ?_
                        refine pw_ld E (pc' := 178) (st' := [.long (k42_6 + (Int64.ofInt 0))]) rfl (fun _ => rfl) ?_
                        refine pw_lst E (pc' := 180) (ls' := [some (.ref 141), some (pw_i wt), some (.long (k42_2 + (Int64.ofInt 1))), none, some (.long (k42_4 + (Int64.ofInt 1))), none, some (.long (k42_6 + (Int64.ofInt 0))), none, some (.long (pw_gl h328 125 24)), none, some (.long (Int64.ofInt (pw_gm h328 125 25))), none, some (.long (pw_gl h328 125 24)), none, some (.long (Int64.ofInt (pw_gm h328 125 25))), none, some (pw_i k42_16)]) rfl rfl rfl rfl ?_
                        refine pw_inc E (pc' := 183) (ls' := [some (.ref 141), some (pw_i wt), some (.long (k42_2 + (Int64.ofInt 1))), none, some (.long (k42_4 + (Int64.ofInt 1))), none, some (.long (k42_6 + (Int64.ofInt 0))), none, some (.long (pw_gl h328 125 24)), none, some (.long (Int64.ofInt (pw_gm h328 125 25))), none, some (.long (pw_gl h328 125 24)), none, some (.long (Int64.ofInt (pw_gm h328 125 25))), none, some (pw_i (k42_16 + 1))]) rfl rfl rfl rfl ?_
                        refine pw_goto E (pc' := 42) rfl (by decide) ?_
                        exact ih42 _ (by omega) (k42_2 + (Int64.ofInt 1)) (k42_4 + (Int64.ofInt 1)) (k42_6 + (Int64.ofInt 0)) (pw_gl h328 125 24) (pw_gm h328 125 25) (pw_gl h328 125 24) (pw_gm h328 125 25) (k42_16 + 1) h328 h328I h328F (by omega) (by omega) (by omega) (by omega) (by omega) (by omega)  rfl
                      · intro hc348
                        change ¬ (c346 ≤ (0 : Int)) at hc348
                        refine pw_ld E (pc' := 173) (st' := [.long (Int64.ofInt 1), .long k42_6]) rfl (fun _ => rfl) ?_
                        refine pw_goto E (pc' := 177) rfl (by decide) ?_
                        refine pw_ld E (pc' := 178) (st' := [.long (k42_6 + (Int64.ofInt 1))]) rfl (fun _ => rfl) ?_
                        refine pw_lst E (pc' := 180) (ls' := [some (.ref 141), some (pw_i wt), some (.long (k42_2 + (Int64.ofInt 1))), none, some (.long (k42_4 + (Int64.ofInt 1))), none, some (.long (k42_6 + (Int64.ofInt 1))), none, some (.long (pw_gl h328 125 24)), none, some (.long (Int64.ofInt (pw_gm h328 125 25))), none, some (.long (pw_gl h328 125 24)), none, some (.long (Int64.ofInt (pw_gm h328 125 25))), none, some (pw_i k42_16)]) rfl rfl rfl rfl ?_
                        refine pw_inc E (pc' := 183) (ls' := [some (.ref 141), some (pw_i wt), some (.long (k42_2 + (Int64.ofInt 1))), none, some (.long (k42_4 + (Int64.ofInt 1))), none, some (.long (k42_6 + (Int64.ofInt 1))), none, some (.long (pw_gl h328 125 24)), none, some (.long (Int64.ofInt (pw_gm h328 125 25))), none, some (.long (pw_gl h328 125 24)), none, some (.long (Int64.ofInt (pw_gm h328 125 25))), none, some (pw_i (k42_16 + 1))]) rfl rfl rfl rfl ?_
                        refine pw_goto E (pc' := 42) rfl (by decide) ?_
                        exact ih42 _ (by omega) (k42_2 + (Int64.ofInt 1)) (k42_4 + (Int64.ofInt 1)) (k42_6 + (Int64.ofInt 1)) (pw_gl h328 125 24) (pw_gm h328 125 25) (pw_gl h328 125 24) (pw_gm h328 125 25) (k42_16 + 1) h328 h328I h328F (by omega) (by omega) (by omega) (by omega) (by omega) (by omega)  rfl
                  · intro hc349
                    change ¬ (c337 = (0 : Int)) at hc349
                    refine pw_ld E (pc' := 109) (st' := [.ref 141]) rfl (fun _ => rfl) ?_
                    refine pw_getL h328I E (c := 125) (k := 24) (pc' := 112) rfl rfl rfl rfl rfl rfl ?_
                    refine pw_ld E (pc' := 114) (st' := [.long (Int64.ofInt k42_14), .long (pw_gl h328 125 24)]) rfl (fun _ => rfl) ?_
                    refine pw_ld E (pc' := 115) (st' := [.long ((pw_gl h328 125 24) * (Int64.ofInt k42_14))]) rfl (fun _ => rfl) ?_
                    refine pw_ld E (pc' := 117) (st' := [.long k42_12, .long ((pw_gl h328 125 24) * (Int64.ofInt k42_14))]) rfl (fun _ => rfl) ?_
                    refine pw_ld E (pc' := 118) (st' := [.ref 141, .long k42_12, .long ((pw_gl h328 125 24) * (Int64.ofInt k42_14))]) rfl (fun _ => rfl) ?_
                    refine pw_getM h328I E (c := 125) (k := 25) (pc' := 121) rfl rfl rfl rfl rfl rfl (fun hf350a hf350b => ?_)
                    refine pw_ld E (pc' := 122) (st' := [.long (k42_12 * (Int64.ofInt (pw_gm h328 125 25))), .long ((pw_gl h328 125 24) * (Int64.ofInt k42_14))]) rfl (fun _ => rfl) ?_
                    refine pw_lcmp E (pc' := 123) rfl rfl (fun c351 hc351 => ?_)
                    refine pw_if E (pc' := 138) rfl (by decide) (by omega) (by omega) ?_ ?_
                    · intro hc352
                      change c351 ≤ (0 : Int) at hc352
                      refine pw_ld E (pc' := 139) (st' := [.long k42_2]) rfl (fun _ => rfl) ?_
                      refine pw_ld E (pc' := 140) (st' := [.long (Int64.ofInt 1), .long k42_2]) rfl (fun _ => rfl) ?_
                      refine pw_ld E (pc' := 141) (st' := [.long (k42_2 + (Int64.ofInt 1))]) rfl (fun _ => rfl) ?_
                      refine pw_lstn E (pc' := 142) (ls' := [some (.ref 141), some (pw_i wt), some (.long (k42_2 + (Int64.ofInt 1))), none, some (.long k42_4), none, some (.long k42_6), none, some (.long (pw_gl h328 125 24)), none, some (.long (Int64.ofInt (pw_gm h328 125 25))), none, some (.long k42_12), none, some (.long (Int64.ofInt k42_14)), none, some (pw_i k42_16)]) rfl rfl rfl rfl ?_
                      refine pw_ld E (pc' := 144) (st' := [.long k42_4]) rfl (fun _ => rfl) ?_
                      refine pw_ld E (pc' := 145) (st' := [.ref 141, .long k42_4]) rfl (fun _ => rfl) ?_
                      refine pw_getL h328I E (c := 125) (k := 24) (pc' := 148) rfl rfl rfl rfl rfl rfl ?_
                      refine pw_ld E (pc' := 149) (st' := [.long (Int64.ofInt 0), .long (pw_gl h328 125 24), .long k42_4]) rfl (fun _ => rfl) ?_
                      refine pw_lcmp E (pc' := 150) rfl rfl (fun c353 hc353 => ?_)
                      refine pw_if E (pc' := 157) rfl (by decide) (by omega) (by omega) ?_ ?_
                      · intro hc354
                        change (0 : Int) ≤ c353 at hc354
                        refine pw_ld E (pc' := 158) (st' := [.long (Int64.ofInt 0), .long k42_4]) rfl (fun _ => rfl) ?_
                        refine pw_ld E (pc' := 159) (st' := [.long (k42_4 + (Int64.ofInt 0))]) rfl (fun _ => rfl) ?_
                        refine pw_lst E (pc' := 161) (ls' := [some (.ref 141), some (pw_i wt), some (.long (k42_2 + (Int64.ofInt 1))), none, some (.long (k42_4 + (Int64.ofInt 0))), none, some (.long k42_6), none, some (.long (pw_gl h328 125 24)), none, some (.long (Int64.ofInt (pw_gm h328 125 25))), none, some (.long k42_12), none, some (.long (Int64.ofInt k42_14)), none, some (pw_i k42_16)]) rfl rfl rfl rfl ?_
                        refine pw_ld E (pc' := 163) (st' := [.long k42_6]) rfl (fun _ => rfl) ?_
                        refine pw_ld E (pc' := 164) (st' := [.ref 141, .long k42_6]) rfl (fun _ => rfl) ?_
                        refine pw_getL h328I E (c := 125) (k := 24) (pc' := 167) rfl rfl rfl rfl rfl rfl ?_
                        refine pw_ld E (pc' := 168) (st' := [.long (Int64.ofInt 0), .long (pw_gl h328 125 24), .long k42_6]) rfl (fun _ => rfl) ?_
                        refine pw_lcmp E (pc' := 169) rfl rfl (fun c355 hc355 => ?_)
                        refine pw_if E (pc' := 176) rfl (by decide) (by omega) (by omega) ?_ ?_
                        · intro hc356
                          change c355 ≤ (0 : Int) at hc356
                          refine pw_ld E (pc' := 177) (st' := [.long (Int64.ofInt 0), .long k42_6]) rfl (fun _ => rfl) ?_
                          refine pw_ld E (pc' := 178) (st' := [.long (k42_6 + (Int64.ofInt 0))]) rfl (fun _ => rfl) ?_
                          refine pw_lst E (pc' := 180) (ls' := [some (.ref 141), some (pw_i wt), some (.long (k42_2 + (Int64.ofInt 1))), none, some (.long (k42_4 + (Int64.ofInt 0))), none, some (.long (k42_6 + (Int64.ofInt 0))), none, some (.long (pw_gl h328 125 24)), none, some (.long (Int64.ofInt (pw_gm h328 125 25))), none, some (.long k42_12), none, some (.long (Int64.ofInt k42_14)), none, some (pw_i k42_16)]) rfl rfl rfl rfl ?_
                          refine pw_inc E (pc' := 183) (ls' := [some (.ref 141), some (pw_i wt), some (.long (k42_2 + (Int64.ofInt 1))), none, some (.long (k42_4 + (Int64.ofInt 0))), none, some (.long (k42_6 + (Int64.ofInt 0))), none, some (.long (pw_gl h328 125 24)), none, some (.long (Int64.ofInt (pw_gm h328 125 25))), none, some (.long k42_12), none, some (.long (Int64.ofInt k42_14)), none, some (pw_i (k42_16 + 1))]) rfl rfl rfl rfl ?_
                          refine pw_goto E (pc' := 42) rfl (by decide) ?_
                          exact ih42 _ (by omega) (k42_2 + (Int64.ofInt 1)) (k42_4 + (Int64.ofInt 0)) (k42_6 + (Int64.ofInt 0)) (pw_gl h328 125 24) (pw_gm h328 125 25) (k42_12) (k42_14) (k42_16 + 1) h328 h328I h328F (by omega) (by omega) (by omega) (by omega) (by omega) (by omega)  rfl
                        · intro hc357
                          change ¬ (c355 ≤ (0 : Int)) at hc357
                          refine pw_ld E (pc' := 173) (st' := [.long (Int64.ofInt 1), .long k42_6]) rfl (fun _ => rfl) ?_
                          refine pw_goto E (pc' := 177) rfl (by decide) ?_
                          refine pw_ld E (pc' := 178) (st' := [.long (k42_6 + (Int64.ofInt 1))]) rfl (fun _ => rfl) ?_
                          refine pw_lst E (pc' := 180) (ls' := [some (.ref 141), some (pw_i wt), some (.long (k42_2 + (Int64.ofInt 1))), none, some (.long (k42_4 + (Int64.ofInt 0))), none, some (.long (k42_6 + (Int64.ofInt 1))), none, some (.long (pw_gl h328 125 24)), none, some (.long (Int64.ofInt (pw_gm h328 125 25))), none, some (.long k42_12), none, some (.long (Int64.ofInt k42_14)), none, some (pw_i k42_16)]) rfl rfl rfl rfl ?_
                          refine pw_inc E (pc' := 183) (ls' := [some (.ref 141), some (pw_i wt), some (.long (k42_2 + (Int64.ofInt 1))), none, some (.long (k42_4 + (Int64.ofInt 0))), none, some (.long (k42_6 + (Int64.ofInt 1))), none, some (.long (pw_gl h328 125 24)), none, some (.long (Int64.ofInt (pw_gm h328 125 25))), none, some (.long k42_12), none, some (.long (Int64.ofInt k42_14)), none, some (pw_i (k42_16 + 1))]) rfl rfl rfl rfl ?_
                          refine pw_goto E (pc' := 42) rfl (by decide) ?_
                          exact ih42 _ (by omega) (k42_2 + (Int64.ofInt 1)) (k42_4 + (Int64.ofInt 0)) (k42_6 + (Int64.ofInt 1)) (pw_gl h328 125 24) (pw_gm h328 125 25) (k42_12) (k42_14) (k42_16 + 1) h328 h328I h328F (by omega) (by omega) (by omega) (by omega) (by omega) (by omega)  rfl
                      · intro hc358
                        change ¬ ((0 : Int) ≤ c353) at hc358
                        refine pw_ld E (pc' := 154) (st' := [.long (Int64.ofInt 1), .long k42_4]) rfl (fun _ => rfl) ?_
                        refine pw_goto E (pc' := 158) rfl (by decide) ?_
                        refine pw_ld E (pc' := 159) (st' := [.long (k42_4 + (Int64.ofInt 1))]) rfl (fun _ => rfl) ?_
                        refine pw_lst E (pc' := 161) (ls' := [some (.ref 141), some (pw_i wt), some (.long (k42_2 + (Int64.ofInt 1))), none, some (.long (k42_4 + (Int64.ofInt 1))), none, some (.long k42_6), none, some (.long (pw_gl h328 125 24)), none, some (.long (Int64.ofInt (pw_gm h328 125 25))), none, some (.long k42_12), none, some (.long (Int64.ofInt k42_14)), none, some (pw_i k42_16)]) rfl rfl rfl rfl ?_
                        refine pw_ld E (pc' := 163) (st' := [.long k42_6]) rfl (fun _ => rfl) ?_
                        refine pw_ld E (pc' := 164) (st' := [.ref 141, .long k42_6]) rfl (fun _ => rfl) ?_
                        refine pw_getL h328I E (c := 125) (k := 24) (pc' := 167) rfl rfl rfl rfl rfl rfl ?_
                        refine pw_ld E (pc' := 168) (st' := [.long (Int64.ofInt 0), .long (pw_gl h328 125 24), .long k42_6]) rfl (fun _ => rfl) ?_
                        refine pw_lcmp E (pc' := 169) rfl rfl (fun c359 hc359 => ?_)
                        refine pw_if E (pc' := 176) rfl (by decide) (by omega) (by omega) ?_ ?_
                        · intro hc360
                          change c359 ≤ (0 : Int) at hc360
                          refine pw_ld E (pc' := 177) (st' := [.long (Int64.ofInt 0), .long k42_6]) rfl (fun _ => rfl) ?_
                          refine pw_ld E (pc' := 178) (st' := [.long (k42_6 + (Int64.ofInt 0))]) rfl (fun _ => rfl) ?_
                          refine pw_lst E (pc' := 180) (ls' := [some (.ref 141), some (pw_i wt), some (.long (k42_2 + (Int64.ofInt 1))), none, some (.long (k42_4 + (Int64.ofInt 1))), none, some (.long (k42_6 + (Int64.ofInt 0))), none, some (.long (pw_gl h328 125 24)), none, some (.long (Int64.ofInt (pw_gm h328 125 25))), none, some (.long k42_12), none, some (.long (Int64.ofInt k42_14)), none, some (pw_i k42_16)]) rfl rfl rfl rfl ?_
                          refine pw_inc E (pc' := 183) (ls' := [some (.ref 141), some (pw_i wt), some (.long (k42_2 + (Int64.ofInt 1))), none, some (.long (k42_4 + (Int64.ofInt 1))), none, some (.long (k42_6 + (Int64.ofInt 0))), none, some (.long (pw_gl h328 125 24)), none, some (.long (Int64.ofInt (pw_gm h328 125 25))), none, some (.long k42_12), none, some (.long (Int64.ofInt k42_14)), none, some (pw_i (k42_16 + 1))]) rfl rfl rfl rfl ?_
                          refine pw_goto E (pc' := 42) rfl (by decide) ?_
                          exact ih42 _ (by omega) (k42_2 + (Int64.ofInt 1)) (k42_4 + (Int64.ofInt 1)) (k42_6 + (Int64.ofInt 0)) (pw_gl h328 125 24) (pw_gm h328 125 25) (k42_12) (k42_14) (k42_16 + 1) h328 h328I h328F (by omega) (by omega) (by omega) (by omega) (by omega) (by omega)  rfl
                        · intro hc361
                          change ¬ (c359 ≤ (0 : Int)) at hc361
                          refine pw_ld E (pc' := 173) (st' := [.long (Int64.ofInt 1), .long k42_6]) rfl (fun _ => rfl) ?_
                          refine pw_goto E (pc' := 177) rfl (by decide) ?_
                          refine pw_ld E (pc' := 178) (st' := [.long (k42_6 + (Int64.ofInt 1))]) rfl (fun _ => rfl) ?_
                          refine pw_lst E (pc' := 180) (ls' := [some (.ref 141), some (pw_i wt), some (.long (k42_2 + (Int64.ofInt 1))), none, some (.long (k42_4 + (Int64.ofInt 1))), none, some (.long (k42_6 + (Int64.ofInt 1))), none, some (.long (pw_gl h328 125 24)), none, some (.long (Int64.ofInt (pw_gm h328 125 25))), none, some (.long k42_12), none, some (.long (Int64.ofInt k42_14)), none, some (pw_i k42_16)]) rfl rfl rfl rfl ?_
                          refine pw_inc E (pc' := 183) (ls' := [some (.ref 141), some (pw_i wt), some (.long (k42_2 + (Int64.ofInt 1))), none, some (.long (k42_4 + (Int64.ofInt 1))), none, some (.long (k42_6 + (Int64.ofInt 1))), none, some (.long (pw_gl h328 125 24)), none, some (.long (Int64.ofInt (pw_gm h328 125 25))), none, some (.long k42_12), none, some (.long (Int64.ofInt k42_14)), none, some (pw_i (k42_16 + 1))]) rfl rfl rfl rfl ?_
                          refine pw_goto E (pc' := 42) rfl (by decide) ?_
                          exact ih42 _ (by omega) (k42_2 + (Int64.ofInt 1)) (k42_4 + (Int64.ofInt 1)) (k42_6 + (Int64.ofInt 1)) (pw_gl h328 125 24) (pw_gm h328 125 25) (k42_12) (k42_14) (k42_16 + 1) h328 h328I h328F (by omega) (by omega) (by omega) (by omega) (by omega) (by omega)  rfl
                    · intro hc362
                      change ¬ (c351 ≤ (0 : Int)) at hc362
                      refine pw_ld E (pc' := 127) (st' := [.ref 141]) rfl (fun _ => rfl) ?_
                      refine pw_getL h328I E (c := 125) (k := 24) (pc' := 130) rfl rfl rfl rfl rfl rfl ?_
                      refine pw_lst E (pc' := 132) (ls' := [some (.ref 141), some (pw_i wt), some (.long k42_2), none, some (.long k42_4), none, some (.long k42_6), none, some (.long (pw_gl h328 125 24)), none, some (.long (Int64.ofInt (pw_gm h328 125 25))), none, some (.long (pw_gl h328 125 24)), none, some (.long (Int64.ofInt k42_14)), none, some (pw_i k42_16)]) rfl rfl rfl rfl ?_
                      refine pw_ld E (pc' := 133) (st' := [.ref 141]) rfl (fun _ => rfl) ?_
                      refine pw_getM h328I E (c := 125) (k := 25) (pc' := 136) rfl rfl rfl rfl rfl rfl (fun hf363a hf363b => ?_)
                      refine pw_lst E (pc' := 138) (ls' := [some (.ref 141), some (pw_i wt), some (.long k42_2), none, some (.long k42_4), none, some (.long k42_6), none, some (.long (pw_gl h328 125 24)), none, some (.long (Int64.ofInt (pw_gm h328 125 25))), none, some (.long (pw_gl h328 125 24)), none, some (.long (Int64.ofInt (pw_gm h328 125 25))), none, some (pw_i k42_16)]) rfl rfl rfl rfl ?_
                      refine pw_ld E (pc' := 139) (st' := [.long k42_2]) rfl (fun _ => rfl) ?_
                      refine pw_ld E (pc' := 140) (st' := [.long (Int64.ofInt 1), .long k42_2]) rfl (fun _ => rfl) ?_
                      refine pw_ld E (pc' := 141) (st' := [.long (k42_2 + (Int64.ofInt 1))]) rfl (fun _ => rfl) ?_
                      refine pw_lstn E (pc' := 142) (ls' := [some (.ref 141), some (pw_i wt), some (.long (k42_2 + (Int64.ofInt 1))), none, some (.long k42_4), none, some (.long k42_6), none, some (.long (pw_gl h328 125 24)), none, some (.long (Int64.ofInt (pw_gm h328 125 25))), none, some (.long (pw_gl h328 125 24)), none, some (.long (Int64.ofInt (pw_gm h328 125 25))), none, some (pw_i k42_16)]) rfl rfl rfl rfl ?_
                      refine pw_ld E (pc' := 144) (st' := [.long k42_4]) rfl (fun _ => rfl) ?_
                      refine pw_ld E (pc' := 145) (st' := [.ref 141, .long k42_4]) rfl (fun _ => rfl) ?_
                      refine pw_getL h328I E (c := 125) (k := 24) (pc' := 148) rfl rfl rfl rfl rfl rfl ?_
                      refine pw_ld E (pc' := 149) (st' := [.long (Int64.ofInt 0), .long (pw_gl h328 125 24), .long k42_4]) rfl (fun _ => rfl) ?_
                      refine pw_lcmp E (pc' := 150) rfl rfl (fun c364 hc364 => ?_)
                      refine pw_if E (pc' := 157) rfl (by decide) (by omega) (by omega) ?_ ?_
                      · intro hc365
                        change (0 : Int) ≤ c364 at hc365
                        refine pw_ld E (pc' := 158) (st' := [.long (Int64.ofInt 0), .long k42_4]) rfl (fun _ => rfl) ?_
                        refine pw_ld E (pc' := 159) (st' := [.long (k42_4 + (Int64.ofInt 0))]) rfl (fun _ => rfl) ?_
                        refine pw_lst E (pc' := 161) (ls' := [some (.ref 141), some (pw_i wt), some (.long (k42_2 + (Int64.ofInt 1))), none, some (.long (k42_4 + (Int64.ofInt 0))), none, some (.long k42_6), none, some (.long (pw_gl h328 125 24)), none, some (.long (Int64.ofInt (pw_gm h328 125 25))), none, some (.long (pw_gl h328 125 24)), none, some (.long (Int64.ofInt (pw_gm h328 125 25))), none, some (pw_i k42_16)]) rfl rfl rfl rfl ?_
                        refine pw_ld E (pc' := 163) (st' := [.long k42_6]) rfl (fun _ => rfl) ?_
                        refine pw_ld E (pc' := 164) (st' := [.ref 141, .long k42_6]) rfl (fun _ => rfl) ?_
                        refine pw_getL h328I E (c := 125) (k := 24) (pc' := 167) rfl rfl rfl rfl rfl rfl ?_
                        refine pw_ld E (pc' := 168) (st' := [.long (Int64.ofInt 0), .long (pw_gl h328 125 24), .long k42_6]) rfl (fun _ => rfl) ?_
                        refine pw_lcmp E (pc' := 169) rfl rfl (fun c366 hc366 => ?_)
                        refine pw_if E (pc' := 176) rfl (by decide) (by omega) (by omega) ?_ ?_
                        · intro hc367
                          change c366 ≤ (0 : Int) at hc367
                          refine pw_ld E (pc' := 177) (st' := [.long (Int64.ofInt 0), .long k42_6]) rfl (fun _ => rfl) ?_
                          refine pw_ld E (pc' := 178) (st' := [.long (k42_6 + (Int64.ofInt 0))]) rfl (fun _ => rfl) ?_
                          refine pw_lst E (pc' := 180) (ls' := [some (.ref 141), some (pw_i wt), some (.long (k42_2 + (Int64.ofInt 1))), none, some (.long (k42_4 + (Int64.ofInt 0))), none, some (.long (k42_6 + (Int64.ofInt 0))), none, some (.long (pw_gl h328 125 24)), none, some (.long (Int64.ofInt (pw_gm h328 125 25))), none, some (.long (pw_gl h328 125 24)), none, some (.long (Int64.ofInt (pw_gm h328 125 25))), none, some (pw_i k42_16)]) rfl rfl rfl rfl ?_
                          refine pw_inc E (pc' := 183) (ls' := [some (.ref 141), some (pw_i wt), some (.long (k42_2 + (Int64.ofInt 1))), none, some (.long (k42_4 + (Int64.ofInt 0))), none, some (.long (k42_6 + (Int64.ofInt 0))), none, some (.long (pw_gl h328 125 24)), none, some (.long (Int64.ofInt (pw_gm h328 125 25))), none, some (.long (pw_gl h328 125 24)), none, some (.long (Int64.ofInt (pw_gm h328 125 25))), none, some (pw_i (k42_16 + 1))]) rfl rfl rfl rfl ?_
                          refine pw_goto E (pc' := 42) rfl (by decide) ?_
                          exact ih42 _ (by omega) (k42_2 + (Int64.ofInt 1)) (k42_4 + (Int64.ofInt 0)) (k42_6 + (Int64.ofInt 0)) (pw_gl h328 125 24) (pw_gm h328 125 25) (pw_gl h328 125 24) (pw_gm h328 125 25) (k42_16 + 1) h328 h328I h328F (by omega) (by omega) (by omega) (by omega) (by omega) (by omega)  rfl
                        · intro hc368
                          change ¬ (c366 ≤ (0 : Int)) at hc368
                          refine pw_ld E (pc' := 173) (st' := [.long (Int64.ofInt 1), .long k42_6]) rfl (fun _ => rfl) ?_
                          refine pw_goto E (pc' := 177) rfl (by decide) ?_
                          refine pw_ld E (pc' := 178) (st' := [.long (k42_6 + (Int64.ofInt 1))]) rfl (fun _ => rfl) ?_
                          refine pw_lst E (pc' := 180) (ls' := [some (.ref 141), some (pw_i wt), some (.long (k42_2 + (Int64.ofInt 1))), none, some (.long (k42_4 + (Int64.ofInt 0))), none, some (.long (k42_6 + (Int64.ofInt 1))), none, some (.long (pw_gl h328 125 24)), none, some (.long (Int64.ofInt (pw_gm h328 125 25))), none, some (.long (pw_gl h328 125 24)), none, some (.long (Int64.ofInt (pw_gm h328 125 25))), none, some (pw_i k42_16)]) rfl rfl rfl rfl ?_
                          refine pw_inc E (pc' := 183) (ls' := [some (.ref 141), some (pw_i wt), some (.long (k42_2 + (Int64.ofInt 1))), none, some (.long (k42_4 + (Int64.ofInt 0))), none, some (.long (k42_6 + (Int64.ofInt 1))), none, some (.long (pw_gl h328 125 24)), none, some (.long (Int64.ofInt (pw_gm h328 125 25))), none, some (.long (pw_gl h328 125 24)), none, some (.long (Int64.ofInt (pw_gm h328 125 25))), none, some (pw_i (k42_16 + 1))]) rfl rfl rfl rfl ?_
                          refine pw_goto E (pc' := 42) rfl (by decide) ?_
                          exact ih42 _ (by omega) (k42_2 + (Int64.ofInt 1)) (k42_4 + (Int64.ofInt 0)) (k42_6 + (Int64.ofInt 1)) (pw_gl h328 125 24) (pw_gm h328 125 25) (pw_gl h328 125 24) (pw_gm h328 125 25) (k42_16 + 1) h328 h328I h328F (by omega) (by omega) (by omega) (by omega) (by omega) (by omega)  rfl
                      · intro hc369
                        change ¬ ((0 : Int) ≤ c364) at hc369
                        refine pw_ld E (pc' := 154) (st' := [.long (Int64.ofInt 1), .long k42_4]) rfl (fun _ => rfl) ?_
                        refine pw_goto E (pc' := 158) rfl (by decide) ?_
                        refine pw_ld E (pc' := 159) (st' := [.long (k42_4 + (Int64.ofInt 1))]) rfl (fun _ => rfl) ?_
                        refine pw_lst E (pc' := 161) (ls' := [some (.ref 141), some (pw_i wt), some (.long (k42_2 + (Int64.ofInt 1))), none, some (.long (k42_4 + (Int64.ofInt 1))), none, some (.long k42_6), none, some (.long (pw_gl h328 125 24)), none, some (.long (Int64.ofInt (pw_gm h328 125 25))), none, some (.long (pw_gl h328 125 24)), none, some (.long (Int64.ofInt (pw_gm h328 125 25))), none, some (pw_i k42_16)]) rfl rfl rfl rfl ?_
                        refine pw_ld E (pc' := 163) (st' := [.long k42_6]) rfl (fun _ => rfl) ?_
                        refine pw_ld E (pc' := 164) (st' := [.ref 141, .long k42_6]) rfl (fun _ => rfl) ?_
                        refine pw_getL h328I E (c := 125) (k := 24) (pc' := 167) rfl rfl rfl rfl rfl rfl ?_
                        refine pw_ld E (pc' := 168) (st' := [.long (Int64.ofInt 0), .long (pw_gl h328 125 24), .long k42_6]) rfl (fun _ => rfl) ?_
                        refine pw_lcmp E (pc' := 169) rfl rfl (fun c370 hc370 => ?_)
                        refine pw_if E (pc' := 176) rfl (by decide) (by omega) (by omega) ?_ ?_
                        · intro hc371
                          change c370 ≤ (0 : Int) at hc371
                          refine pw_ld E (pc' := 177) (st' := [.long (Int64.ofInt 0), .long k42_6]) rfl (fun _ => rfl) ?_
                          refine pw_ld E (pc' := 178) (st' := [.long (k42_6 + (Int64.ofInt 0))]) rfl (fun _ => rfl) ?_
                          refine pw_lst E (pc' := 180) (ls' := [some (.ref 141), some (pw_i wt), some (.long (k42_2 + (Int64.ofInt 1))), none, some (.long (k42_4 + (Int64.ofInt 1))), none, some (.long (k42_6 + (Int64.ofInt 0))), none, some (.long (pw_gl h328 125 24)), none, some (.long (Int64.ofInt (pw_gm h328 125 25))), none, some (.long (pw_gl h328 125 24)), none, some (.long (Int64.ofInt (pw_gm h328 125 25))), none, some (pw_i k42_16)]) rfl rfl rfl rfl ?_
                          refine pw_inc E (pc' := 183) (ls' := [some (.ref 141), some (pw_i wt), some (.long (k42_2 + (Int64.ofInt 1))), none, some (.long (k42_4 + (Int64.ofInt 1))), none, some (.long (k42_6 + (Int64.ofInt 0))), none, some (.long (pw_gl h328 125 24)), none, some (.long (Int64.ofInt (pw_gm h328 125 25))), none, some (.long (pw_gl h328 125 24)), none, some (.long (Int64.ofInt (pw_gm h328 125 25))), none, some (pw_i (k42_16 + 1))]) rfl rfl rfl rfl ?_
                          refine pw_goto E (pc' := 42) rfl (by decide) ?_
                          exact ih42 _ (by omega) (k42_2 + (Int64.ofInt 1)) (k42_4 + (Int64.ofInt 1)) (k42_6 + (Int64.ofInt 0)) (pw_gl h328 125 24) (pw_gm h328 125 25) (pw_gl h328 125 24) (pw_gm h328 125 25) (k42_16 + 1) h328 h328I h328F (by omega) (by omega) (by omega) (by omega) (by omega) (by omega)  rfl
                        · intro hc372
                          change ¬ (c370 ≤ (0 : Int)) at hc372
                          refine pw_ld E (pc' := 173) (st' := [.long (Int64.ofInt 1), .long k42_6]) rfl (fun _ => rfl) ?_
                          refine pw_goto E (pc' := 177) rfl (by decide) ?_
                          refine pw_ld E (pc' := 178) (st' := [.long (k42_6 + (Int64.ofInt 1))]) rfl (fun _ => rfl) ?_
                          refine pw_lst E (pc' := 180) (ls' := [some (.ref 141), some (pw_i wt), some (.long (k42_2 + (Int64.ofInt 1))), none, some (.long (k42_4 + (Int64.ofInt 1))), none, some (.long (k42_6 + (Int64.ofInt 1))), none, some (.long (pw_gl h328 125 24)), none, some (.long (Int64.ofInt (pw_gm h328 125 25))), none, some (.long (pw_gl h328 125 24)), none, some (.long (Int64.ofInt (pw_gm h328 125 25))), none, some (pw_i k42_16)]) rfl rfl rfl rfl ?_
                          refine pw_inc E (pc' := 183) (ls' := [some (.ref 141), some (pw_i wt), some (.long (k42_2 + (Int64.ofInt 1))), none, some (.long (k42_4 + (Int64.ofInt 1))), none, some (.long (k42_6 + (Int64.ofInt 1))), none, some (.long (pw_gl h328 125 24)), none, some (.long (Int64.ofInt (pw_gm h328 125 25))), none, some (.long (pw_gl h328 125 24)), none, some (.long (Int64.ofInt (pw_gm h328 125 25))), none, some (pw_i (k42_16 + 1))]) rfl rfl rfl rfl ?_
                          refine pw_goto E (pc' := 42) rfl (by decide) ?_
                          exact ih42 _ (by omega) (k42_2 + (Int64.ofInt 1)) (k42_4 + (Int64.ofInt 1)) (k42_6 + (Int64.ofInt 1)) (pw_gl h328 125 24) (pw_gm h328 125 25) (pw_gl h328 125 24) (pw_gm h328 125 25) (k42_16 + 1) h328 h328I h328F (by omega) (by omega) (by omega) (by omega) (by omega) (by omega)  rfl
                · intro hc373
                  change ¬ (c334 = (0 : Int)) at hc373
                  refine pw_ld E (pc' := 73) (st' := [.ref 141]) rfl (fun _ => rfl) ?_
                  refine pw_getL h328I E (c := 125) (k := 24) (pc' := 76) rfl rfl rfl rfl rfl rfl ?_
                  refine pw_ld E (pc' := 78) (st' := [.long (Int64.ofInt k42_10), .long (pw_gl h328 125 24)]) rfl (fun _ => rfl) ?_
                  refine pw_ld E (pc' := 79) (st' := [.long ((pw_gl h328 125 24) * (Int64.ofInt k42_10))]) rfl (fun _ => rfl) ?_
                  refine pw_ld E (pc' := 81) (st' := [.long k42_8, .long ((pw_gl h328 125 24) * (Int64.ofInt k42_10))]) rfl (fun _ => rfl) ?_
                  refine pw_ld E (pc' := 82) (st' := [.ref 141, .long k42_8, .long ((pw_gl h328 125 24) * (Int64.ofInt k42_10))]) rfl (fun _ => rfl) ?_
                  refine pw_getM h328I E (c := 125) (k := 25) (pc' := 85) rfl rfl rfl rfl rfl rfl (fun hf374a hf374b => ?_)
                  refine pw_ld E (pc' := 86) (st' := [.long (k42_8 * (Int64.ofInt (pw_gm h328 125 25))), .long ((pw_gl h328 125 24) * (Int64.ofInt k42_10))]) rfl (fun _ => rfl) ?_
                  refine pw_lcmp E (pc' := 87) rfl rfl (fun c375 hc375 => ?_)
                  refine pw_if E (pc' := 102) rfl (by decide) (by omega) (by omega) ?_ ?_
                  · intro hc376
                    change (0 : Int) ≤ c375 at hc376
                    refine pw_ld E (pc' := 103) (st' := [.long k42_2]) rfl (fun _ => rfl) ?_
                    refine pw_ld E (pc' := 104) (st' := [.long (Int64.ofInt 0), .long k42_2]) rfl (fun _ => rfl) ?_
                    refine pw_lcmp E (pc' := 105) rfl rfl (fun c377 hc377 => ?_)
                    refine pw_if E (pc' := 126) rfl (by decide) (by omega) (by omega) ?_ ?_
                    · intro hc378
                      change c377 = (0 : Int) at hc378
                      refine pw_ld E (pc' := 127) (st' := [.ref 141]) rfl (fun _ => rfl) ?_
                      refine pw_getL h328I E (c := 125) (k := 24) (pc' := 130) rfl rfl rfl rfl rfl rfl ?_
                      refine pw_lst E (pc' := 132) (ls' := [some (.ref 141), some (pw_i wt), some (.long k42_2), none, some (.long k42_4), none, some (.long k42_6), none, some (.long k42_8), none, some (.long (Int64.ofInt k42_10)), none, some (.long (pw_gl h328 125 24)), none, some (.long (Int64.ofInt k42_14)), none, some (pw_i k42_16)]) rfl rfl rfl rfl ?_
                      refine pw_ld E (pc' := 133) (st' := [.ref 141]) rfl (fun _ => rfl) ?_
                      refine pw_getM h328I E (c := 125) (k := 25) (pc' := 136) rfl rfl rfl rfl rfl rfl (fun hf379a hf379b => ?_)
                      refine pw_lst E (pc' := 138) (ls' := [some (.ref 141), some (pw_i wt), some (.long k42_2), none, some (.long k42_4), none, some (.long k42_6), none, some (.long k42_8), none, some (.long (Int64.ofInt k42_10)), none, some (.long (pw_gl h328 125 24)), none, some (.long (Int64.ofInt (pw_gm h328 125 25))), none, some (pw_i k42_16)]) rfl rfl rfl rfl ?_
                      refine pw_ld E (pc' := 139) (st' := [.long k42_2]) rfl (fun _ => rfl) ?_
                      refine pw_ld E (pc' := 140) (st' := [.long (Int64.ofInt 1), .long k42_2]) rfl (fun _ => rfl) ?_
                      refine pw_ld E (pc' := 141) (st' := [.long (k42_2 + (Int64.ofInt 1))]) rfl (fun _ => rfl) ?_
                      refine pw_lstn E (pc' := 142) (ls' := [some (.ref 141), some (pw_i wt), some (.long (k42_2 + (Int64.ofInt 1))), none, some (.long k42_4), none, some (.long k42_6), none, some (.long k42_8), none, some (.long (Int64.ofInt k42_10)), none, some (.long (pw_gl h328 125 24)), none, some (.long (Int64.ofInt (pw_gm h328 125 25))), none, some (pw_i k42_16)]) rfl rfl rfl rfl ?_
                      refine pw_ld E (pc' := 144) (st' := [.long k42_4]) rfl (fun _ => rfl) ?_
                      refine pw_ld E (pc' := 145) (st' := [.ref 141, .long k42_4]) rfl (fun _ => rfl) ?_
                      refine pw_getL h328I E (c := 125) (k := 24) (pc' := 148) rfl rfl rfl rfl rfl rfl ?_
                      refine pw_ld E (pc' := 149) (st' := [.long (Int64.ofInt 0), .long (pw_gl h328 125 24), .long k42_4]) rfl (fun _ => rfl) ?_
                      refine pw_lcmp E (pc' := 150) rfl rfl (fun c380 hc380 => ?_)
                      refine pw_if E (pc' := 157) rfl (by decide) (by omega) (by omega) ?_ ?_
                      · intro hc381
                        change (0 : Int) ≤ c380 at hc381
                        refine pw_ld E (pc' := 158) (st' := [.long (Int64.ofInt 0), .long k42_4]) rfl (fun _ => rfl) ?_
                        refine pw_ld E (pc' := 159) (st' := [.long (k42_4 + (Int64.ofInt 0))]) rfl (fun _ => rfl) ?_
                        refine pw_lst E (pc' := 161) (ls' := [some (.ref 141), some (pw_i wt), some (.long (k42_2 + (Int64.ofInt 1))), none, some (.long (k42_4 + (Int64.ofInt 0))), none, some (.long k42_6), none, some (.long k42_8), none, some (.long (Int64.ofInt k42_10)), none, some (.long (pw_gl h328 125 24)), none, some (.long (Int64.ofInt (pw_gm h328 125 25))), none, some (pw_i k42_16)]) rfl rfl rfl rfl ?_
                        refine pw_ld E (pc' := 163) (st' := [.long k42_6]) rfl (fun _ => rfl) ?_
                        refine pw_ld E (pc' := 164) (st' := [.ref 141, .long k42_6]) rfl (fun _ => rfl) ?_
                        refine pw_getL h328I E (c := 125) (k := 24) (pc' := 167) rfl rfl rfl rfl rfl rfl ?_
                        refine pw_ld E (pc' := 168) (st' := [.long (Int64.ofInt 0), .long (pw_gl h328 125 24), .long k42_6]) rfl (fun _ => rfl) ?_
                        refine pw_lcmp E (pc' := 169) rfl rfl (fun c382 hc382 => ?_)
                        refine pw_if E (pc' := 176) rfl (by decide) (by omega) (by omega) ?_ ?_
                        · intro hc383
                          change c382 ≤ (0 : Int) at hc383
                          refine pw_ld E (pc' := 177) (st' := [.long (Int64.ofInt 0), .long k42_6]) rfl (fun _ => rfl) ?_
                          refine pw_ld E (pc' := 178) (st' := [.long (k42_6 + (Int64.ofInt 0))]) rfl (fun _ => rfl) ?_
                          refine pw_lst E (pc' := 180) (ls' := [some (.ref 141), some (pw_i wt), some (.long (k42_2 + (Int64.ofInt 1))), none, some (.long (k42_4 + (Int64.ofInt 0))), none, some (.long (k42_6 + (Int64.ofInt 0))), none, some (.long k42_8), none, some (.long (Int64.ofInt k42_10)), none, some (.long (pw_gl h328 125 24)), none, some (.long (Int64.ofInt (pw_gm h328 125 25))), none, some (pw_i k42_16)]) rfl rfl rfl rfl ?_
                          refine pw_inc E (pc' := 183) (ls' := [some (.ref 141), some (pw_i wt), some (.long (k42_2 + (Int64.ofInt 1))), none, some (.long (k42_4 + (Int64.ofInt 0))), none, some (.long (k42_6 + (Int64.ofInt 0))), none, some (.long k42_8), none, some (.long (Int64.ofInt k42_10)), none, some (.long (pw_gl h328 125 24)), none, some (.long (Int64.ofInt (pw_gm h328 125 25))), none, some (pw_i (k42_16 + 1))]) rfl rfl rfl rfl ?_
                          refine pw_goto E (pc' := 42) rfl (by decide) ?_
                          exact ih42 _ (by omega) (k42_2 + (Int64.ofInt 1)) (k42_4 + (Int64.ofInt 0)) (k42_6 + (Int64.ofInt 0)) (k42_8) (k42_10) (pw_gl h328 125 24) (pw_gm h328 125 25) (k42_16 + 1) h328 h328I h328F (by omega) (by omega) (by omega) (by omega) (by omega) (by omega)  rfl
                        · intro hc384
                          change ¬ (c382 ≤ (0 : Int)) at hc384
                          refine pw_ld E (pc' := 173) (st' := [.long (Int64.ofInt 1), .long k42_6]) rfl (fun _ => rfl) ?_
                          refine pw_goto E (pc' := 177) rfl (by decide) ?_
                          refine pw_ld E (pc' := 178) (st' := [.long (k42_6 + (Int64.ofInt 1))]) rfl (fun _ => rfl) ?_
                          refine pw_lst E (pc' := 180) (ls' := [some (.ref 141), some (pw_i wt), some (.long (k42_2 + (Int64.ofInt 1))), none, some (.long (k42_4 + (Int64.ofInt 0))), none, some (.long (k42_6 + (Int64.ofInt 1))), none, some (.long k42_8), none, some (.long (Int64.ofInt k42_10)), none, some (.long (pw_gl h328 125 24)), none, some (.long (Int64.ofInt (pw_gm h328 125 25))), none, some (pw_i k42_16)]) rfl rfl rfl rfl ?_
                          refine pw_inc E (pc' := 183) (ls' := [some (.ref 141), some (pw_i wt), some (.long (k42_2 + (Int64.ofInt 1))), none, some (.long (k42_4 + (Int64.ofInt 0))), none, some (.long (k42_6 + (Int64.ofInt 1))), none, some (.long k42_8), none, some (.long (Int64.ofInt k42_10)), none, some (.long (pw_gl h328 125 24)), none, some (.long (Int64.ofInt (pw_gm h328 125 25))), none, some (pw_i (k42_16 + 1))]) rfl rfl rfl rfl ?_
                          refine pw_goto E (pc' := 42) rfl (by decide) ?_
                          exact ih42 _ (by omega) (k42_2 + (Int64.ofInt 1)) (k42_4 + (Int64.ofInt 0)) (k42_6 + (Int64.ofInt 1)) (k42_8) (k42_10) (pw_gl h328 125 24) (pw_gm h328 125 25) (k42_16 + 1) h328 h328I h328F (by omega) (by omega) (by omega) (by omega) (by omega) (by omega)  rfl
                      · intro hc385
                        change ¬ ((0 : Int) ≤ c380) at hc385
                        refine pw_ld E (pc' := 154) (st' := [.long (Int64.ofInt 1), .long k42_4]) rfl (fun _ => rfl) ?_
                        refine pw_goto E (pc' := 158) rfl (by decide) ?_
                        refine pw_ld E (pc' := 159) (st' := [.long (k42_4 + (Int64.ofInt 1))]) rfl (fun _ => rfl) ?_
                        refine pw_lst E (pc' := 161) (ls' := [some (.ref 141), some (pw_i wt), some (.long (k42_2 + (Int64.ofInt 1))), none, some (.long (k42_4 + (Int64.ofInt 1))), none, some (.long k42_6), none, some (.long k42_8), none, some (.long (Int64.ofInt k42_10)), none, some (.long (pw_gl h328 125 24)), none, some (.long (Int64.ofInt (pw_gm h328 125 25))), none, some (pw_i k42_16)]) rfl rfl rfl rfl ?_
                        refine pw_ld E (pc' := 163) (st' := [.long k42_6]) rfl (fun _ => rfl) ?_
                        refine pw_ld E (pc' := 164) (st' := [.ref 141, .long k42_6]) rfl (fun _ => rfl) ?_
                        refine pw_getL h328I E (c := 125) (k := 24) (pc' := 167) rfl rfl rfl rfl rfl rfl ?_
                        refine pw_ld E (pc' := 168) (st' := [.long (Int64.ofInt 0), .long (pw_gl h328 125 24), .long k42_6]) rfl (fun _ => rfl) ?_
                        refine pw_lcmp E (pc' := 169) rfl rfl (fun c386 hc386 => ?_)
                        refine pw_if E (pc' := 176) rfl (by decide) (by omega) (by omega) ?_ ?_
                        · intro hc387
                          change c386 ≤ (0 : Int) at hc387
                          refine pw_ld E (pc' := 177) (st' := [.long (Int64.ofInt 0), .long k42_6]) rfl (fun _ => rfl) ?_
                          refine pw_ld E (pc' := 178) (st' := [.long (k42_6 + (Int64.ofInt 0))]) rfl (fun _ => rfl) ?_
                          refine pw_lst E (pc' := 180) (ls' := [some (.ref 141), some (pw_i wt), some (.long (k42_2 + (Int64.ofInt 1))), none, some (.long (k42_4 + (Int64.ofInt 1))), none, some (.long (k42_6 + (Int64.ofInt 0))), none, some (.long k42_8), none, some (.long (Int64.ofInt k42_10)), none, some (.long (pw_gl h328 125 24)), none, some (.long (Int64.ofInt (pw_gm h328 125 25))), none, some (pw_i k42_16)]) rfl rfl rfl rfl ?_
                          refine pw_inc E (pc' := 183) (ls' := [some (.ref 141), some (pw_i wt), some (.long (k42_2 + (Int64.ofInt 1))), none, some (.long (k42_4 + (Int64.ofInt 1))), none, some (.long (k42_6 + (Int64.ofInt 0))), none, some (.long k42_8), none, some (.long (Int64.ofInt k42_10)), none, some (.long (pw_gl h328 125 24)), none, some (.long (Int64.ofInt (pw_gm h328 125 25))), none, some (pw_i (k42_16 + 1))]) rfl rfl rfl rfl ?_
                          refine pw_goto E (pc' := 42) rfl (by decide) ?_
                          exact ih42 _ (by omega) (k42_2 + (Int64.ofInt 1)) (k42_4 + (Int64.ofInt 1)) (k42_6 + (Int64.ofInt 0)) (k42_8) (k42_10) (pw_gl h328 125 24) (pw_gm h328 125 25) (k42_16 + 1) h328 h328I h328F (by omega) (by omega) (by omega) (by omega) (by omega) (by omega)  rfl
                        · intro hc388
                          change ¬ (c386 ≤ (0 : Int)) at hc388
                          refine pw_ld E (pc' := 173) (st' := [.long (Int64.ofInt 1), .long k42_6]) rfl (fun _ => rfl) ?_
                          refine pw_goto E (pc' := 177) rfl (by decide) ?_
                          refine pw_ld E (pc' := 178) (st' := [.long (k42_6 + (Int64.ofInt 1))]) rfl (fun _ => rfl) ?_
                          refine pw_lst E (pc' := 180) (ls' := [some (.ref 141), some (pw_i wt), some (.long (k42_2 + (Int64.ofInt 1))), none, some (.long (k42_4 + (Int64.ofInt 1))), none, some (.long (k42_6 + (Int64.ofInt 1))), none, some (.long k42_8), none, some (.long (Int64.ofInt k42_10)), none, some (.long (pw_gl h328 125 24)), none, some (.long (Int64.ofInt (pw_gm h328 125 25))), none, some (pw_i k42_16)]) rfl rfl rfl rfl ?_
                          refine pw_inc E (pc' := 183) (ls' := [some (.ref 141), some (pw_i wt), some (.long (k42_2 + (Int64.ofInt 1))), none, some (.long (k42_4 + (Int64.ofInt 1))), none, some (.long (k42_6 + (Int64.ofInt 1))), none, some (.long k42_8), none, some (.long (Int64.ofInt k42_10)), none, some (.long (pw_gl h328 125 24)), none, some (.long (Int64.ofInt (pw_gm h328 125 25))), none, some (pw_i (k42_16 + 1))]) rfl rfl rfl rfl ?_
                          refine pw_goto E (pc' := 42) rfl (by decide) ?_
                          exact ih42 _ (by omega) (k42_2 + (Int64.ofInt 1)) (k42_4 + (Int64.ofInt 1)) (k42_6 + (Int64.ofInt 1)) (k42_8) (k42_10) (pw_gl h328 125 24) (pw_gm h328 125 25) (k42_16 + 1) h328 h328I h328F (by omega) (by omega) (by omega) (by omega) (by omega) (by omega)  rfl
                    · intro hc389
                      change ¬ (c377 = (0 : Int)) at hc389
                      refine pw_ld E (pc' := 109) (st' := [.ref 141]) rfl (fun _ => rfl) ?_
                      refine pw_getL h328I E (c := 125) (k := 24) (pc' := 112) rfl rfl rfl rfl rfl rfl ?_
                      refine pw_ld E (pc' := 114) (st' := [.long (Int64.ofInt k42_14), .long (pw_gl h328 125 24)]) rfl (fun _ => rfl) ?_
                      refine pw_ld E (pc' := 115) (st' := [.long ((pw_gl h328 125 24) * (Int64.ofInt k42_14))]) rfl (fun _ => rfl) ?_
                      refine pw_ld E (pc' := 117) (st' := [.long k42_12, .long ((pw_gl h328 125 24) * (Int64.ofInt k42_14))]) rfl (fun _ => rfl) ?_
                      refine pw_ld E (pc' := 118) (st' := [.ref 141, .long k42_12, .long ((pw_gl h328 125 24) * (Int64.ofInt k42_14))]) rfl (fun _ => rfl) ?_
                      refine pw_getM h328I E (c := 125) (k := 25) (pc' := 121) rfl rfl rfl rfl rfl rfl (fun hf390a hf390b => ?_)
                      refine pw_ld E (pc' := 122) (st' := [.long (k42_12 * (Int64.ofInt (pw_gm h328 125 25))), .long ((pw_gl h328 125 24) * (Int64.ofInt k42_14))]) rfl (fun _ => rfl) ?_
                      refine pw_lcmp E (pc' := 123) rfl rfl (fun c391 hc391 => ?_)
                      refine pw_if E (pc' := 138) rfl (by decide) (by omega) (by omega) ?_ ?_
                      · intro hc392
                        change c391 ≤ (0 : Int) at hc392
                        refine pw_ld E (pc' := 139) (st' := [.long k42_2]) rfl (fun _ => rfl) ?_
                        refine pw_ld E (pc' := 140) (st' := [.long (Int64.ofInt 1), .long k42_2]) rfl (fun _ => rfl) ?_
                        refine pw_ld E (pc' := 141) (st' := [.long (k42_2 + (Int64.ofInt 1))]) rfl (fun _ => rfl) ?_
                        refine pw_lstn E (pc' := 142) (ls' := [some (.ref 141), some (pw_i wt), some (.long (k42_2 + (Int64.ofInt 1))), none, some (.long k42_4), none, some (.long k42_6), none, some (.long k42_8), none, some (.long (Int64.ofInt k42_10)), none, some (.long k42_12), none, some (.long (Int64.ofInt k42_14)), none, some (pw_i k42_16)]) rfl rfl rfl rfl ?_
                        refine pw_ld E (pc' := 144) (st' := [.long k42_4]) rfl (fun _ => rfl) ?_
                        refine pw_ld E (pc' := 145) (st' := [.ref 141, .long k42_4]) rfl (fun _ => rfl) ?_
                        refine pw_getL h328I E (c := 125) (k := 24) (pc' := 148) rfl rfl rfl rfl rfl rfl ?_
                        refine pw_ld E (pc' := 149) (st' := [.long (Int64.ofInt 0), .long (pw_gl h328 125 24), .long k42_4]) rfl (fun _ => rfl) ?_
                        refine pw_lcmp E (pc' := 150) rfl rfl (fun c393 hc393 => ?_)
                        refine pw_if E (pc' := 157) rfl (by decide) (by omega) (by omega) ?_ ?_
                        · intro hc394
                          change (0 : Int) ≤ c393 at hc394
                          refine pw_ld E (pc' := 158) (st' := [.long (Int64.ofInt 0), .long k42_4]) rfl (fun _ => rfl) ?_
                          refine pw_ld E (pc' := 159) (st' := [.long (k42_4 + (Int64.ofInt 0))]) rfl (fun _ => rfl) ?_
                          refine pw_lst E (pc' := 161) (ls' := [some (.ref 141), some (pw_i wt), some (.long (k42_2 + (Int64.ofInt 1))), none, some (.long (k42_4 + (Int64.ofInt 0))), none, some (.long k42_6), none, some (.long k42_8), none, some (.long (Int64.ofInt k42_10)), none, some (.long k42_12), none, some (.long (Int64.ofInt k42_14)), none, some (pw_i k42_16)]) rfl rfl rfl rfl ?_
                          refine pw_ld E (pc' := 163) (st' := [.long k42_6]) rfl (fun _ => rfl) ?_
                          refine pw_ld E (pc' := 164) (st' := [.ref 141, .long k42_6]) rfl (fun _ => rfl) ?_
                          refine pw_getL h328I E (c := 125) (k := 24) (pc' := 167) rfl rfl rfl rfl rfl rfl ?_
                          refine pw_ld E (pc' := 168) (st' := [.long (Int64.ofInt 0), .long (pw_gl h328 125 24), .long k42_6]) rfl (fun _ => rfl) ?_
                          refine pw_lcmp E (pc' := 169) rfl rfl (fun c395 hc395 => ?_)
                          refine pw_if E (pc' := 176) rfl (by decide) (by omega) (by omega) ?_ ?_
                          · intro hc396
                            change c395 ≤ (0 : Int) at hc396
                            refine pw_ld E (pc' := 177) (st' := [.long (Int64.ofInt 0), .long k42_6]) rfl (fun _ => rfl) ?_
                            refine pw_ld E (pc' := 178) (st' := [.long (k42_6 + (Int64.ofInt 0))]) rfl (fun _ => rfl) ?_
                            refine pw_lst E (pc' := 180) (ls' := [some (.ref 141), some (pw_i wt), some (.long (k42_2 + (Int64.ofInt 1))), none, some (.long (k42_4 + (Int64.ofInt 0))), none, some (.long (k42_6 + (Int64.ofInt 0))), none, some (.long k42_8), none, some (.long (Int64.ofInt k42_10)), none, some (.long k42_12), none, some (.long (Int64.ofInt k42_14)), none, some (pw_i k42_16)]) rfl rfl rfl rfl ?_
                            refine pw_inc E (pc' := 183) (ls' := [some (.ref 141), some (pw_i wt), some (.long (k42_2 + (Int64.ofInt 1))), none, some (.long (k42_4 + (Int64.ofInt 0))), none, some (.long (k42_6 + (Int64.ofInt 0))), none, some (.long k42_8), none, some (.long (Int64.ofInt k42_10)), none, some (.long k42_12), none, some (.long (Int64.ofInt k42_14)), none, some (pw_i (k42_16 + 1))]) rfl rfl rfl rfl ?_
                            refine pw_goto E (pc' := 42) rfl (by decide) ?_
                            exact ih42 _ (by omega) (k42_2 + (Int64.ofInt 1)) (k42_4 + (Int64.ofInt 0)) (k42_6 + (Int64.ofInt 0)) (k42_8) (k42_10) (k42_12) (k42_14) (k42_16 + 1) h328 h328I h328F (by omega) (by omega) (by omega) (by omega) (by omega) (by omega)  rfl
                          · intro hc397
                            change ¬ (c395 ≤ (0 : Int)) at hc397
                            refine pw_ld E (pc' := 173) (st' := [.long (Int64.ofInt 1), .long k42_6]) rfl (fun _ => rfl) ?_
                            refine pw_goto E (pc' := 177) rfl (by decide) ?_
                            refine pw_ld E (pc' := 178) (st' := [.long (k42_6 + (Int64.ofInt 1))]) rfl (fun _ => rfl) ?_
                            refine pw_lst E (pc' := 180) (ls' := [some (.ref 141), some (pw_i wt), some (.long (k42_2 + (Int64.ofInt 1))), none, some (.long (k42_4 + (Int64.ofInt 0))), none, some (.long (k42_6 + (Int64.ofInt 1))), none, some (.long k42_8), none, some (.long (Int64.ofInt k42_10)), none, some (.long k42_12), none, some (.long (Int64.ofInt k42_14)), none, some (pw_i k42_16)]) rfl rfl rfl rfl ?_
                            refine pw_inc E (pc' := 183) (ls' := [some (.ref 141), some (pw_i wt), some (.long (k42_2 + (Int64.ofInt 1))), none, some (.long (k42_4 + (Int64.ofInt 0))), none, some (.long (k42_6 + (Int64.ofInt 1))), none, some (.long k42_8), none, some (.long (Int64.ofInt k42_10)), none, some (.long k42_12), none, some (.long (Int64.ofInt k42_14)), none, some (pw_i (k42_16 + 1))]) rfl rfl rfl rfl ?_
                            refine pw_goto E (pc' := 42) rfl (by decide) ?_
                            exact ih42 _ (by omega) (k42_2 + (Int64.ofInt 1)) (k42_4 + (Int64.ofInt 0)) (k42_6 + (Int64.ofInt 1)) (k42_8) (k42_10) (k42_12) (k42_14) (k42_16 + 1) h328 h328I h328F (by omega) (by omega) (by omega) (by omega) (by omega) (by omega)  rfl
                        · intro hc398
                          change ¬ ((0 : Int) ≤ c393) at hc398
                          refine pw_ld E (pc' := 154) (st' := [.long (Int64.ofInt 1), .long k42_4]) rfl (fun _ => rfl) ?_
                          refine pw_goto E (pc' := 158) rfl (by decide) ?_
                          refine pw_ld E (pc' := 159) (st' := [.long (k42_4 + (Int64.ofInt 1))]) rfl (fun _ => rfl) ?_
                          refine pw_lst E (pc' := 161) (ls' := [some (.ref 141), some (pw_i wt), some (.long (k42_2 + (Int64.ofInt 1))), none, some (.long (k42_4 + (Int64.ofInt 1))), none, some (.long k42_6), none, some (.long k42_8), none, some (.long (Int64.ofInt k42_10)), none, some (.long k42_12), none, some (.long (Int64.ofInt k42_14)), none, some (pw_i k42_16)]) rfl rfl rfl rfl ?_
                          refine pw_ld E (pc' := 163) (st' := [.long k42_6]) rfl (fun _ => rfl) ?_
                          refine pw_ld E (pc' := 164) (st' := [.ref 141, .long k42_6]) rfl (fun _ => rfl) ?_
                          refine pw_getL h328I E (c := 125) (k := 24) (pc' := 167) rfl rfl rfl rfl rfl rfl ?_
                          refine pw_ld E (pc' := 168) (st' := [.long (Int64.ofInt 0), .long (pw_gl h328 125 24), .long k42_6]) rfl (fun _ => rfl) ?_
                          refine pw_lcmp E (pc' := 169) rfl rfl (fun c399 hc399 => ?_)
                          refine pw_if E (pc' := 176) rfl (by decide) (by omega) (by omega) ?_ ?_
                          · intro hc400
                            change c399 ≤ (0 : Int) at hc400
                            refine pw_ld E (pc' := 177) (st' := [.long (Int64.ofInt 0), .long k42_6]) rfl (fun _ => rfl) ?_
                            refine pw_ld E (pc' := 178) (st' := [.long (k42_6 + (Int64.ofInt 0))]) rfl (fun _ => rfl) ?_
                            refine pw_lst E (pc' := 180) (ls' := [some (.ref 141), some (pw_i wt), some (.long (k42_2 + (Int64.ofInt 1))), none, some (.long (k42_4 + (Int64.ofInt 1))), none, some (.long (k42_6 + (Int64.ofInt 0))), none, some (.long k42_8), none, some (.long (Int64.ofInt k42_10)), none, some (.long k42_12), none, some (.long (Int64.ofInt k42_14)), none, some (pw_i k42_16)]) rfl rfl rfl rfl ?_
                            refine pw_inc E (pc' := 183) (ls' := [some (.ref 141), some (pw_i wt), some (.long (k42_2 + (Int64.ofInt 1))), none, some (.long (k42_4 + (Int64.ofInt 1))), none, some (.long (k42_6 + (Int64.ofInt 0))), none, some (.long k42_8), none, some (.long (Int64.ofInt k42_10)), none, some (.long k42_12), none, some (.long (Int64.ofInt k42_14)), none, some (pw_i (k42_16 + 1))]) rfl rfl rfl rfl ?_
                            refine pw_goto E (pc' := 42) rfl (by decide) ?_
                            exact ih42 _ (by omega) (k42_2 + (Int64.ofInt 1)) (k42_4 + (Int64.ofInt 1)) (k42_6 + (Int64.ofInt 0)) (k42_8) (k42_10) (k42_12) (k42_14) (k42_16 + 1) h328 h328I h328F (by omega) (by omega) (by omega) (by omega) (by omega) (by omega)  rfl
                          · intro hc401
                            change ¬ (c399 ≤ (0 : Int)) at hc401
                            refine pw_ld E (pc' := 173) (st' := [.long (Int64.ofInt 1), .long k42_6]) rfl (fun _ => rfl) ?_
                            refine pw_goto E (pc' := 177) rfl (by decide) ?_
                            refine pw_ld E (pc' := 178) (st' := [.long (k42_6 + (Int64.ofInt 1))]) rfl (fun _ => rfl) ?_
                            refine pw_lst E (pc' := 180) (ls' := [some (.ref 141), some (pw_i wt), some (.long (k42_2 + (Int64.ofInt 1))), none, some (.long (k42_4 + (Int64.ofInt 1))), none, some (.long (k42_6 + (Int64.ofInt 1))), none, some (.long k42_8), none, some (.long (Int64.ofInt k42_10)), none, some (.long k42_12), none, some (.long (Int64.ofInt k42_14)), none, some (pw_i k42_16)]) rfl rfl rfl rfl ?_
                            refine pw_inc E (pc' := 183) (ls' := [some (.ref 141), some (pw_i wt), some (.long (k42_2 + (Int64.ofInt 1))), none, some (.long (k42_4 + (Int64.ofInt 1))), none, some (.long (k42_6 + (Int64.ofInt 1))), none, some (.long k42_8), none, some (.long (Int64.ofInt k42_10)), none, some (.long k42_12), none, some (.long (Int64.ofInt k42_14)), none, some (pw_i (k42_16 + 1))]) rfl rfl rfl rfl ?_
                            refine pw_goto E (pc' := 42) rfl (by decide) ?_
                            exact ih42 _ (by omega) (k42_2 + (Int64.ofInt 1)) (k42_4 + (Int64.ofInt 1)) (k42_6 + (Int64.ofInt 1)) (k42_8) (k42_10) (k42_12) (k42_14) (k42_16 + 1) h328 h328I h328F (by omega) (by omega) (by omega) (by omega) (by omega) (by omega)  rfl
                      · intro hc402
                        change ¬ (c391 ≤ (0 : Int)) at hc402
                        refine pw_ld E (pc' := 127) (st' := [.ref 141]) rfl (fun _ => rfl) ?_
                        refine pw_getL h328I E (c := 125) (k := 24) (pc' := 130) rfl rfl rfl rfl rfl rfl ?_
                        refine pw_lst E (pc' := 132) (ls' := [some (.ref 141), some (pw_i wt), some (.long k42_2), none, some (.long k42_4), none, some (.long k42_6), none, some (.long k42_8), none, some (.long (Int64.ofInt k42_10)), none, some (.long (pw_gl h328 125 24)), none, some (.long (Int64.ofInt k42_14)), none, some (pw_i k42_16)]) rfl rfl rfl rfl ?_
                        refine pw_ld E (pc' := 133) (st' := [.ref 141]) rfl (fun _ => rfl) ?_
                        refine pw_getM h328I E (c := 125) (k := 25) (pc' := 136) rfl rfl rfl rfl rfl rfl (fun hf403a hf403b => ?_)
                        refine pw_lst E (pc' := 138) (ls' := [some (.ref 141), some (pw_i wt), some (.long k42_2), none, some (.long k42_4), none, some (.long k42_6), none, some (.long k42_8), none, some (.long (Int64.ofInt k42_10)), none, some (.long (pw_gl h328 125 24)), none, some (.long (Int64.ofInt (pw_gm h328 125 25))), none, some (pw_i k42_16)]) rfl rfl rfl rfl ?_
                        refine pw_ld E (pc' := 139) (st' := [.long k42_2]) rfl (fun _ => rfl) ?_
                        refine pw_ld E (pc' := 140) (st' := [.long (Int64.ofInt 1), .long k42_2]) rfl (fun _ => rfl) ?_
                        refine pw_ld E (pc' := 141) (st' := [.long (k42_2 + (Int64.ofInt 1))]) rfl (fun _ => rfl) ?_
                        refine pw_lstn E (pc' := 142) (ls' := [some (.ref 141), some (pw_i wt), some (.long (k42_2 + (Int64.ofInt 1))), none, some (.long k42_4), none, some (.long k42_6), none, some (.long k42_8), none, some (.long (Int64.ofInt k42_10)), none, some (.long (pw_gl h328 125 24)), none, some (.long (Int64.ofInt (pw_gm h328 125 25))), none, some (pw_i k42_16)]) rfl rfl rfl rfl ?_
                        refine pw_ld E (pc' := 144) (st' := [.long k42_4]) rfl (fun _ => rfl) ?_
                        refine pw_ld E (pc' := 145) (st' := [.ref 141, .long k42_4]) rfl (fun _ => rfl) ?_
                        refine pw_getL h328I E (c := 125) (k := 24) (pc' := 148) rfl rfl rfl rfl rfl rfl ?_
                        refine pw_ld E (pc' := 149) (st' := [.long (Int64.ofInt 0), .long (pw_gl h328 125 24), .long k42_4]) rfl (fun _ => rfl) ?_
                        refine pw_lcmp E (pc' := 150) rfl rfl (fun c404 hc404 => ?_)
                        refine pw_if E (pc' := 157) rfl (by decide) (by omega) (by omega) ?_ ?_
                        · intro hc405
                          change (0 : Int) ≤ c404 at hc405
                          refine pw_ld E (pc' := 158) (st' := [.long (Int64.ofInt 0), .long k42_4]) rfl (fun _ => rfl) ?_
                          refine pw_ld E (pc' := 159) (st' := [.long (k42_4 + (Int64.ofInt 0))]) rfl (fun _ => rfl) ?_
                          refine pw_lst E (pc' := 161) (ls' := [some (.ref 141), some (pw_i wt), some (.long (k42_2 + (Int64.ofInt 1))), none, some (.long (k42_4 + (Int64.ofInt 0))), none, some (.long k42_6), none, some (.long k42_8), none, some (.long (Int64.ofInt k42_10)), none, some (.long (pw_gl h328 125 24)), none, some (.long (Int64.ofInt (pw_gm h328 125 25))), none, some (pw_i k42_16)]) rfl rfl rfl rfl ?_
                          refine pw_ld E (pc' := 163) (st' := [.long k42_6]) rfl (fun _ => rfl) ?_
                          refine pw_ld E (pc' := 164) (st' := [.ref 141, .long k42_6]) rfl (fun _ => rfl) ?_
                          refine pw_getL h328I E (c := 125) (k := 24) (pc' := 167) rfl rfl rfl rfl rfl rfl ?_
                          refine pw_ld E (pc' := 168) (st' := [.long (Int64.ofInt 0), .long (pw_gl h328 125 24), .long k42_6]) rfl (fun _ => rfl) ?_
                          refine pw_lcmp E (pc' := 169) rfl rfl (fun c406 hc406 => ?_)
                          refine pw_if E (pc' := 176) rfl (by decide) (by omega) (by omega) ?_ ?_
                          · intro hc407
                            change c406 ≤ (0 : Int) at hc407
                            refine pw_ld E (pc' := 177) (st' := [.long (Int64.ofInt 0), .long k42_6]) rfl (fun _ => rfl) ?_
                            refine pw_ld E (pc' := 178) (st' := [.long (k42_6 + (Int64.ofInt 0))]) rfl (fun _ => rfl) ?_
                            refine pw_lst E (pc' := 180) (ls' := [some (.ref 141), some (pw_i wt), some (.long (k42_2 + (Int64.ofInt 1))), none, some (.long (k42_4 + (Int64.ofInt 0))), none, some (.long (k42_6 + (Int64.ofInt 0))), none, some (.long k42_8), none, some (.long (Int64.ofInt k42_10)), none, some (.long (pw_gl h328 125 24)), none, some (.long (Int64.ofInt (pw_gm h328 125 25))), none, some (pw_i k42_16)]) rfl rfl rfl rfl ?_
                            refine pw_inc E (pc' := 183) (ls' := [some (.ref 141), some (pw_i wt), some (.long (k42_2 + (Int64.ofInt 1))), none, some (.long (k42_4 + (Int64.ofInt 0))), none, some (.long (k42_6 + (Int64.ofInt 0))), none, some (.long k42_8), none, some (.long (Int64.ofInt k42_10)), none, some (.long (pw_gl h328 125 24)), none, some (.long (Int64.ofInt (pw_gm h328 125 25))), none, some (pw_i (k42_16 + 1))]) rfl rfl rfl rfl ?_
                            refine pw_goto E (pc' := 42) rfl (by decide) ?_
                            exact ih42 _ (by omega) (k42_2 + (Int64.ofInt 1)) (k42_4 + (Int64.ofInt 0)) (k42_6 + (Int64.ofInt 0)) (k42_8) (k42_10) (pw_gl h328 125 24) (pw_gm h328 125 25) (k42_16 + 1) h328 h328I h328F (by omega) (by omega) (by omega) (by omega) (by omega) (by omega)  rfl
                          · intro hc408
                            change ¬ (c406 ≤ (0 : Int)) at hc408
                            refine pw_ld E (pc' := 173) (st' := [.long (Int64.ofInt 1), .long k42_6]) rfl (fun _ => rfl) ?_
                            refine pw_goto E (pc' := 177) rfl (by decide) ?_
                            refine pw_ld E (pc' := 178) (st' := [.long (k42_6 + (Int64.ofInt 1))]) rfl (fun _ => rfl) ?_
                            refine pw_lst E (pc' := 180) (ls' := [some (.ref 141), some (pw_i wt), some (.long (k42_2 + (Int64.ofInt 1))), none, some (.long (k42_4 + (Int64.ofInt 0))), none, some (.long (k42_6 + (Int64.ofInt 1))), none, some (.long k42_8), none, some (.long (Int64.ofInt k42_10)), none, some (.long (pw_gl h328 125 24)), none, some (.long (Int64.ofInt (pw_gm h328 125 25))), none, some (pw_i k42_16)]) rfl rfl rfl rfl ?_
                            refine pw_inc E (pc' := 183) (ls' := [some (.ref 141), some (pw_i wt), some (.long (k42_2 + (Int64.ofInt 1))), none, some (.long (k42_4 + (Int64.ofInt 0))), none, some (.long (k42_6 + (Int64.ofInt 1))), none, some (.long k42_8), none, some (.long (Int64.ofInt k42_10)), none, some (.long (pw_gl h328 125 24)), none, some (.long (Int64.ofInt (pw_gm h328 125 25))), none, some (pw_i (k42_16 + 1))]) rfl rfl rfl rfl ?_
                            refine pw_goto E (pc' := 42) rfl (by decide) ?_
                            exact ih42 _ (by omega) (k42_2 + (Int64.ofInt 1)) (k42_4 + (Int64.ofInt 0)) (k42_6 + (Int64.ofInt 1)) (k42_8) (k42_10) (pw_gl h328 125 24) (pw_gm h328 125 25) (k42_16 + 1) h328 h328I h328F (by omega) (by omega) (by omega) (by omega) (by omega) (by omega)  rfl
                        · intro hc409
                          change ¬ ((0 : Int) ≤ c404) at hc409
                          refine pw_ld E (pc' := 154) (st' := [.long (Int64.ofInt 1), .long k42_4]) rfl (fun _ => rfl) ?_
                          refine pw_goto E (pc' := 158) rfl (by decide) ?_
                          refine pw_ld E (pc' := 159) (st' := [.long (k42_4 + (Int64.ofInt 1))]) rfl (fun _ => rfl) ?_
                          refine pw_lst E (pc' := 161) (ls' := [some (.ref 141), some (pw_i wt), some (.long (k42_2 + (Int64.ofInt 1))), none, some (.long (k42_4 + (Int64.ofInt 1))), none, some (.long k42_6), none, some (.long k42_8), none, some (.long (Int64.ofInt k42_10)), none, some (.long (pw_gl h328 125 24)), none, some (.long (Int64.ofInt (pw_gm h328 125 25))), none, some (pw_i k42_16)]) rfl rfl rfl rfl ?_
                          refine pw_ld E (pc' := 163) (st' := [.long k42_6]) rfl (fun _ => rfl) ?_
                          refine pw_ld E (pc' := 164) (st' := [.ref 141, .long k42_6]) rfl (fun _ => rfl) ?_
                          refine pw_getL h328I E (c := 125) (k := 24) (pc' := 167) rfl rfl rfl rfl rfl rfl ?_
                          refine pw_ld E (pc' := 168) (st' := [.long (Int64.ofInt 0), .long (pw_gl h328 125 24), .long k42_6]) rfl (fun _ => rfl) ?_
                          refine pw_lcmp E (pc' := 169) rfl rfl (fun c410 hc410 => ?_)
                          refine pw_if E (pc' := 176) rfl (by decide) (by omega) (by omega) ?_ ?_
                          · intro hc411
                            change c410 ≤ (0 : Int) at hc411
                            refine pw_ld E (pc' := 177) (st' := [.long (Int64.ofInt 0), .long k42_6]) rfl (fun _ => rfl) ?_
                            refine pw_ld E (pc' := 178) (st' := [.long (k42_6 + (Int64.ofInt 0))]) rfl (fun _ => rfl) ?_
                            refine pw_lst E (pc' := 180) (ls' := [some (.ref 141), some (pw_i wt), some (.long (k42_2 + (Int64.ofInt 1))), none, some (.long (k42_4 + (Int64.ofInt 1))), none, some (.long (k42_6 + (Int64.ofInt 0))), none, some (.long k42_8), none, some (.long (Int64.ofInt k42_10)), none, some (.long (pw_gl h328 125 24)), none, some (.long (Int64.ofInt (pw_gm h328 125 25))), none, some (pw_i k42_16)]) rfl rfl rfl rfl ?_
                            refine pw_inc E (pc' := 183) (ls' := [some (.ref 141), some (pw_i wt), some (.long (k42_2 + (Int64.ofInt 1))), none, some (.long (k42_4 + (Int64.ofInt 1))), none, some (.long (k42_6 + (Int64.ofInt 0))), none, some (.long k42_8), none, some (.long (Int64.ofInt k42_10)), none, some (.long (pw_gl h328 125 24)), none, some (.long (Int64.ofInt (pw_gm h328 125 25))), none, some (pw_i (k42_16 + 1))]) rfl rfl rfl rfl ?_
                            refine pw_goto E (pc' := 42) rfl (by decide) ?_
                            exact ih42 _ (by omega) (k42_2 + (Int64.ofInt 1)) (k42_4 + (Int64.ofInt 1)) (k42_6 + (Int64.ofInt 0)) (k42_8) (k42_10) (pw_gl h328 125 24) (pw_gm h328 125 25) (k42_16 + 1) h328 h328I h328F (by omega) (by omega) (by omega) (by omega) (by omega) (by omega)  rfl
                          · intro hc412
                            change ¬ (c410 ≤ (0 : Int)) at hc412
                            refine pw_ld E (pc' := 173) (st' := [.long (Int64.ofInt 1), .long k42_6]) rfl (fun _ => rfl) ?_
                            refine pw_goto E (pc' := 177) rfl (by decide) ?_
                            refine pw_ld E (pc' := 178) (st' := [.long (k42_6 + (Int64.ofInt 1))]) rfl (fun _ => rfl) ?_
                            refine pw_lst E (pc' := 180) (ls' := [some (.ref 141), some (pw_i wt), some (.long (k42_2 + (Int64.ofInt 1))), none, some (.long (k42_4 + (Int64.ofInt 1))), none, some (.long (k42_6 + (Int64.ofInt 1))), none, some (.long k42_8), none, some (.long (Int64.ofInt k42_10)), none, some (.long (pw_gl h328 125 24)), none, some (.long (Int64.ofInt (pw_gm h328 125 25))), none, some (pw_i k42_16)]) rfl rfl rfl rfl ?_
                            refine pw_inc E (pc' := 183) (ls' := [some (.ref 141), some (pw_i wt), some (.long (k42_2 + (Int64.ofInt 1))), none, some (.long (k42_4 + (Int64.ofInt 1))), none, some (.long (k42_6 + (Int64.ofInt 1))), none, some (.long k42_8), none, some (.long (Int64.ofInt k42_10)), none, some (.long (pw_gl h328 125 24)), none, some (.long (Int64.ofInt (pw_gm h328 125 25))), none, some (pw_i (k42_16 + 1))]) rfl rfl rfl rfl ?_
                            refine pw_goto E (pc' := 42) rfl (by decide) ?_
                            exact ih42 _ (by omega) (k42_2 + (Int64.ofInt 1)) (k42_4 + (Int64.ofInt 1)) (k42_6 + (Int64.ofInt 1)) (k42_8) (k42_10) (pw_gl h328 125 24) (pw_gm h328 125 25) (k42_16 + 1) h328 h328I h328F (by omega) (by omega) (by omega) (by omega) (by omega) (by omega)  rfl
                  · intro hc413
                    change ¬ ((0 : Int) ≤ c375) at hc413
                    refine pw_ld E (pc' := 91) (st' := [.ref 141]) rfl (fun _ => rfl) ?_
                    refine pw_getL h328I E (c := 125) (k := 24) (pc' := 94) rfl rfl rfl rfl rfl rfl ?_
                    refine pw_lst E (pc' := 96) (ls' := [some (.ref 141), some (pw_i wt), some (.long k42_2), none, some (.long k42_4), none, some (.long k42_6), none, some (.long (pw_gl h328 125 24)), none, some (.long (Int64.ofInt k42_10)), none, some (.long k42_12), none, some (.long (Int64.ofInt k42_14)), none, some (pw_i k42_16)]) rfl rfl rfl rfl ?_
                    refine pw_ld E (pc' := 97) (st' := [.ref 141]) rfl (fun _ => rfl) ?_
                    refine pw_getM h328I E (c := 125) (k := 25) (pc' := 100) rfl rfl rfl rfl rfl rfl (fun hf414a hf414b => ?_)
                    refine pw_lst E (pc' := 102) (ls' := [some (.ref 141), some (pw_i wt), some (.long k42_2), none, some (.long k42_4), none, some (.long k42_6), none, some (.long (pw_gl h328 125 24)), none, some (.long (Int64.ofInt (pw_gm h328 125 25))), none, some (.long k42_12), none, some (.long (Int64.ofInt k42_14)), none, some (pw_i k42_16)]) rfl rfl rfl rfl ?_
                    refine pw_ld E (pc' := 103) (st' := [.long k42_2]) rfl (fun _ => rfl) ?_
                    refine pw_ld E (pc' := 104) (st' := [.long (Int64.ofInt 0), .long k42_2]) rfl (fun _ => rfl) ?_
                    refine pw_lcmp E (pc' := 105) rfl rfl (fun c415 hc415 => ?_)
                    refine pw_if E (pc' := 126) rfl (by decide) (by omega) (by omega) ?_ ?_
                    · intro hc416
                      change c415 = (0 : Int) at hc416
                      refine pw_ld E (pc' := 127) (st' := [.ref 141]) rfl (fun _ => rfl) ?_
                      refine pw_getL h328I E (c := 125) (k := 24) (pc' := 130) rfl rfl rfl rfl rfl rfl ?_
                      refine pw_lst E (pc' := 132) (ls' := [some (.ref 141), some (pw_i wt), some (.long k42_2), none, some (.long k42_4), none, some (.long k42_6), none, some (.long (pw_gl h328 125 24)), none, some (.long (Int64.ofInt (pw_gm h328 125 25))), none, some (.long (pw_gl h328 125 24)), none, some (.long (Int64.ofInt k42_14)), none, some (pw_i k42_16)]) rfl rfl rfl rfl ?_
                      refine pw_ld E (pc' := 133) (st' := [.ref 141]) rfl (fun _ => rfl) ?_
                      refine pw_getM h328I E (c := 125) (k := 25) (pc' := 136) rfl rfl rfl rfl rfl rfl (fun hf417a hf417b => ?_)
                      refine pw_lst E (pc' := 138) (ls' := [some (.ref 141), some (pw_i wt), some (.long k42_2), none, some (.long k42_4), none, some (.long k42_6), none, some (.long (pw_gl h328 125 24)), none, some (.long (Int64.ofInt (pw_gm h328 125 25))), none, some (.long (pw_gl h328 125 24)), none, some (.long (Int64.ofInt (pw_gm h328 125 25))), none, some (pw_i k42_16)]) rfl rfl rfl rfl ?_
                      refine pw_ld E (pc' := 139) (st' := [.long k42_2]) rfl (fun _ => rfl) ?_
                      refine pw_ld E (pc' := 140) (st' := [.long (Int64.ofInt 1), .long k42_2]) rfl (fun _ => rfl) ?_
                      refine pw_ld E (pc' := 141) (st' := [.long (k42_2 + (Int64.ofInt 1))]) rfl (fun _ => rfl) ?_
                      refine pw_lstn E (pc' := 142) (ls' := [some (.ref 141), some (pw_i wt), some (.long (k42_2 + (Int64.ofInt 1))), none, some (.long k42_4), none, some (.long k42_6), none, some (.long (pw_gl h328 125 24)), none, some (.long (Int64.ofInt (pw_gm h328 125 25))), none, some (.long (pw_gl h328 125 24)), none, some (.long (Int64.ofInt (pw_gm h328 125 25))), none, some (pw_i k42_16)]) rfl rfl rfl rfl ?_
                      refine pw_ld E (pc' := 144) (st' := [.long k42_4]) rfl (fun _ => rfl) ?_
                      refine pw_ld E (pc' := 145) (st' := [.ref 141, .long k42_4]) rfl (fun _ => rfl) ?_
                      refine pw_getL h328I E (c := 125) (k := 24) (pc' := 148) rfl rfl rfl rfl rfl rfl ?_
                      refine pw_ld E (pc' := 149) (st' := [.long (Int64.ofInt 0), .long (pw_gl h328 125 24), .long k42_4]) rfl (fun _ => rfl) ?_
                      refine pw_lcmp E (pc' := 150) rfl rfl (fun c418 hc418 => ?_)
                      refine pw_if E (pc' := 157) rfl (by decide) (by omega) (by omega) ?_ ?_
                      · intro hc419
                        change (0 : Int) ≤ c418 at hc419
                        refine pw_ld E (pc' := 158) (st' := [.long (Int64.ofInt 0), .long k42_4]) rfl (fun _ => rfl) ?_
                        refine pw_ld E (pc' := 159) (st' := [.long (k42_4 + (Int64.ofInt 0))]) rfl (fun _ => rfl) ?_
                        refine pw_lst E (pc' := 161) (ls' := [some (.ref 141), some (pw_i wt), some (.long (k42_2 + (Int64.ofInt 1))), none, some (.long (k42_4 + (Int64.ofInt 0))), none, some (.long k42_6), none, some (.long (pw_gl h328 125 24)), none, some (.long (Int64.ofInt (pw_gm h328 125 25))), none, some (.long (pw_gl h328 125 24)), none, some (.long (Int64.ofInt (pw_gm h328 125 25))), none, some (pw_i k42_16)]) rfl rfl rfl rfl ?_
                        refine pw_ld E (pc' := 163) (st' := [.long k42_6]) rfl (fun _ => rfl) ?_
                        refine pw_ld E (pc' := 164) (st' := [.ref 141, .long k42_6]) rfl (fun _ => rfl) ?_
                        refine pw_getL h328I E (c := 125) (k := 24) (pc' := 167) rfl rfl rfl rfl rfl rfl ?_
                        refine pw_ld E (pc' := 168) (st' := [.long (Int64.ofInt 0), .long (pw_gl h328 125 24), .long k42_6]) rfl (fun _ => rfl) ?_
                        refine pw_lcmp E (pc' := 169) rfl rfl (fun c420 hc420 => ?_)
                        refine pw_if E (pc' := 176) rfl (by decide) (by omega) (by omega) ?_ ?_
                        · intro hc421
                          change c420 ≤ (0 : Int) at hc421
                          refine pw_ld E (pc' := 177) (st' := [.long (Int64.ofInt 0), .long k42_6]) rfl (fun _ => rfl) ?_
                          refine pw_ld E (pc' := 178) (st' := [.long (k42_6 + (Int64.ofInt 0))]) rfl (fun _ => rfl) ?_
                          refine pw_lst E (pc' := 180) (ls' := [some (.ref 141), some (pw_i wt), some (.long (k42_2 + (Int64.ofInt 1))), none, some (.long (k42_4 + (Int64.ofInt 0))), none, some (.long (k42_6 + (Int64.ofInt 0))), none, some (.long (pw_gl h328 125 24)), none, some (.long (Int64.ofInt (pw_gm h328 125 25))), none, some (.long (pw_gl h328 125 24)), none, some (.long (Int64.ofInt (pw_gm h328 125 25))), none, some (pw_i k42_16)]) rfl rfl rfl rfl ?_
                          refine pw_inc E (pc' := 183) (ls' := [some (.ref 141), some (pw_i wt), some (.long (k42_2 + (Int64.ofInt 1))), none, some (.long (k42_4 + (Int64.ofInt 0))), none, some (.long (k42_6 + (Int64.ofInt 0))), none, some (.long (pw_gl h328 125 24)), none, some (.long (Int64.ofInt (pw_gm h328 125 25))), none, some (.long (pw_gl h328 125 24)), none, some (.long (Int64.ofInt (pw_gm h328 125 25))), none, some (pw_i (k42_16 + 1))]) rfl rfl rfl rfl ?_
                          refine pw_goto E (pc' := 42) rfl (by decide) ?_
                          exact ih42 _ (by omega) (k42_2 + (Int64.ofInt 1)) (k42_4 + (Int64.ofInt 0)) (k42_6 + (Int64.ofInt 0)) (pw_gl h328 125 24) (pw_gm h328 125 25) (pw_gl h328 125 24) (pw_gm h328 125 25) (k42_16 + 1) h328 h328I h328F (by omega) (by omega) (by omega) (by omega) (by omega) (by omega)  rfl
                        · intro hc422
                          change ¬ (c420 ≤ (0 : Int)) at hc422
                          refine pw_ld E (pc' := 173) (st' := [.long (Int64.ofInt 1), .long k42_6]) rfl (fun _ => rfl) ?_
                          refine pw_goto E (pc' := 177) rfl (by decide) ?_
                          refine pw_ld E (pc' := 178) (st' := [.long (k42_6 + (Int64.ofInt 1))]) rfl (fun _ => rfl) ?_
                          refine pw_lst E (pc' := 180) (ls' := [some (.ref 141), some (pw_i wt), some (.long (k42_2 + (Int64.ofInt 1))), none, some (.long (k42_4 + (Int64.ofInt 0))), none, some (.long (k42_6 + (Int64.ofInt 1))), none, some (.long (pw_gl h328 125 24)), none, some (.long (Int64.ofInt (pw_gm h328 125 25))), none, some (.long (pw_gl h328 125 24)), none, some (.long (Int64.ofInt (pw_gm h328 125 25))), none, some (pw_i k42_16)]) rfl rfl rfl rfl ?_
                          refine pw_inc E (pc' := 183) (ls' := [some (.ref 141), some (pw_i wt), some (.long (k42_2 + (Int64.ofInt 1))), none, some (.long (k42_4 + (Int64.ofInt 0))), none, some (.long (k42_6 + (Int64.ofInt 1))), none, some (.long (pw_gl h328 125 24)), none, some (.long (Int64.ofInt (pw_gm h328 125 25))), none, some (.long (pw_gl h328 125 24)), none, some (.long (Int64.ofInt (pw_gm h328 125 25))), none, some (pw_i (k42_16 + 1))]) rfl rfl rfl rfl ?_
                          refine pw_goto E (pc' := 42) rfl (by decide) ?_
                          exact ih42 _ (by omega) (k42_2 + (Int64.ofInt 1)) (k42_4 + (Int64.ofInt 0)) (k42_6 + (Int64.ofInt 1)) (pw_gl h328 125 24) (pw_gm h328 125 25) (pw_gl h328 125 24) (pw_gm h328 125 25) (k42_16 + 1) h328 h328I h328F (by omega) (by omega) (by omega) (by omega) (by omega) (by omega)  rfl
                      · intro hc423
                        change ¬ ((0 : Int) ≤ c418) at hc423
                        refine pw_ld E (pc' := 154) (st' := [.long (Int64.ofInt 1), .long k42_4]) rfl (fun _ => rfl) ?_
                        refine pw_goto E (pc' := 158) rfl (by decide) ?_
                        refine pw_ld E (pc' := 159) (st' := [.long (k42_4 + (Int64.ofInt 1))]) rfl (fun _ => rfl) ?_
                        refine pw_lst E (pc' := 161) (ls' := [some (.ref 141), some (pw_i wt), some (.long (k42_2 + (Int64.ofInt 1))), none, some (.long (k42_4 + (Int64.ofInt 1))), none, some (.long k42_6), none, some (.long (pw_gl h328 125 24)), none, some (.long (Int64.ofInt (pw_gm h328 125 25))), none, some (.long (pw_gl h328 125 24)), none, some (.long (Int64.ofInt (pw_gm h328 125 25))), none, some (pw_i k42_16)]) rfl rfl rfl rfl ?_
                        refine pw_ld E (pc' := 163) (st' := [.long k42_6]) rfl (fun _ => rfl) ?_
                        refine pw_ld E (pc' := 164) (st' := [.ref 141, .long k42_6]) rfl (fun _ => rfl) ?_
                        refine pw_getL h328I E (c := 125) (k := 24) (pc' := 167) rfl rfl rfl rfl rfl rfl ?_
                        refine pw_ld E (pc' := 168) (st' := [.long (Int64.ofInt 0), .long (pw_gl h328 125 24), .long k42_6]) rfl (fun _ => rfl) ?_
                        refine pw_lcmp E (pc' := 169) rfl rfl (fun c424 hc424 => ?_)
                        refine pw_if E (pc' := 176) rfl (by decide) (by omega) (by omega) ?_ ?_
                        · intro hc425
                          change c424 ≤ (0 : Int) at hc425
                          refine pw_ld E (pc' := 177) (st' := [.long (Int64.ofInt 0), .long k42_6]) rfl (fun _ => rfl) ?_
                          refine pw_ld E (pc' := 178) (st' := [.long (k42_6 + (Int64.ofInt 0))]) rfl (fun _ => rfl) ?_
                          refine pw_lst E (pc' := 180) (ls' := [some (.ref 141), some (pw_i wt), some (.long (k42_2 + (Int64.ofInt 1))), none, some (.long (k42_4 + (Int64.ofInt 1))), none, some (.long (k42_6 + (Int64.ofInt 0))), none, some (.long (pw_gl h328 125 24)), none, some (.long (Int64.ofInt (pw_gm h328 125 25))), none, some (.long (pw_gl h328 125 24)), none, some (.long (Int64.ofInt (pw_gm h328 125 25))), none, some (pw_i k42_16)]) rfl rfl rfl rfl ?_
                          refine pw_inc E (pc' := 183) (ls' := [some (.ref 141), some (pw_i wt), some (.long (k42_2 + (Int64.ofInt 1))), none, some (.long (k42_4 + (Int64.ofInt 1))), none, some (.long (k42_6 + (Int64.ofInt 0))), none, some (.long (pw_gl h328 125 24)), none, some (.long (Int64.ofInt (pw_gm h328 125 25))), none, some (.long (pw_gl h328 125 24)), none, some (.long (Int64.ofInt (pw_gm h328 125 25))), none, some (pw_i (k42_16 + 1))]) rfl rfl rfl rfl ?_
                          refine pw_goto E (pc' := 42) rfl (by decide) ?_
                          exact ih42 _ (by omega) (k42_2 + (Int64.ofInt 1)) (k42_4 + (Int64.ofInt 1)) (k42_6 + (Int64.ofInt 0)) (pw_gl h328 125 24) (pw_gm h328 125 25) (pw_gl h328 125 24) (pw_gm h328 125 25) (k42_16 + 1) h328 h328I h328F (by omega) (by omega) (by omega) (by omega) (by omega) (by omega)  rfl
                        · intro hc426
                          change ¬ (c424 ≤ (0 : Int)) at hc426
                          refine pw_ld E (pc' := 173) (st' := [.long (Int64.ofInt 1), .long k42_6]) rfl (fun _ => rfl) ?_
                          refine pw_goto E (pc' := 177) rfl (by decide) ?_
                          refine pw_ld E (pc' := 178) (st' := [.long (k42_6 + (Int64.ofInt 1))]) rfl (fun _ => rfl) ?_
                          refine pw_lst E (pc' := 180) (ls' := [some (.ref 141), some (pw_i wt), some (.long (k42_2 + (Int64.ofInt 1))), none, some (.long (k42_4 + (Int64.ofInt 1))), none, some (.long (k42_6 + (Int64.ofInt 1))), none, some (.long (pw_gl h328 125 24)), none, some (.long (Int64.ofInt (pw_gm h328 125 25))), none, some (.long (pw_gl h328 125 24)), none, some (.long (Int64.ofInt (pw_gm h328 125 25))), none, some (pw_i k42_16)]) rfl rfl rfl rfl ?_
                          refine pw_inc E (pc' := 183) (ls' := [some (.ref 141), some (pw_i wt), some (.long (k42_2 + (Int64.ofInt 1))), none, some (.long (k42_4 + (Int64.ofInt 1))), none, some (.long (k42_6 + (Int64.ofInt 1))), none, some (.long (pw_gl h328 125 24)), none, some (.long (Int64.ofInt (pw_gm h328 125 25))), none, some (.long (pw_gl h328 125 24)), none, some (.long (Int64.ofInt (pw_gm h328 125 25))), none, some (pw_i (k42_16 + 1))]) rfl rfl rfl rfl ?_
                          refine pw_goto E (pc' := 42) rfl (by decide) ?_
                          exact ih42 _ (by omega) (k42_2 + (Int64.ofInt 1)) (k42_4 + (Int64.ofInt 1)) (k42_6 + (Int64.ofInt 1)) (pw_gl h328 125 24) (pw_gm h328 125 25) (pw_gl h328 125 24) (pw_gm h328 125 25) (k42_16 + 1) h328 h328I h328F (by omega) (by omega) (by omega) (by omega) (by omega) (by omega)  rfl
                    · intro hc427
                      change ¬ (c415 = (0 : Int)) at hc427
                      refine pw_ld E (pc' := 109) (st' := [.ref 141]) rfl (fun _ => rfl) ?_
                      refine pw_getL h328I E (c := 125) (k := 24) (pc' := 112) rfl rfl rfl rfl rfl rfl ?_
                      refine pw_ld E (pc' := 114) (st' := [.long (Int64.ofInt k42_14), .long (pw_gl h328 125 24)]) rfl (fun _ => rfl) ?_
                      refine pw_ld E (pc' := 115) (st' := [.long ((pw_gl h328 125 24) * (Int64.ofInt k42_14))]) rfl (fun _ => rfl) ?_
                      refine pw_ld E (pc' := 117) (st' := [.long k42_12, .long ((pw_gl h328 125 24) * (Int64.ofInt k42_14))]) rfl (fun _ => rfl) ?_
                      refine pw_ld E (pc' := 118) (st' := [.ref 141, .long k42_12, .long ((pw_gl h328 125 24) * (Int64.ofInt k42_14))]) rfl (fun _ => rfl) ?_
                      refine pw_getM h328I E (c := 125) (k := 25) (pc' := 121) rfl rfl rfl rfl rfl rfl (fun hf428a hf428b => ?_)
                      refine pw_ld E (pc' := 122) (st' := [.long (k42_12 * (Int64.ofInt (pw_gm h328 125 25))), .long ((pw_gl h328 125 24) * (Int64.ofInt k42_14))]) rfl (fun _ => rfl) ?_
                      refine pw_lcmp E (pc' := 123) rfl rfl (fun c429 hc429 => ?_)
                      refine pw_if E (pc' := 138) rfl (by decide) (by omega) (by omega) ?_ ?_
                      · intro hc430
                        change c429 ≤ (0 : Int) at hc430
                        refine pw_ld E (pc' := 139) (st' := [.long k42_2]) rfl (fun _ => rfl) ?_
                        refine pw_ld E (pc' := 140) (st' := [.long (Int64.ofInt 1), .long k42_2]) rfl (fun _ => rfl) ?_
                        refine pw_ld E (pc' := 141) (st' := [.long (k42_2 + (Int64.ofInt 1))]) rfl (fun _ => rfl) ?_
                        refine pw_lstn E (pc' := 142) (ls' := [some (.ref 141), some (pw_i wt), some (.long (k42_2 + (Int64.ofInt 1))), none, some (.long k42_4), none, some (.long k42_6), none, some (.long (pw_gl h328 125 24)), none, some (.long (Int64.ofInt (pw_gm h328 125 25))), none, some (.long k42_12), none, some (.long (Int64.ofInt k42_14)), none, some (pw_i k42_16)]) rfl rfl rfl rfl ?_
                        refine pw_ld E (pc' := 144) (st' := [.long k42_4]) rfl (fun _ => rfl) ?_
                        refine pw_ld E (pc' := 145) (st' := [.ref 141, .long k42_4]) rfl (fun _ => rfl) ?_
                        refine pw_getL h328I E (c := 125) (k := 24) (pc' := 148) rfl rfl rfl rfl rfl rfl ?_
                        refine pw_ld E (pc' := 149) (st' := [.long (Int64.ofInt 0), .long (pw_gl h328 125 24), .long k42_4]) rfl (fun _ => rfl) ?_
                        refine pw_lcmp E (pc' := 150) rfl rfl (fun c431 hc431 => ?_)
                        refine pw_if E (pc' := 157) rfl (by decide) (by omega) (by omega) ?_ ?_
                        · intro hc432
                          change (0 : Int) ≤ c431 at hc432
                          refine pw_ld E (pc' := 158) (st' := [.long (Int64.ofInt 0), .long k42_4]) rfl (fun _ => rfl) ?_
                          refine pw_ld E (pc' := 159) (st' := [.long (k42_4 + (Int64.ofInt 0))]) rfl (fun _ => rfl) ?_
                          refine pw_lst E (pc' := 161) (ls' := [some (.ref 141), some (pw_i wt), some (.long (k42_2 + (Int64.ofInt 1))), none, some (.long (k42_4 + (Int64.ofInt 0))), none, some (.long k42_6), none, some (.long (pw_gl h328 125 24)), none, some (.long (Int64.ofInt (pw_gm h328 125 25))), none, some (.long k42_12), none, some (.long (Int64.ofInt k42_14)), none, some (pw_i k42_16)]) rfl rfl rfl rfl ?_
                          refine pw_ld E (pc' := 163) (st' := [.long k42_6]) rfl (fun _ => rfl) ?_
                          refine pw_ld E (pc' := 164) (st' := [.ref 141, .long k42_6]) rfl (fun _ => rfl) ?_
                          refine pw_getL h328I E (c := 125) (k := 24) (pc' := 167) rfl rfl rfl rfl rfl rfl ?_
                          refine pw_ld E (pc' := 168) (st' := [.long (Int64.ofInt 0), .long (pw_gl h328 125 24), .long k42_6]) rfl (fun _ => rfl) ?_
                          refine pw_lcmp E (pc' := 169) rfl rfl (fun c433 hc433 => ?_)
                          refine pw_if E (pc' := 176) rfl (by decide) (by omega) (by omega) ?_ ?_
                          · intro hc434
                            change c433 ≤ (0 : Int) at hc434
                            refine pw_ld E (pc' := 177) (st' := [.long (Int64.ofInt 0), .long k42_6]) rfl (fun _ => rfl) ?_
                            refine pw_ld E (pc' := 178) (st' := [.long (k42_6 + (Int64.ofInt 0))]) rfl (fun _ => rfl) ?_
                            refine pw_lst E (pc' := 180) (ls' := [some (.ref 141), some (pw_i wt), some (.long (k42_2 + (Int64.ofInt 1))), none, some (.long (k42_4 + (Int64.ofInt 0))), none, some (.long (k42_6 + (Int64.ofInt 0))), none, some (.long (pw_gl h328 125 24)), none, some (.long (Int64.ofInt (pw_gm h328 125 25))), none, some (.long k42_12), none, some (.long (Int64.ofInt k42_14)), none, some (pw_i k42_16)]) rfl rfl rfl rfl ?_
                            refine pw_inc E (pc' := 183) (ls' := [some (.ref 141), some (pw_i wt), some (.long (k42_2 + (Int64.ofInt 1))), none, some (.long (k42_4 + (Int64.ofInt 0))), none, some (.long (k42_6 + (Int64.ofInt 0))), none, some (.long (pw_gl h328 125 24)), none, some (.long (Int64.ofInt (pw_gm h328 125 25))), none, some (.long k42_12), none, some (.long (Int64.ofInt k42_14)), none, some (pw_i (k42_16 + 1))]) rfl rfl rfl rfl ?_
                            refine pw_goto E (pc' := 42) rfl (by decide) ?_
                            exact ih42 _ (by omega) (k42_2 + (Int64.ofInt 1)) (k42_4 + (Int64.ofInt 0)) (k42_6 + (Int64.ofInt 0)) (pw_gl h328 125 24) (pw_gm h328 125 25) (k42_12) (k42_14) (k42_16 + 1) h328 h328I h328F (by omega) (by omega) (by omega) (by omega) (by omega) (by omega)  rfl
                          · intro hc435
                            change ¬ (c433 ≤ (0 : Int)) at hc435
                            refine pw_ld E (pc' := 173) (st' := [.long (Int64.ofInt 1), .long k42_6]) rfl (fun _ => rfl) ?_
                            refine pw_goto E (pc' := 177) rfl (by decide) ?_
                            refine pw_ld E (pc' := 178) (st' := [.long (k42_6 + (Int64.ofInt 1))]) rfl (fun _ => rfl) ?_
                            refine pw_lst E (pc' := 180) (ls' := [some (.ref 141), some (pw_i wt), some (.long (k42_2 + (Int64.ofInt 1))), none, some (.long (k42_4 + (Int64.ofInt 0))), none, some (.long (k42_6 + (Int64.ofInt 1))), none, some (.long (pw_gl h328 125 24)), none, some (.long (Int64.ofInt (pw_gm h328 125 25))), none, some (.long k42_12), none, some (.long (Int64.ofInt k42_14)), none, some (pw_i k42_16)]) rfl rfl rfl rfl ?_
                            refine pw_inc E (pc' := 183) (ls' := [some (.ref 141), some (pw_i wt), some (.long (k42_2 + (Int64.ofInt 1))), none, some (.long (k42_4 + (Int64.ofInt 0))), none, some (.long (k42_6 + (Int64.ofInt 1))), none, some (.long (pw_gl h328 125 24)), none, some (.long (Int64.ofInt (pw_gm h328 125 25))), none, some (.long k42_12), none, some (.long (Int64.ofInt k42_14)), none, some (pw_i (k42_16 + 1))]) rfl rfl rfl rfl ?_
                            refine pw_goto E (pc' := 42) rfl (by decide) ?_
                            exact ih42 _ (by omega) (k42_2 + (Int64.ofInt 1)) (k42_4 + (Int64.ofInt 0)) (k42_6 + (Int64.ofInt 1)) (pw_gl h328 125 24) (pw_gm h328 125 25) (k42_12) (k42_14) (k42_16 + 1) h328 h328I h328F (by omega) (by omega) (by omega) (by omega) (by omega) (by omega)  rfl
                        · intro hc436
                          change ¬ ((0 : Int) ≤ c431) at hc436
                          refine pw_ld E (pc' := 154) (st' := [.long (Int64.ofInt 1), .long k42_4]) rfl (fun _ => rfl) ?_
                          refine pw_goto E (pc' := 158) rfl (by decide) ?_
                          refine pw_ld E (pc' := 159) (st' := [.long (k42_4 + (Int64.ofInt 1))]) rfl (fun _ => rfl) ?_
                          refine pw_lst E (pc' := 161) (ls' := [some (.ref 141), some (pw_i wt), some (.long (k42_2 + (Int64.ofInt 1))), none, some (.long (k42_4 + (Int64.ofInt 1))), none, some (.long k42_6), none, some (.long (pw_gl h328 125 24)), none, some (.long (Int64.ofInt (pw_gm h328 125 25))), none, some (.long k42_12), none, some (.long (Int64.ofInt k42_14)), none, some (pw_i k42_16)]) rfl rfl rfl rfl ?_
                          refine pw_ld E (pc' := 163) (st' := [.long k42_6]) rfl (fun _ => rfl) ?_
                          refine pw_ld E (pc' := 164) (st' := [.ref 141, .long k42_6]) rfl (fun _ => rfl) ?_
                          refine pw_getL h328I E (c := 125) (k := 24) (pc' := 167) rfl rfl rfl rfl rfl rfl ?_
                          refine pw_ld E (pc' := 168) (st' := [.long (Int64.ofInt 0), .long (pw_gl h328 125 24), .long k42_6]) rfl (fun _ => rfl) ?_
                          refine pw_lcmp E (pc' := 169) rfl rfl (fun c437 hc437 => ?_)
                          refine pw_if E (pc' := 176) rfl (by decide) (by omega) (by omega) ?_ ?_
                          · intro hc438
                            change c437 ≤ (0 : Int) at hc438
                            refine pw_ld E (pc' := 177) (st' := [.long (Int64.ofInt 0), .long k42_6]) rfl (fun _ => rfl) ?_
                            refine pw_ld E (pc' := 178) (st' := [.long (k42_6 + (Int64.ofInt 0))]) rfl (fun _ => rfl) ?_
                            refine pw_lst E (pc' := 180) (ls' := [some (.ref 141), some (pw_i wt), some (.long (k42_2 + (Int64.ofInt 1))), none, some (.long (k42_4 + (Int64.ofInt 1))), none, some (.long (k42_6 + (Int64.ofInt 0))), none, some (.long (pw_gl h328 125 24)), none, some (.long (Int64.ofInt (pw_gm h328 125 25))), none, some (.long k42_12), none, some (.long (Int64.ofInt k42_14)), none, some (pw_i k42_16)]) rfl rfl rfl rfl ?_
                            refine pw_inc E (pc' := 183) (ls' := [some (.ref 141), some (pw_i wt), some (.long (k42_2 + (Int64.ofInt 1))), none, some (.long (k42_4 + (Int64.ofInt 1))), none, some (.long (k42_6 + (Int64.ofInt 0))), none, some (.long (pw_gl h328 125 24)), none, some (.long (Int64.ofInt (pw_gm h328 125 25))), none, some (.long k42_12), none, some (.long (Int64.ofInt k42_14)), none, some (pw_i (k42_16 + 1))]) rfl rfl rfl rfl ?_
                            refine pw_goto E (pc' := 42) rfl (by decide) ?_
                            exact ih42 _ (by omega) (k42_2 + (Int64.ofInt 1)) (k42_4 + (Int64.ofInt 1)) (k42_6 + (Int64.ofInt 0)) (pw_gl h328 125 24) (pw_gm h328 125 25) (k42_12) (k42_14) (k42_16 + 1) h328 h328I h328F (by omega) (by omega) (by omega) (by omega) (by omega) (by omega)  rfl
                          · intro hc439
                            change ¬ (c437 ≤ (0 : Int)) at hc439
                            refine pw_ld E (pc' := 173) (st' := [.long (Int64.ofInt 1), .long k42_6]) rfl (fun _ => rfl) ?_
                            refine pw_goto E (pc' := 177) rfl (by decide) ?_
                            refine pw_ld E (pc' := 178) (st' := [.long (k42_6 + (Int64.ofInt 1))]) rfl (fun _ => rfl) ?_
                            refine pw_lst E (pc' := 180) (ls' := [some (.ref 141), some (pw_i wt), some (.long (k42_2 + (Int64.ofInt 1))), none, some (.long (k42_4 + (Int64.ofInt 1))), none, some (.long (k42_6 + (Int64.ofInt 1))), none, some (.long (pw_gl h328 125 24)), none, some (.long (Int64.ofInt (pw_gm h328 125 25))), none, some (.long k42_12), none, some (.long (Int64.ofInt k42_14)), none, some (pw_i k42_16)]) rfl rfl rfl rfl ?_
                            refine pw_inc E (pc' := 183) (ls' := [some (.ref 141), some (pw_i wt), some (.long (k42_2 + (Int64.ofInt 1))), none, some (.long (k42_4 + (Int64.ofInt 1))), none, some (.long (k42_6 + (Int64.ofInt 1))), none, some (.long (pw_gl h328 125 24)), none, some (.long (Int64.ofInt (pw_gm h328 125 25))), none, some (.long k42_12), none, some (.long (Int64.ofInt k42_14)), none, some (pw_i (k42_16 + 1))]) rfl rfl rfl rfl ?_
                            refine pw_goto E (pc' := 42) rfl (by decide) ?_
                            exact ih42 _ (by omega) (k42_2 + (Int64.ofInt 1)) (k42_4 + (Int64.ofInt 1)) (k42_6 + (Int64.ofInt 1)) (pw_gl h328 125 24) (pw_gm h328 125 25) (k42_12) (k42_14) (k42_16 + 1) h328 h328I h328F (by omega) (by omega) (by omega) (by omega) (by omega) (by omega)  rfl
                      · intro hc440
                        change ¬ (c429 ≤ (0 : Int)) at hc440
                        refine pw_ld E (pc' := 127) (st' := [.ref 141]) rfl (fun _ => rfl) ?_
                        refine pw_getL h328I E (c := 125) (k := 24) (pc' := 130) rfl rfl rfl rfl rfl rfl ?_
                        refine pw_lst E (pc' := 132) (ls' := [some (.ref 141), some (pw_i wt), some (.long k42_2), none, some (.long k42_4), none, some (.long k42_6), none, some (.long (pw_gl h328 125 24)), none, some (.long (Int64.ofInt (pw_gm h328 125 25))), none, some (.long (pw_gl h328 125 24)), none, some (.long (Int64.ofInt k42_14)), none, some (pw_i k42_16)]) rfl rfl rfl rfl ?_
                        refine pw_ld E (pc' := 133) (st' := [.ref 141]) rfl (fun _ => rfl) ?_
                        refine pw_getM h328I E (c := 125) (k := 25) (pc' := 136) rfl rfl rfl rfl rfl rfl (fun hf441a hf441b => ?_)
                        refine pw_lst E (pc' := 138) (ls' := [some (.ref 141), some (pw_i wt), some (.long k42_2), none, some (.long k42_4), none, some (.long k42_6), none, some (.long (pw_gl h328 125 24)), none, some (.long (Int64.ofInt (pw_gm h328 125 25))), none, some (.long (pw_gl h328 125 24)), none, some (.long (Int64.ofInt (pw_gm h328 125 25))), none, some (pw_i k42_16)]) rfl rfl rfl rfl ?_
                        refine pw_ld E (pc' := 139) (st' := [.long k42_2]) rfl (fun _ => rfl) ?_
                        refine pw_ld E (pc' := 140) (st' := [.long (Int64.ofInt 1), .long k42_2]) rfl (fun _ => rfl) ?_
                        refine pw_ld E (pc' := 141) (st' := [.long (k42_2 + (Int64.ofInt 1))]) rfl (fun _ => rfl) ?_
                        refine pw_lstn E (pc' := 142) (ls' := [some (.ref 141), some (pw_i wt), some (.long (k42_2 + (Int64.ofInt 1))), none, some (.long k42_4), none, some (.long k42_6), none, some (.long (pw_gl h328 125 24)), none, some (.long (Int64.ofInt (pw_gm h328 125 25))), none, some (.long (pw_gl h328 125 24)), none, some (.long (Int64.ofInt (pw_gm h328 125 25))), none, some (pw_i k42_16)]) rfl rfl rfl rfl ?_
                        refine pw_ld E (pc' := 144) (st' := [.long k42_4]) rfl (fun _ => rfl) ?_
                        refine pw_ld E (pc' := 145) (st' := [.ref 141, .long k42_4]) rfl (fun _ => rfl) ?_
                        refine pw_getL h328I E (c := 125) (k := 24) (pc' := 148) rfl rfl rfl rfl rfl rfl ?_
                        refine pw_ld E (pc' := 149) (st' := [.long (Int64.ofInt 0), .long (pw_gl h328 125 24), .long k42_4]) rfl (fun _ => rfl) ?_
                        refine pw_lcmp E (pc' := 150) rfl rfl (fun c442 hc442 => ?_)
                        refine pw_if E (pc' := 157) rfl (by decide) (by omega) (by omega) ?_ ?_
                        · intro hc443
                          change (0 : Int) ≤ c442 at hc443
                          refine pw_ld E (pc' := 158) (st' := [.long (Int64.ofInt 0), .long k42_4]) rfl (fun _ => rfl) ?_
                          refine pw_ld E (pc' := 159) (st' := [.long (k42_4 + (Int64.ofInt 0))]) rfl (fun _ => rfl) ?_
                          refine pw_lst E (pc' := 161) (ls' := [some (.ref 141), some (pw_i wt), some (.long (k42_2 + (Int64.ofInt 1))), none, some (.long (k42_4 + (Int64.ofInt 0))), none, some (.long k42_6), none, some (.long (pw_gl h328 125 24)), none, some (.long (Int64.ofInt (pw_gm h328 125 25))), none, some (.long (pw_gl h328 125 24)), none, some (.long (Int64.ofInt (pw_gm h328 125 25))), none, some (pw_i k42_16)]) rfl rfl rfl rfl ?_
                          refine pw_ld E (pc' := 163) (st' := [.long k42_6]) rfl (fun _ => rfl) ?_
                          refine pw_ld E (pc' := 164) (st' := [.ref 141, .long k42_6]) rfl (fun _ => rfl) ?_
                          refine pw_getL h328I E (c := 125) (k := 24) (pc' := 167) rfl rfl rfl rfl rfl rfl ?_
                          refine pw_ld E (pc' := 168) (st' := [.long (Int64.ofInt 0), .long (pw_gl h328 125 24), .long k42_6]) rfl (fun _ => rfl) ?_
                          refine pw_lcmp E (pc' := 169) rfl rfl (fun c444 hc444 => ?_)
                          refine pw_if E (pc' := 176) rfl (by decide) (by omega) (by omega) ?_ ?_
                          · intro hc445
                            change c444 ≤ (0 : Int) at hc445
                            refine pw_ld E (pc' := 177) (st' := [.long (Int64.ofInt 0), .long k42_6]) rfl (fun _ => rfl) ?_
                            refine pw_ld E (pc' := 178) (st' := [.long (k42_6 + (Int64.ofInt 0))]) rfl (fun _ => rfl) ?_
                            refine pw_lst E (pc' := 180) (ls' := [some (.ref 141), some (pw_i wt), some (.long (k42_2 + (Int64.ofInt 1))), none, some (.long (k42_4 + (Int64.ofInt 0))), none, some (.long (k42_6 + (Int64.ofInt 0))), none, some (.long (pw_gl h328 125 24)), none, some (.long (Int64.ofInt (pw_gm h328 125 25))), none, some (.long (pw_gl h328 125 24)), none, some (.long (Int64.ofInt (pw_gm h328 125 25))), none, some (pw_i k42_16)]) rfl rfl rfl rfl ?_
                            refine pw_inc E (pc' := 183) (ls' := [some (.ref 141), some (pw_i wt), some (.long (k42_2 + (Int64.ofInt 1))), none, some (.long (k42_4 + (Int64.ofInt 0))), none, some (.long (k42_6 + (Int64.ofInt 0))), none, some (.long (pw_gl h328 125 24)), none, some (.long (Int64.ofInt (pw_gm h328 125 25))), none, some (.long (pw_gl h328 125 24)), none, some (.long (Int64.ofInt (pw_gm h328 125 25))), none, some (pw_i (k42_16 + 1))]) rfl rfl rfl rfl ?_
                            refine pw_goto E (pc' := 42) rfl (by decide) ?_
                            exact ih42 _ (by omega) (k42_2 + (Int64.ofInt 1)) (k42_4 + (Int64.ofInt 0)) (k42_6 + (Int64.ofInt 0)) (pw_gl h328 125 24) (pw_gm h328 125 25) (pw_gl h328 125 24) (pw_gm h328 125 25) (k42_16 + 1) h328 h328I h328F (by omega) (by omega) (by omega) (by omega) (by omega) (by omega)  rfl
                          · intro hc446
                            change ¬ (c444 ≤ (0 : Int)) at hc446
                            refine pw_ld E (pc' := 173) (st' := [.long (Int64.ofInt 1), .long k42_6]) rfl (fun _ => rfl) ?_
                            refine pw_goto E (pc' := 177) rfl (by decide) ?_
                            refine pw_ld E (pc' := 178) (st' := [.long (k42_6 + (Int64.ofInt 1))]) rfl (fun _ => rfl) ?_
                            refine pw_lst E (pc' := 180) (ls' := [some (.ref 141), some (pw_i wt), some (.long (k42_2 + (Int64.ofInt 1))), none, some (.long (k42_4 + (Int64.ofInt 0))), none, some (.long (k42_6 + (Int64.ofInt 1))), none, some (.long (pw_gl h328 125 24)), none, some (.long (Int64.ofInt (pw_gm h328 125 25))), none, some (.long (pw_gl h328 125 24)), none, some (.long (Int64.ofInt (pw_gm h328 125 25))), none, some (pw_i k42_16)]) rfl rfl rfl rfl ?_
                            refine pw_inc E (pc' := 183) (ls' := [some (.ref 141), some (pw_i wt), some (.long (k42_2 + (Int64.ofInt 1))), none, some (.long (k42_4 + (Int64.ofInt 0))), none, some (.long (k42_6 + (Int64.ofInt 1))), none, some (.long (pw_gl h328 125 24)), none, some (.long (Int64.ofInt (pw_gm h328 125 25))), none, some (.long (pw_gl h328 125 24)), none, some (.long (Int64.ofInt (pw_gm h328 125 25))), none, some (pw_i (k42_16 + 1))]) rfl rfl rfl rfl ?_
                            refine pw_goto E (pc' := 42) rfl (by decide) ?_
                            exact ih42 _ (by omega) (k42_2 + (Int64.ofInt 1)) (k42_4 + (Int64.ofInt 0)) (k42_6 + (Int64.ofInt 1)) (pw_gl h328 125 24) (pw_gm h328 125 25) (pw_gl h328 125 24) (pw_gm h328 125 25) (k42_16 + 1) h328 h328I h328F (by omega) (by omega) (by omega) (by omega) (by omega) (by omega)  rfl
                        · intro hc447
                          change ¬ ((0 : Int) ≤ c442) at hc447
                          refine pw_ld E (pc' := 154) (st' := [.long (Int64.ofInt 1), .long k42_4]) rfl (fun _ => rfl) ?_
                          refine pw_goto E (pc' := 158) rfl (by decide) ?_
                          refine pw_ld E (pc' := 159) (st' := [.long (k42_4 + (Int64.ofInt 1))]) rfl (fun _ => rfl) ?_
                          refine pw_lst E (pc' := 161) (ls' := [some (.ref 141), some (pw_i wt), some (.long (k42_2 + (Int64.ofInt 1))), none, some (.long (k42_4 + (Int64.ofInt 1))), none, some (.long k42_6), none, some (.long (pw_gl h328 125 24)), none, some (.long (Int64.ofInt (pw_gm h328 125 25))), none, some (.long (pw_gl h328 125 24)), none, some (.long (Int64.ofInt (pw_gm h328 125 25))), none, some (pw_i k42_16)]) rfl rfl rfl rfl ?_
                          refine pw_ld E (pc' := 163) (st' := [.long k42_6]) rfl (fun _ => rfl) ?_
                          refine pw_ld E (pc' := 164) (st' := [.ref 141, .long k42_6]) rfl (fun _ => rfl) ?_
                          refine pw_getL h328I E (c := 125) (k := 24) (pc' := 167) rfl rfl rfl rfl rfl rfl ?_
                          refine pw_ld E (pc' := 168) (st' := [.long (Int64.ofInt 0), .long (pw_gl h328 125 24), .long k42_6]) rfl (fun _ => rfl) ?_
                          refine pw_lcmp E (pc' := 169) rfl rfl (fun c448 hc448 => ?_)
                          refine pw_if E (pc' := 176) rfl (by decide) (by omega) (by omega) ?_ ?_
                          · intro hc449
                            change c448 ≤ (0 : Int) at hc449
                            refine pw_ld E (pc' := 177) (st' := [.long (Int64.ofInt 0), .long k42_6]) rfl (fun _ => rfl) ?_
                            refine pw_ld E (pc' := 178) (st' := [.long (k42_6 + (Int64.ofInt 0))]) rfl (fun _ => rfl) ?_
                            refine pw_lst E (pc' := 180) (ls' := [some (.ref 141), some (pw_i wt), some (.long (k42_2 + (Int64.ofInt 1))), none, some (.long (k42_4 + (Int64.ofInt 1))), none, some (.long (k42_6 + (Int64.ofInt 0))), none, some (.long (pw_gl h328 125 24)), none, some (.long (Int64.ofInt (pw_gm h328 125 25))), none, some (.long (pw_gl h328 125 24)), none, some (.long (Int64.ofInt (pw_gm h328 125 25))), none, some (pw_i k42_16)]) rfl rfl rfl rfl ?_
                            refine pw_inc E (pc' := 183) (ls' := [some (.ref 141), some (pw_i wt), some (.long (k42_2 + (Int64.ofInt 1))), none, some (.long (k42_4 + (Int64.ofInt 1))), none, some (.long (k42_6 + (Int64.ofInt 0))), none, some (.long (pw_gl h328 125 24)), none, some (.long (Int64.ofInt (pw_gm h328 125 25))), none, some (.long (pw_gl h328 125 24)), none, some (.long (Int64.ofInt (pw_gm h328 125 25))), none, some (pw_i (k42_16 + 1))]) rfl rfl rfl rfl ?_
                            refine pw_goto E (pc' := 42) rfl (by decide) ?_
                            exact ih42 _ (by omega) (k42_2 + (Int64.ofInt 1)) (k42_4 + (Int64.ofInt 1)) (k42_6 + (Int64.ofInt 0)) (pw_gl h328 125 24) (pw_gm h328 125 25) (pw_gl h328 125 24) (pw_gm h328 125 25) (k42_16 + 1) h328 h328I h328F (by omega) (by omega) (by omega) (by omega) (by omega) (by omega)  rfl
                          · intro hc450
                            change ¬ (c448 ≤ (0 : Int)) at hc450
                            refine pw_ld E (pc' := 173) (st' := [.long (Int64.ofInt 1), .long k42_6]) rfl (fun _ => rfl) ?_
                            refine pw_goto E (pc' := 177) rfl (by decide) ?_
                            refine pw_ld E (pc' := 178) (st' := [.long (k42_6 + (Int64.ofInt 1))]) rfl (fun _ => rfl) ?_
                            refine pw_lst E (pc' := 180) (ls' := [some (.ref 141), some (pw_i wt), some (.long (k42_2 + (Int64.ofInt 1))), none, some (.long (k42_4 + (Int64.ofInt 1))), none, some (.long (k42_6 + (Int64.ofInt 1))), none, some (.long (pw_gl h328 125 24)), none, some (.long (Int64.ofInt (pw_gm h328 125 25))), none, some (.long (pw_gl h328 125 24)), none, some (.long (Int64.ofInt (pw_gm h328 125 25))), none, some (pw_i k42_16)]) rfl rfl rfl rfl ?_
                            refine pw_inc E (pc' := 183) (ls' := [some (.ref 141), some (pw_i wt), some (.long (k42_2 + (Int64.ofInt 1))), none, some (.long (k42_4 + (Int64.ofInt 1))), none, some (.long (k42_6 + (Int64.ofInt 1))), none, some (.long (pw_gl h328 125 24)), none, some (.long (Int64.ofInt (pw_gm h328 125 25))), none, some (.long (pw_gl h328 125 24)), none, some (.long (Int64.ofInt (pw_gm h328 125 25))), none, some (pw_i (k42_16 + 1))]) rfl rfl rfl rfl ?_
                            refine pw_goto E (pc' := 42) rfl (by decide) ?_
                            exact ih42 _ (by omega) (k42_2 + (Int64.ofInt 1)) (k42_4 + (Int64.ofInt 1)) (k42_6 + (Int64.ofInt 1)) (pw_gl h328 125 24) (pw_gm h328 125 25) (pw_gl h328 125 24) (pw_gm h328 125 25) (k42_16 + 1) h328 h328I h328F (by omega) (by omega) (by omega) (by omega) (by omega) (by omega)  rfl
            · skip
              refine pw_if E (pc' := 180) rfl (by decide) (by omega) (by omega) ?_ ?_
              · intro hc452
                change x330 = (0 : Int) at hc452
                refine pw_inc E (pc' := 183) (ls' := [some (.ref 141), some (pw_i wt), some (.long k42_2), none, some (.long k42_4), none, some (.long k42_6), none, some (.long k42_8), none, some (.long (Int64.ofInt k42_10)), none, some (.long k42_12), none, some (.long (Int64.ofInt k42_14)), none, some (pw_i (k42_16 + 1))]) rfl rfl rfl rfl ?_
                refine pw_goto E (pc' := 42) rfl (by decide) ?_
                exact ih42 _ (by omega) (k42_2) (k42_4) (k42_6) (k42_8) (k42_10) (k42_12) (k42_14) (k42_16 + 1) h328 h328I h328F (by omega) (by omega) (by omega) (by omega) (by omega) (by omega)  rfl
              · intro hc453
                change ¬ (x330 = (0 : Int)) at hc453
                exfalso; omega
      exact L42 _ (Int64.ofInt 0) (Int64.ofInt 0) (Int64.ofInt 0) (Int64.ofInt 0) (1) (Int64.ofInt 0) (1) (0) h225 h225I h225F (by omega) (by omega) (by omega) (by omega) (by omega) (by omega)  rfl
    · intro hc454
      change ¬ (x3 = (0 : Int)) at hc454
      exfalso; omega
