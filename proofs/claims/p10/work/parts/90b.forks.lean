/-! the model (printed by wip/tool/mall.py) -/
set_option maxHeartbeats 4000000 in
theorem cm_286 {X : List (Nat × List Value)} {d : Nat} {h : pm_H} (hd : 5 ≤ d) (I : pw_I h) (wt : Int) (hwt1 : (-2147483648) ≤ wt) (hwt2 : wt ≤ 2147483647) (hp0 : pw_K h) : pw X d h 286 0 [some (.ref 141), some (pw_i wt), none, none, none, none, none, none, none, none, none, none, none, none, none, none, none] [] (fun h' v => pw_I h' ∧ pw_E [125, 149, 150] h h' ∧ ∃ w : Int64, v = .inl (some (.long w))) := by
  have E : pm_ent 286 = some (2, 17, 12, 2, pmc_286) := rfl
  have E0 : pw_E [125, 149, 150] h h := pw_E.rf _ _
  refine pw_ld E (pc' := 1) (st' := [.ref 141]) rfl (fun _ => rfl) ?_
  refine pw_ld E (pc' := 2) (st' := [pw_i wt, .ref 141]) rfl (fun _ => rfl) ?_
  refine pw_ld E (pc' := 3) (st' := [pw_i 0, pw_i wt, .ref 141]) rfl (fun _ => rfl) ?_
  refine pw_bip E (pc' := 5) rfl rfl (by decide) ?_
  refine pw_call (m' := 202) (As := [pw_i wt, pw_i 0, pw_i 6]) (rest := [.ref 141]) (ls'' := [some (pw_i wt), some (pw_i 0), some (pw_i 6)]) (by omega) E rfl (fun _ => pw_iS rfl rfl rfl) (rfl : pm_ent 202 = some (3, 3, 12, 1, pmc_202)) rfl rfl (cm_202 (by omega) I (wt) (by omega) (by omega) (0) (by omega) (by omega) (6) (by omega) (by omega)) ?_
  rintro u2 v1 ⟨rfl, x3, rfl, hx3a, hx3b, hx3r⟩
  refine ⟨_, rfl, ?_⟩
  show pw X d h 286 8 [some (.ref 141), some (pw_i wt), none, none, none, none, none, none, none, none, none, none, none, none, none, none, none] [pw_i x3, .ref 141] _
  have hx3r : (x3 = 1 ∧ 0 ≤ wt ∧ wt ≤ 6) ∨ (x3 = 0 ∧ ¬ (0 ≤ wt ∧ wt ≤ 6)) := hx3r
  rcases (by omega : x3 = 1 ∨ x3 = 0) with hb4 | hb4
  · have hb4 : x3 = 1 := by omega
    refine pw_if E (pc' := 15) rfl (by decide) (by omega) (by omega) ?_ ?_
    · intro hc5
      have hc5 : x3 = (0 : Int) := hc5
      exfalso; omega
    · intro hc6
      have hc6 : ¬ (x3 = (0 : Int)) := hc6
      refine pw_ld E (pc' := 12) (st' := [pw_i 0, .ref 141]) rfl (fun _ => rfl) ?_
      refine pw_goto E (pc' := 16) rfl (by decide) ?_
      refine pw_putI I E (c := 125) (k := 0) (pc' := 19) rfl rfl rfl rfl (by omega) (by omega) (by omega) (by omega) rfl rfl ?_
      intro h7I h7E
      generalize h7w : pw_w h 125 0 (pw_i 0) = h7 at h7I h7E ⊢
      have h7F := E0.tr (h7E.wk (W' := [125, 149, 150]) (by first | rfl | simp))
      refine pw_ld E (pc' := 20) (st' := [.long (Int64.ofInt 0)]) rfl (fun _ => rfl) ?_
      refine pw_lstn E (pc' := 21) (ls' := [some (.ref 141), some (pw_i wt), some (.long (Int64.ofInt 0)), none, none, none, none, none, none, none, none, none, none, none, none, none, none]) rfl rfl rfl rfl ?_
      refine pw_ld E (pc' := 22) (st' := [.long (Int64.ofInt 0)]) rfl (fun _ => rfl) ?_
      refine pw_lst E (pc' := 24) (ls' := [some (.ref 141), some (pw_i wt), some (.long (Int64.ofInt 0)), none, some (.long (Int64.ofInt 0)), none, none, none, none, none, none, none, none, none, none, none, none]) rfl rfl rfl rfl ?_
      refine pw_ld E (pc' := 25) (st' := [.long (Int64.ofInt 0)]) rfl (fun _ => rfl) ?_
      refine pw_lst E (pc' := 27) (ls' := [some (.ref 141), some (pw_i wt), some (.long (Int64.ofInt 0)), none, some (.long (Int64.ofInt 0)), none, some (.long (Int64.ofInt 0)), none, none, none, none, none, none, none, none, none, none]) rfl rfl rfl rfl ?_
      refine pw_ld E (pc' := 28) (st' := [.long (Int64.ofInt 0)]) rfl (fun _ => rfl) ?_
      refine pw_lst E (pc' := 30) (ls' := [some (.ref 141), some (pw_i wt), some (.long (Int64.ofInt 0)), none, some (.long (Int64.ofInt 0)), none, some (.long (Int64.ofInt 0)), none, some (.long (Int64.ofInt 0)), none, none, none, none, none, none, none, none]) rfl rfl rfl rfl ?_
      refine pw_ld E (pc' := 31) (st' := [.long (Int64.ofInt 1)]) rfl (fun _ => rfl) ?_
      refine pw_lst E (pc' := 33) (ls' := [some (.ref 141), some (pw_i wt), some (.long (Int64.ofInt 0)), none, some (.long (Int64.ofInt 0)), none, some (.long (Int64.ofInt 0)), none, some (.long (Int64.ofInt 0)), none, some (.long (Int64.ofInt 1)), none, none, none, none, none, none]) rfl rfl rfl rfl ?_
      refine pw_ld E (pc' := 34) (st' := [.long (Int64.ofInt 0)]) rfl (fun _ => rfl) ?_
      refine pw_lst E (pc' := 36) (ls' := [some (.ref 141), some (pw_i wt), some (.long (Int64.ofInt 0)), none, some (.long (Int64.ofInt 0)), none, some (.long (Int64.ofInt 0)), none, some (.long (Int64.ofInt 0)), none, some (.long (Int64.ofInt 1)), none, some (.long (Int64.ofInt 0)), none, none, none, none]) rfl rfl rfl rfl ?_
      refine pw_ld E (pc' := 37) (st' := [.long (Int64.ofInt 1)]) rfl (fun _ => rfl) ?_
      refine pw_lst E (pc' := 39) (ls' := [some (.ref 141), some (pw_i wt), some (.long (Int64.ofInt 0)), none, some (.long (Int64.ofInt 0)), none, some (.long (Int64.ofInt 0)), none, some (.long (Int64.ofInt 0)), none, some (.long (Int64.ofInt 1)), none, some (.long (Int64.ofInt 0)), none, some (.long (Int64.ofInt 1)), none, none]) rfl rfl rfl rfl ?_
      refine pw_ld E (pc' := 40) (st' := [pw_i 0]) rfl (fun _ => rfl) ?_
      refine pw_ist E (pc' := 42) (ls' := [some (.ref 141), some (pw_i wt), some (.long (Int64.ofInt 0)), none, some (.long (Int64.ofInt 0)), none, some (.long (Int64.ofInt 0)), none, some (.long (Int64.ofInt 0)), none, some (.long (Int64.ofInt 1)), none, some (.long (Int64.ofInt 0)), none, some (.long (Int64.ofInt 1)), none, some (pw_i 0)]) rfl rfl rfl rfl ?_
      have L42 : ∀ (n42 : Nat) (k42_2 : Int64) (k42_4 : Int64) (k42_6 : Int64) (k42_8 : Int64) (k42_10 : Int) (k42_12 : Int64) (k42_14 : Int) (k42_16 : Int) (gh42 : pm_H), pw_I gh42 → pw_E [125, 149, 150] h gh42 → 1 ≤ k42_10 → k42_10 ≤ 576 → 1 ≤ k42_14 → k42_14 ≤ 576 → 0 ≤ k42_16 → k42_16 ≤ 44 → (44 - k42_16).toNat = n42 → pw X d gh42 286 42 [some (.ref 141), some (pw_i wt), some (.long k42_2), none, some (.long k42_4), none, some (.long k42_6), none, some (.long k42_8), none, some (.long (Int64.ofInt k42_10)), none, some (.long k42_12), none, some (.long (Int64.ofInt k42_14)), none, some (pw_i k42_16)] [] (fun h' v => pw_I h' ∧ pw_E [125, 149, 150] h h' ∧ ∃ w : Int64, v = .inl (some (.long w))) := by
        intro n42
        induction n42 using Nat.strongRecOn with
        | ind n42 ih42 =>
          intro k42_2 k42_4 k42_6 k42_8 k42_10 k42_12 k42_14 k42_16 gh42 I42 E42 k42_10a k42_10b k42_14a k42_14b k42_16a k42_16b hm42
          refine pw_ld E (pc' := 44) (st' := [pw_i k42_16]) rfl (fun _ => rfl) ?_
          refine pw_bip E (pc' := 46) rfl rfl (by decide) ?_
          refine pw_if2 E (pc' := 186) rfl (by decide) (by omega) (by omega) (by decide) (by decide) ?_ ?_
          · intro hc8
            have hc8 : (44 : Int) ≤ k42_16 := hc8
            refine pw_ld E (pc' := 187) (st' := [.ref 141]) rfl (fun _ => rfl) ?_
            refine pw_ld E (pc' := 188) (st' := [.ref 141, .ref 141]) rfl (fun _ => rfl) ?_
            refine pw_getI I42 E (c := 125) (k := 0) (pc' := 191) rfl rfl rfl rfl rfl rfl (fun hf9a hf9b hf9c hf9d => ?_)
            refine pw_if E (pc' := 205) rfl (by decide) (by omega) (by omega) ?_ ?_
            · intro hc10
              have hc10 : (0 : Int) < pw_g gh42 125 0 := hc10
              refine pw_ld E (pc' := 206) (st' := [pw_i 1, .ref 141]) rfl (fun _ => rfl) ?_
              refine pw_goto E (pc' := 210) rfl (by decide) ?_
              refine pw_putI I42 E (c := 125) (k := 0) (pc' := 213) rfl rfl rfl rfl (by omega) (by omega) (by omega) (by omega) rfl rfl ?_
              intro h11I h11E
              generalize h11w : pw_w gh42 125 0 (pw_i 1) = h11 at h11I h11E ⊢
              have h11F := E42.tr (h11E.wk (W' := [125, 149, 150]) (by first | rfl | simp))
              refine pw_ld E (pc' := 214) (st' := [.ref 141]) rfl (fun _ => rfl) ?_
              have he13 : pw_g h11 125 0 = 1 := by rw [← h11w]; exact pw_g_eq (c := 125) (k := 0) I42 rfl rfl (by omega) (by omega)
              refine pw_getI h11I E (c := 125) (k := 0) (pc' := 217) rfl rfl rfl rfl rfl rfl (fun hf12a hf12b hf12c hf12d => ?_)
              refine pw_if E (pc' := 222) rfl (by decide) (by omega) (by omega) ?_ ?_
              · intro hc14
                have hc14 : pw_g h11 125 0 ≤ (0 : Int) := hc14
                exfalso; omega
              · intro hc15
                have hc15 : ¬ (pw_g h11 125 0 ≤ (0 : Int)) := hc15
                refine pw_ld E (pc' := 221) (st' := [.long (Int64.ofInt 0)]) rfl (fun _ => rfl) ?_
                refine pw_lret E rfl ?_
                exact ⟨h11I, h11F, ⟨_, rfl⟩⟩
            · intro hc16
              have hc16 : ¬ ((0 : Int) < pw_g gh42 125 0) := hc16
              refine pw_ld E (pc' := 195) (st' := [pw_i wt, .ref 141]) rfl (fun _ => rfl) ?_
              refine pw_ld E (pc' := 196) (st' := [pw_i 2, pw_i wt, .ref 141]) rfl (fun _ => rfl) ?_
              refine pw_if2 E (pc' := 209) rfl (by decide) (by omega) (by omega) (by decide) (by decide) ?_ ?_
              · intro hc17
                have hc17 : wt ≤ (2 : Int) := hc17
                refine pw_ld E (pc' := 210) (st' := [pw_i 0, .ref 141]) rfl (fun _ => rfl) ?_
                refine pw_putI I42 E (c := 125) (k := 0) (pc' := 213) rfl rfl rfl rfl (by omega) (by omega) (by omega) (by omega) rfl rfl ?_
                intro h18I h18E
                generalize h18w : pw_w gh42 125 0 (pw_i 0) = h18 at h18I h18E ⊢
                have h18F := E42.tr (h18E.wk (W' := [125, 149, 150]) (by first | rfl | simp))
                refine pw_ld E (pc' := 214) (st' := [.ref 141]) rfl (fun _ => rfl) ?_
                have he20 : pw_g h18 125 0 = 0 := by rw [← h18w]; exact pw_g_eq (c := 125) (k := 0) I42 rfl rfl (by omega) (by omega)
                refine pw_getI h18I E (c := 125) (k := 0) (pc' := 217) rfl rfl rfl rfl rfl rfl (fun hf19a hf19b hf19c hf19d => ?_)
                refine pw_if E (pc' := 222) rfl (by decide) (by omega) (by omega) ?_ ?_
                · intro hc21
                  have hc21 : pw_g h18 125 0 ≤ (0 : Int) := hc21
                  refine pw_ld E (pc' := 223) (st' := [.ref 141]) rfl (fun _ => rfl) ?_
                  refine pw_ld E (pc' := 224) (st' := [pw_i wt, .ref 141]) rfl (fun _ => rfl) ?_
                  refine pw_ld E (pc' := 225) (st' := [pw_i 5, pw_i wt, .ref 141]) rfl (fun _ => rfl) ?_
                  refine pw_if2 E (pc' := 233) rfl (by decide) (by omega) (by omega) (by decide) (by decide) ?_ ?_
                  · intro hc22
                    have hc22 : (5 : Int) ≤ wt := hc22
                    exfalso; omega
                  · intro hc23
                    have hc23 : ¬ ((5 : Int) ≤ wt) := hc23
                    refine pw_ld E (pc' := 230) (st' := [.long k42_8, .ref 141]) rfl (fun _ => rfl) ?_
                    refine pw_goto E (pc' := 235) rfl (by decide) ?_
                    refine pw_putL h18I E (c := 125) (k := 24) (pc' := 238) rfl rfl rfl rfl rfl rfl ?_
                    intro h24I h24E
                    generalize h24w : pw_w h18 125 24 (.long k42_8) = h24 at h24I h24E ⊢
                    have h24F := h18F.tr (h24E.wk (W' := [125, 149, 150]) (by first | rfl | simp))
                    refine pw_ld E (pc' := 239) (st' := [.ref 141]) rfl (fun _ => rfl) ?_
                    refine pw_ld E (pc' := 240) (st' := [pw_i wt, .ref 141]) rfl (fun _ => rfl) ?_
                    refine pw_ld E (pc' := 241) (st' := [pw_i 5, pw_i wt, .ref 141]) rfl (fun _ => rfl) ?_
                    refine pw_if2 E (pc' := 249) rfl (by decide) (by omega) (by omega) (by decide) (by decide) ?_ ?_
                    · intro hc25
                      have hc25 : (5 : Int) ≤ wt := hc25
                      exfalso; omega
                    · intro hc26
                      have hc26 : ¬ ((5 : Int) ≤ wt) := hc26
                      refine pw_ld E (pc' := 246) (st' := [.long (Int64.ofInt k42_10), .ref 141]) rfl (fun _ => rfl) ?_
                      refine pw_goto E (pc' := 251) rfl (by decide) ?_
                      refine pw_putM h24I E (c := 125) (k := 25) (pc' := 254) rfl rfl rfl rfl (by omega) (by omega) (by omega) (by omega) rfl rfl ?_
                      intro h27I h27E
                      generalize h27w : pw_w h24 125 25 (.long (Int64.ofInt k42_10)) = h27 at h27I h27E ⊢
                      have h27F := h24F.tr (h27E.wk (W' := [125, 149, 150]) (by first | rfl | simp))
                      refine pw_ld E (pc' := 255) (st' := [pw_i wt]) rfl (fun _ => rfl) ?_
                      refine pw_if E (pc' := 262) rfl (by decide) (by omega) (by omega) ?_ ?_
                      · intro hc28
                        have hc28 : wt ≠ (0 : Int) := hc28
                        refine pw_ld E (pc' := 263) (st' := [pw_i wt]) rfl (fun _ => rfl) ?_
                        refine pw_ld E (pc' := 264) (st' := [pw_i 1, pw_i wt]) rfl (fun _ => rfl) ?_
                        refine pw_if2 E (pc' := 272) rfl (by decide) (by omega) (by omega) (by decide) (by decide) ?_ ?_
                        · intro hc29
                          have hc29 : wt ≠ (1 : Int) := hc29
                          refine pw_ld E (pc' := 273) (st' := [pw_i wt]) rfl (fun _ => rfl) ?_
                          refine pw_ld E (pc' := 274) (st' := [pw_i 2, pw_i wt]) rfl (fun _ => rfl) ?_
                          refine pw_if2 E (pc' := 282) rfl (by decide) (by omega) (by omega) (by decide) (by decide) ?_ ?_
                          · intro hc30
                            have hc30 : wt ≠ (2 : Int) := hc30
                            exfalso; omega
                          · intro hc31
                            have hc31 : ¬ (wt ≠ (2 : Int)) := hc31
                            refine pw_ld E (pc' := 279) (st' := [.long k42_6]) rfl (fun _ => rfl) ?_
                            refine pw_goto E (pc' := 298) rfl (by decide) ?_
                            refine pw_lret E rfl ?_
                            exact ⟨h27I, h27F, ⟨_, rfl⟩⟩
                        · intro hc32
                          have hc32 : ¬ (wt ≠ (1 : Int)) := hc32
                          refine pw_ld E (pc' := 269) (st' := [.long k42_4]) rfl (fun _ => rfl) ?_
                          refine pw_goto E (pc' := 298) rfl (by decide) ?_
                          refine pw_lret E rfl ?_
                          exact ⟨h27I, h27F, ⟨_, rfl⟩⟩
                      · intro hc33
                        have hc33 : ¬ (wt ≠ (0 : Int)) := hc33
                        refine pw_ld E (pc' := 259) (st' := [.long k42_2]) rfl (fun _ => rfl) ?_
                        refine pw_goto E (pc' := 298) rfl (by decide) ?_
                        refine pw_lret E rfl ?_
                        exact ⟨h27I, h27F, ⟨_, rfl⟩⟩
                · intro hc34
                  have hc34 : ¬ (pw_g h18 125 0 ≤ (0 : Int)) := hc34
                  exfalso; omega
              · intro hc35
                have hc35 : ¬ (wt ≤ (2 : Int)) := hc35
                refine pw_ld E (pc' := 200) (st' := [.long k42_2, .ref 141]) rfl (fun _ => rfl) ?_
                refine pw_ld E (pc' := 201) (st' := [.long (Int64.ofInt 0), .long k42_2, .ref 141]) rfl (fun _ => rfl) ?_
                refine pw_lcmp E (pc' := 202) rfl rfl (fun c36 hc36 => ?_)
                refine pw_if E (pc' := 209) rfl (by decide) (by omega) (by omega) ?_ ?_
                · intro hc37
                  have hc37 : c36 ≠ (0 : Int) := hc37
                  refine pw_ld E (pc' := 210) (st' := [pw_i 0, .ref 141]) rfl (fun _ => rfl) ?_
                  refine pw_putI I42 E (c := 125) (k := 0) (pc' := 213) rfl rfl rfl rfl (by omega) (by omega) (by omega) (by omega) rfl rfl ?_
                  intro h38I h38E
                  generalize h38w : pw_w gh42 125 0 (pw_i 0) = h38 at h38I h38E ⊢
                  have h38F := E42.tr (h38E.wk (W' := [125, 149, 150]) (by first | rfl | simp))
                  refine pw_ld E (pc' := 214) (st' := [.ref 141]) rfl (fun _ => rfl) ?_
                  have he40 : pw_g h38 125 0 = 0 := by rw [← h38w]; exact pw_g_eq (c := 125) (k := 0) I42 rfl rfl (by omega) (by omega)
                  refine pw_getI h38I E (c := 125) (k := 0) (pc' := 217) rfl rfl rfl rfl rfl rfl (fun hf39a hf39b hf39c hf39d => ?_)
                  refine pw_if E (pc' := 222) rfl (by decide) (by omega) (by omega) ?_ ?_
                  · intro hc41
                    have hc41 : pw_g h38 125 0 ≤ (0 : Int) := hc41
                    refine pw_ld E (pc' := 223) (st' := [.ref 141]) rfl (fun _ => rfl) ?_
                    refine pw_ld E (pc' := 224) (st' := [pw_i wt, .ref 141]) rfl (fun _ => rfl) ?_
                    refine pw_ld E (pc' := 225) (st' := [pw_i 5, pw_i wt, .ref 141]) rfl (fun _ => rfl) ?_
                    refine pw_if2 E (pc' := 233) rfl (by decide) (by omega) (by omega) (by decide) (by decide) ?_ ?_
                    · intro hc42
                      have hc42 : (5 : Int) ≤ wt := hc42
                      refine pw_ld E (pc' := 235) (st' := [.long k42_12, .ref 141]) rfl (fun _ => rfl) ?_
                      refine pw_putL h38I E (c := 125) (k := 24) (pc' := 238) rfl rfl rfl rfl rfl rfl ?_
                      intro h43I h43E
                      generalize h43w : pw_w h38 125 24 (.long k42_12) = h43 at h43I h43E ⊢
                      have h43F := h38F.tr (h43E.wk (W' := [125, 149, 150]) (by first | rfl | simp))
                      refine pw_ld E (pc' := 239) (st' := [.ref 141]) rfl (fun _ => rfl) ?_
                      refine pw_ld E (pc' := 240) (st' := [pw_i wt, .ref 141]) rfl (fun _ => rfl) ?_
                      refine pw_ld E (pc' := 241) (st' := [pw_i 5, pw_i wt, .ref 141]) rfl (fun _ => rfl) ?_
                      refine pw_if2 E (pc' := 249) rfl (by decide) (by omega) (by omega) (by decide) (by decide) ?_ ?_
                      · intro hc44
                        have hc44 : (5 : Int) ≤ wt := hc44
                        refine pw_ld E (pc' := 251) (st' := [.long (Int64.ofInt k42_14), .ref 141]) rfl (fun _ => rfl) ?_
                        refine pw_putM h43I E (c := 125) (k := 25) (pc' := 254) rfl rfl rfl rfl (by omega) (by omega) (by omega) (by omega) rfl rfl ?_
                        intro h45I h45E
                        generalize h45w : pw_w h43 125 25 (.long (Int64.ofInt k42_14)) = h45 at h45I h45E ⊢
                        have h45F := h43F.tr (h45E.wk (W' := [125, 149, 150]) (by first | rfl | simp))
                        refine pw_ld E (pc' := 255) (st' := [pw_i wt]) rfl (fun _ => rfl) ?_
                        refine pw_if E (pc' := 262) rfl (by decide) (by omega) (by omega) ?_ ?_
                        · intro hc46
                          have hc46 : wt ≠ (0 : Int) := hc46
                          refine pw_ld E (pc' := 263) (st' := [pw_i wt]) rfl (fun _ => rfl) ?_
                          refine pw_ld E (pc' := 264) (st' := [pw_i 1, pw_i wt]) rfl (fun _ => rfl) ?_
                          refine pw_if2 E (pc' := 272) rfl (by decide) (by omega) (by omega) (by decide) (by decide) ?_ ?_
                          · intro hc47
                            have hc47 : wt ≠ (1 : Int) := hc47
                            refine pw_ld E (pc' := 273) (st' := [pw_i wt]) rfl (fun _ => rfl) ?_
                            refine pw_ld E (pc' := 274) (st' := [pw_i 2, pw_i wt]) rfl (fun _ => rfl) ?_
                            refine pw_if2 E (pc' := 282) rfl (by decide) (by omega) (by omega) (by decide) (by decide) ?_ ?_
                            · intro hc48
                              have hc48 : wt ≠ (2 : Int) := hc48
                              refine pw_ld E (pc' := 283) (st' := [.ref 141]) rfl (fun _ => rfl) ?_
                              refine pw_ld E (pc' := 284) (st' := [pw_i wt, .ref 141]) rfl (fun _ => rfl) ?_
                              refine pw_ld E (pc' := 285) (st' := [pw_i 2, pw_i wt, .ref 141]) rfl (fun _ => rfl) ?_
                              refine pw_rem E (pc' := 286) rfl rfl (by omega) (by omega) (by decide) (by decide) ?_
                              refine pw_ld E (pc' := 287) (st' := [pw_i 1, pw_i (wt % 2), .ref 141]) rfl (fun _ => rfl) ?_
                              refine pw_if2 E (pc' := 294) rfl (by decide) (by omega) (by omega) (by decide) (by decide) ?_ ?_
                              · intro hc49
                                have hc49 : wt % 2 ≠ (1 : Int) := hc49
                                refine pw_ld E (pc' := 295) (st' := [pw_i 1, .ref 141]) rfl (fun _ => rfl) ?_
                                have he50 : pw_gm h45 125 25 = k42_14 := by rw [← h45w]; exact pw_gm_eq (c := 125) (k := 25) h43I rfl rfl (by omega) (by omega)
                                obtain ⟨f51l, f51h, -⟩ := pw_obj (c := 125) h45I rfl
                                refine pw_call (m' := 222) (As := [.ref 141, pw_i 1]) (rest := []) (ls'' := [some (.ref 141), some (pw_i 1), none, none]) (by omega) E rfl (fun _ => pw_iV rfl rfl rfl rfl (pw_cellI f51h rfl)) (rfl : pm_ent 222 = some (2, 4, 12, 2, pmc_222)) rfl rfl (cm_222 (by omega) h45I (1) (by omega) (by omega) (by omega)) ?_
                                rintro u53 v52 ⟨rfl, w54, rfl⟩
                                refine ⟨_, rfl, ?_⟩
                                show pw X d h45 286 298 [some (.ref 141), some (pw_i wt), some (.long k42_2), none, some (.long k42_4), none, some (.long k42_6), none, some (.long k42_8), none, some (.long (Int64.ofInt k42_10)), none, some (.long k42_12), none, some (.long (Int64.ofInt k42_14)), none, some (pw_i k42_16)] [.long w54] _
                                refine pw_lret E rfl ?_
                                exact ⟨h45I, h45F, ⟨_, rfl⟩⟩
                              · intro hc55
                                have hc55 : ¬ (wt % 2 ≠ (1 : Int)) := hc55
                                refine pw_ld E (pc' := 291) (st' := [pw_i 0, .ref 141]) rfl (fun _ => rfl) ?_
                                refine pw_goto E (pc' := 295) rfl (by decide) ?_
                                have he56 : pw_gm h45 125 25 = k42_14 := by rw [← h45w]; exact pw_gm_eq (c := 125) (k := 25) h43I rfl rfl (by omega) (by omega)
                                obtain ⟨f57l, f57h, -⟩ := pw_obj (c := 125) h45I rfl
                                refine pw_call (m' := 222) (As := [.ref 141, pw_i 0]) (rest := []) (ls'' := [some (.ref 141), some (pw_i 0), none, none]) (by omega) E rfl (fun _ => pw_iV rfl rfl rfl rfl (pw_cellI f57h rfl)) (rfl : pm_ent 222 = some (2, 4, 12, 2, pmc_222)) rfl rfl (cm_222 (by omega) h45I (0) (by omega) (by omega) (by omega)) ?_
                                rintro u59 v58 ⟨rfl, w60, rfl⟩
                                refine ⟨_, rfl, ?_⟩
                                show pw X d h45 286 298 [some (.ref 141), some (pw_i wt), some (.long k42_2), none, some (.long k42_4), none, some (.long k42_6), none, some (.long k42_8), none, some (.long (Int64.ofInt k42_10)), none, some (.long k42_12), none, some (.long (Int64.ofInt k42_14)), none, some (pw_i k42_16)] [.long w60] _
                                refine pw_lret E rfl ?_
                                exact ⟨h45I, h45F, ⟨_, rfl⟩⟩
                            · intro hc61
                              have hc61 : ¬ (wt ≠ (2 : Int)) := hc61
                              exfalso; omega
                          · intro hc62
                            have hc62 : ¬ (wt ≠ (1 : Int)) := hc62
                            exfalso; omega
                        · intro hc63
                          have hc63 : ¬ (wt ≠ (0 : Int)) := hc63
                          exfalso; omega
                      · intro hc64
                        have hc64 : ¬ ((5 : Int) ≤ wt) := hc64
                        exfalso; omega
                    · intro hc65
                      have hc65 : ¬ ((5 : Int) ≤ wt) := hc65
                      refine pw_ld E (pc' := 230) (st' := [.long k42_8, .ref 141]) rfl (fun _ => rfl) ?_
                      refine pw_goto E (pc' := 235) rfl (by decide) ?_
                      refine pw_putL h38I E (c := 125) (k := 24) (pc' := 238) rfl rfl rfl rfl rfl rfl ?_
                      intro h66I h66E
                      generalize h66w : pw_w h38 125 24 (.long k42_8) = h66 at h66I h66E ⊢
                      have h66F := h38F.tr (h66E.wk (W' := [125, 149, 150]) (by first | rfl | simp))
                      refine pw_ld E (pc' := 239) (st' := [.ref 141]) rfl (fun _ => rfl) ?_
                      refine pw_ld E (pc' := 240) (st' := [pw_i wt, .ref 141]) rfl (fun _ => rfl) ?_
                      refine pw_ld E (pc' := 241) (st' := [pw_i 5, pw_i wt, .ref 141]) rfl (fun _ => rfl) ?_
                      refine pw_if2 E (pc' := 249) rfl (by decide) (by omega) (by omega) (by decide) (by decide) ?_ ?_
                      · intro hc67
                        have hc67 : (5 : Int) ≤ wt := hc67
                        exfalso; omega
                      · intro hc68
                        have hc68 : ¬ ((5 : Int) ≤ wt) := hc68
                        refine pw_ld E (pc' := 246) (st' := [.long (Int64.ofInt k42_10), .ref 141]) rfl (fun _ => rfl) ?_
                        refine pw_goto E (pc' := 251) rfl (by decide) ?_
                        refine pw_putM h66I E (c := 125) (k := 25) (pc' := 254) rfl rfl rfl rfl (by omega) (by omega) (by omega) (by omega) rfl rfl ?_
                        intro h69I h69E
                        generalize h69w : pw_w h66 125 25 (.long (Int64.ofInt k42_10)) = h69 at h69I h69E ⊢
                        have h69F := h66F.tr (h69E.wk (W' := [125, 149, 150]) (by first | rfl | simp))
                        refine pw_ld E (pc' := 255) (st' := [pw_i wt]) rfl (fun _ => rfl) ?_
                        refine pw_if E (pc' := 262) rfl (by decide) (by omega) (by omega) ?_ ?_
                        · intro hc70
                          have hc70 : wt ≠ (0 : Int) := hc70
                          refine pw_ld E (pc' := 263) (st' := [pw_i wt]) rfl (fun _ => rfl) ?_
                          refine pw_ld E (pc' := 264) (st' := [pw_i 1, pw_i wt]) rfl (fun _ => rfl) ?_
                          refine pw_if2 E (pc' := 272) rfl (by decide) (by omega) (by omega) (by decide) (by decide) ?_ ?_
                          · intro hc71
                            have hc71 : wt ≠ (1 : Int) := hc71
                            refine pw_ld E (pc' := 273) (st' := [pw_i wt]) rfl (fun _ => rfl) ?_
                            refine pw_ld E (pc' := 274) (st' := [pw_i 2, pw_i wt]) rfl (fun _ => rfl) ?_
                            refine pw_if2 E (pc' := 282) rfl (by decide) (by omega) (by omega) (by decide) (by decide) ?_ ?_
                            · intro hc72
                              have hc72 : wt ≠ (2 : Int) := hc72
                              refine pw_ld E (pc' := 283) (st' := [.ref 141]) rfl (fun _ => rfl) ?_
                              refine pw_ld E (pc' := 284) (st' := [pw_i wt, .ref 141]) rfl (fun _ => rfl) ?_
                              refine pw_ld E (pc' := 285) (st' := [pw_i 2, pw_i wt, .ref 141]) rfl (fun _ => rfl) ?_
                              refine pw_rem E (pc' := 286) rfl rfl (by omega) (by omega) (by decide) (by decide) ?_
                              refine pw_ld E (pc' := 287) (st' := [pw_i 1, pw_i (wt % 2), .ref 141]) rfl (fun _ => rfl) ?_
                              refine pw_if2 E (pc' := 294) rfl (by decide) (by omega) (by omega) (by decide) (by decide) ?_ ?_
                              · intro hc73
                                have hc73 : wt % 2 ≠ (1 : Int) := hc73
                                refine pw_ld E (pc' := 295) (st' := [pw_i 1, .ref 141]) rfl (fun _ => rfl) ?_
                                have he74 : pw_gm h69 125 25 = k42_10 := by rw [← h69w]; exact pw_gm_eq (c := 125) (k := 25) h66I rfl rfl (by omega) (by omega)
                                obtain ⟨f75l, f75h, -⟩ := pw_obj (c := 125) h69I rfl
                                refine pw_call (m' := 222) (As := [.ref 141, pw_i 1]) (rest := []) (ls'' := [some (.ref 141), some (pw_i 1), none, none]) (by omega) E rfl (fun _ => pw_iV rfl rfl rfl rfl (pw_cellI f75h rfl)) (rfl : pm_ent 222 = some (2, 4, 12, 2, pmc_222)) rfl rfl (cm_222 (by omega) h69I (1) (by omega) (by omega) (by omega)) ?_
                                rintro u77 v76 ⟨rfl, w78, rfl⟩
                                refine ⟨_, rfl, ?_⟩
                                show pw X d h69 286 298 [some (.ref 141), some (pw_i wt), some (.long k42_2), none, some (.long k42_4), none, some (.long k42_6), none, some (.long k42_8), none, some (.long (Int64.ofInt k42_10)), none, some (.long k42_12), none, some (.long (Int64.ofInt k42_14)), none, some (pw_i k42_16)] [.long w78] _
                                refine pw_lret E rfl ?_
                                exact ⟨h69I, h69F, ⟨_, rfl⟩⟩
                              · intro hc79
                                have hc79 : ¬ (wt % 2 ≠ (1 : Int)) := hc79
                                refine pw_ld E (pc' := 291) (st' := [pw_i 0, .ref 141]) rfl (fun _ => rfl) ?_
                                refine pw_goto E (pc' := 295) rfl (by decide) ?_
                                have he80 : pw_gm h69 125 25 = k42_10 := by rw [← h69w]; exact pw_gm_eq (c := 125) (k := 25) h66I rfl rfl (by omega) (by omega)
                                obtain ⟨f81l, f81h, -⟩ := pw_obj (c := 125) h69I rfl
                                refine pw_call (m' := 222) (As := [.ref 141, pw_i 0]) (rest := []) (ls'' := [some (.ref 141), some (pw_i 0), none, none]) (by omega) E rfl (fun _ => pw_iV rfl rfl rfl rfl (pw_cellI f81h rfl)) (rfl : pm_ent 222 = some (2, 4, 12, 2, pmc_222)) rfl rfl (cm_222 (by omega) h69I (0) (by omega) (by omega) (by omega)) ?_
                                rintro u83 v82 ⟨rfl, w84, rfl⟩
                                refine ⟨_, rfl, ?_⟩
                                show pw X d h69 286 298 [some (.ref 141), some (pw_i wt), some (.long k42_2), none, some (.long k42_4), none, some (.long k42_6), none, some (.long k42_8), none, some (.long (Int64.ofInt k42_10)), none, some (.long k42_12), none, some (.long (Int64.ofInt k42_14)), none, some (pw_i k42_16)] [.long w84] _
                                refine pw_lret E rfl ?_
                                exact ⟨h69I, h69F, ⟨_, rfl⟩⟩
                            · intro hc85
                              have hc85 : ¬ (wt ≠ (2 : Int)) := hc85
                              exfalso; omega
                          · intro hc86
                            have hc86 : ¬ (wt ≠ (1 : Int)) := hc86
                            exfalso; omega
                        · intro hc87
                          have hc87 : ¬ (wt ≠ (0 : Int)) := hc87
                          exfalso; omega
                  · intro hc88
                    have hc88 : ¬ (pw_g h38 125 0 ≤ (0 : Int)) := hc88
                    exfalso; omega
                · intro hc89
                  have hc89 : ¬ (c36 ≠ (0 : Int)) := hc89
                  refine pw_ld E (pc' := 206) (st' := [pw_i 1, .ref 141]) rfl (fun _ => rfl) ?_
                  refine pw_goto E (pc' := 210) rfl (by decide) ?_
                  refine pw_putI I42 E (c := 125) (k := 0) (pc' := 213) rfl rfl rfl rfl (by omega) (by omega) (by omega) (by omega) rfl rfl ?_
                  intro h90I h90E
                  generalize h90w : pw_w gh42 125 0 (pw_i 1) = h90 at h90I h90E ⊢
                  have h90F := E42.tr (h90E.wk (W' := [125, 149, 150]) (by first | rfl | simp))
                  refine pw_ld E (pc' := 214) (st' := [.ref 141]) rfl (fun _ => rfl) ?_
                  have he92 : pw_g h90 125 0 = 1 := by rw [← h90w]; exact pw_g_eq (c := 125) (k := 0) I42 rfl rfl (by omega) (by omega)
                  refine pw_getI h90I E (c := 125) (k := 0) (pc' := 217) rfl rfl rfl rfl rfl rfl (fun hf91a hf91b hf91c hf91d => ?_)
                  refine pw_if E (pc' := 222) rfl (by decide) (by omega) (by omega) ?_ ?_
                  · intro hc93
                    have hc93 : pw_g h90 125 0 ≤ (0 : Int) := hc93
                    exfalso; omega
                  · intro hc94
                    have hc94 : ¬ (pw_g h90 125 0 ≤ (0 : Int)) := hc94
                    refine pw_ld E (pc' := 221) (st' := [.long (Int64.ofInt 0)]) rfl (fun _ => rfl) ?_
                    refine pw_lret E rfl ?_
                    exact ⟨h90I, h90F, ⟨_, rfl⟩⟩
          · intro hc95
            have hc95 : ¬ ((44 : Int) ≤ k42_16) := hc95
            refine pw_ld E (pc' := 50) (st' := [.ref 141]) rfl (fun _ => rfl) ?_
            refine pw_ld E (pc' := 52) (st' := [pw_i k42_16, .ref 141]) rfl (fun _ => rfl) ?_
            refine pw_bip E (pc' := 54) rfl rfl (by decide) ?_
            refine pw_div E (pc' := 55) rfl rfl (by omega) (by omega) (by decide) (by decide) ?_
            refine pw_ld E (pc' := 57) (st' := [pw_i k42_16, pw_i (k42_16 / 11), .ref 141]) rfl (fun _ => rfl) ?_
            refine pw_bip E (pc' := 59) rfl rfl (by decide) ?_
            refine pw_rem E (pc' := 60) rfl rfl (by omega) (by omega) (by decide) (by decide) ?_
            obtain ⟨f96l, f96h, -⟩ := pw_obj (c := 125) I42 rfl
            refine pw_call (m' := 285) (As := [.ref 141, pw_i (k42_16 / 11), pw_i (k42_16 % 11)]) (rest := []) (ls'' := [some (.ref 141), some (pw_i (k42_16 / 11)), some (pw_i (k42_16 % 11)), none, none, none]) (by omega) E rfl (fun _ => pw_iV rfl rfl rfl rfl (pw_cellI f96h rfl)) (rfl : pm_ent 285 = some (3, 6, 12, 1, pmc_285)) rfl rfl (cm_285 (by omega) I42 (k42_16 / 11) (by omega) (by omega) (k42_16 % 11) (by omega) (by omega) (pw_KE I E42 hp0 rfl)) ?_
            rintro h97 v98 ⟨h97I, h97E, x99, rfl, hx99a, hx99b, hx99r⟩
            refine ⟨_, rfl, ?_⟩
            have h97F := E42.tr (h97E.wk (W' := [125, 149, 150]) (by first | rfl | simp))
            show pw X d h97 286 63 [some (.ref 141), some (pw_i wt), some (.long k42_2), none, some (.long k42_4), none, some (.long k42_6), none, some (.long k42_8), none, some (.long (Int64.ofInt k42_10)), none, some (.long k42_12), none, some (.long (Int64.ofInt k42_14)), none, some (pw_i k42_16)] [pw_i x99] _
            have hx99r : (x99 = 1 ∧ 1 ≤ pw_gm h97 125 25 ∧ pw_gm h97 125 25 ≤ 576) ∨ x99 = 0 := hx99r
            rcases (by omega : x99 = 1 ∨ x99 = 0) with hb100 | hb100
            · have hb100 : x99 = 1 := by omega
              refine pw_if E (pc' := 180) rfl (by decide) (by omega) (by omega) ?_ ?_
              · intro hc101
                have hc101 : x99 = (0 : Int) := hc101
                exfalso; omega
              · intro hc102
                have hc102 : ¬ (x99 = (0 : Int)) := hc102
                refine pw_ld E (pc' := 67) (st' := [.long k42_2]) rfl (fun _ => rfl) ?_
                refine pw_ld E (pc' := 68) (st' := [.long (Int64.ofInt 0), .long k42_2]) rfl (fun _ => rfl) ?_
                refine pw_lcmp E (pc' := 69) rfl rfl (fun c103 hc103 => ?_)
                refine pw_if E (pc' := 90) rfl (by decide) (by omega) (by omega) ?_ ?_
                · intro hc104
                  have hc104 : c103 = (0 : Int) := hc104
                  refine pw_ld E (pc' := 91) (st' := [.ref 141]) rfl (fun _ => rfl) ?_
                  refine pw_getL h97I E (c := 125) (k := 24) (pc' := 94) rfl rfl rfl rfl rfl rfl ?_
                  refine pw_lst E (pc' := 96) (ls' := [some (.ref 141), some (pw_i wt), some (.long k42_2), none, some (.long k42_4), none, some (.long k42_6), none, some (.long (pw_gl h97 125 24)), none, some (.long (Int64.ofInt k42_10)), none, some (.long k42_12), none, some (.long (Int64.ofInt k42_14)), none, some (pw_i k42_16)]) rfl rfl rfl rfl ?_
                  refine pw_ld E (pc' := 97) (st' := [.ref 141]) rfl (fun _ => rfl) ?_
                  refine pw_getM h97I E (c := 125) (k := 25) (pc' := 100) rfl rfl rfl rfl rfl rfl (fun hf105a hf105b => ?_)
                  refine pw_lst E (pc' := 102) (ls' := [some (.ref 141), some (pw_i wt), some (.long k42_2), none, some (.long k42_4), none, some (.long k42_6), none, some (.long (pw_gl h97 125 24)), none, some (.long (Int64.ofInt (pw_gm h97 125 25))), none, some (.long k42_12), none, some (.long (Int64.ofInt k42_14)), none, some (pw_i k42_16)]) rfl rfl rfl rfl ?_
                  refine pw_ld E (pc' := 103) (st' := [.long k42_2]) rfl (fun _ => rfl) ?_
                  refine pw_ld E (pc' := 104) (st' := [.long (Int64.ofInt 0), .long k42_2]) rfl (fun _ => rfl) ?_
                  refine pw_lcmp E (pc' := 105) rfl rfl (fun c106 hc106 => ?_)
                  refine pw_if E (pc' := 126) rfl (by decide) (by omega) (by omega) ?_ ?_
                  · intro hc107
                    have hc107 : c106 = (0 : Int) := hc107
                    refine pw_ld E (pc' := 127) (st' := [.ref 141]) rfl (fun _ => rfl) ?_
                    refine pw_getL h97I E (c := 125) (k := 24) (pc' := 130) rfl rfl rfl rfl rfl rfl ?_
                    refine pw_lst E (pc' := 132) (ls' := [some (.ref 141), some (pw_i wt), some (.long k42_2), none, some (.long k42_4), none, some (.long k42_6), none, some (.long (pw_gl h97 125 24)), none, some (.long (Int64.ofInt (pw_gm h97 125 25))), none, some (.long (pw_gl h97 125 24)), none, some (.long (Int64.ofInt k42_14)), none, some (pw_i k42_16)]) rfl rfl rfl rfl ?_
                    refine pw_ld E (pc' := 133) (st' := [.ref 141]) rfl (fun _ => rfl) ?_
                    refine pw_getM h97I E (c := 125) (k := 25) (pc' := 136) rfl rfl rfl rfl rfl rfl (fun hf108a hf108b => ?_)
                    refine pw_lst E (pc' := 138) (ls' := [some (.ref 141), some (pw_i wt), some (.long k42_2), none, some (.long k42_4), none, some (.long k42_6), none, some (.long (pw_gl h97 125 24)), none, some (.long (Int64.ofInt (pw_gm h97 125 25))), none, some (.long (pw_gl h97 125 24)), none, some (.long (Int64.ofInt (pw_gm h97 125 25))), none, some (pw_i k42_16)]) rfl rfl rfl rfl ?_
                    refine pw_ld E (pc' := 139) (st' := [.long k42_2]) rfl (fun _ => rfl) ?_
                    refine pw_ld E (pc' := 140) (st' := [.long (Int64.ofInt 1), .long k42_2]) rfl (fun _ => rfl) ?_
                    refine pw_ld E (pc' := 141) (st' := [.long (k42_2 + (Int64.ofInt 1))]) rfl (fun _ => rfl) ?_
                    refine pw_lstn E (pc' := 142) (ls' := [some (.ref 141), some (pw_i wt), some (.long (k42_2 + (Int64.ofInt 1))), none, some (.long k42_4), none, some (.long k42_6), none, some (.long (pw_gl h97 125 24)), none, some (.long (Int64.ofInt (pw_gm h97 125 25))), none, some (.long (pw_gl h97 125 24)), none, some (.long (Int64.ofInt (pw_gm h97 125 25))), none, some (pw_i k42_16)]) rfl rfl rfl rfl ?_
                    refine pw_ld E (pc' := 144) (st' := [.long k42_4]) rfl (fun _ => rfl) ?_
                    refine pw_ld E (pc' := 145) (st' := [.ref 141, .long k42_4]) rfl (fun _ => rfl) ?_
                    refine pw_getL h97I E (c := 125) (k := 24) (pc' := 148) rfl rfl rfl rfl rfl rfl ?_
                    refine pw_ld E (pc' := 149) (st' := [.long (Int64.ofInt 0), .long (pw_gl h97 125 24), .long k42_4]) rfl (fun _ => rfl) ?_
                    refine pw_lcmp E (pc' := 150) rfl rfl (fun c109 hc109 => ?_)
                    refine pw_if E (pc' := 157) rfl (by decide) (by omega) (by omega) ?_ ?_
                    · intro hc110
                      have hc110 : (0 : Int) ≤ c109 := hc110
                      refine pw_ld E (pc' := 158) (st' := [.long (Int64.ofInt 0), .long k42_4]) rfl (fun _ => rfl) ?_
                      refine pw_ld E (pc' := 159) (st' := [.long (k42_4 + (Int64.ofInt 0))]) rfl (fun _ => rfl) ?_
                      refine pw_lst E (pc' := 161) (ls' := [some (.ref 141), some (pw_i wt), some (.long (k42_2 + (Int64.ofInt 1))), none, some (.long (k42_4 + (Int64.ofInt 0))), none, some (.long k42_6), none, some (.long (pw_gl h97 125 24)), none, some (.long (Int64.ofInt (pw_gm h97 125 25))), none, some (.long (pw_gl h97 125 24)), none, some (.long (Int64.ofInt (pw_gm h97 125 25))), none, some (pw_i k42_16)]) rfl rfl rfl rfl ?_
                      refine pw_ld E (pc' := 163) (st' := [.long k42_6]) rfl (fun _ => rfl) ?_
                      refine pw_ld E (pc' := 164) (st' := [.ref 141, .long k42_6]) rfl (fun _ => rfl) ?_
                      refine pw_getL h97I E (c := 125) (k := 24) (pc' := 167) rfl rfl rfl rfl rfl rfl ?_
                      refine pw_ld E (pc' := 168) (st' := [.long (Int64.ofInt 0), .long (pw_gl h97 125 24), .long k42_6]) rfl (fun _ => rfl) ?_
                      refine pw_lcmp E (pc' := 169) rfl rfl (fun c111 hc111 => ?_)
                      refine pw_if E (pc' := 176) rfl (by decide) (by omega) (by omega) ?_ ?_
                      · intro hc112
                        have hc112 : c111 ≤ (0 : Int) := hc112
                        refine pw_ld E (pc' := 177) (st' := [.long (Int64.ofInt 0), .long k42_6]) rfl (fun _ => rfl) ?_
                        refine pw_ld E (pc' := 178) (st' := [.long (k42_6 + (Int64.ofInt 0))]) rfl (fun _ => rfl) ?_
                        refine pw_lst E (pc' := 180) (ls' := [some (.ref 141), some (pw_i wt), some (.long (k42_2 + (Int64.ofInt 1))), none, some (.long (k42_4 + (Int64.ofInt 0))), none, some (.long (k42_6 + (Int64.ofInt 0))), none, some (.long (pw_gl h97 125 24)), none, some (.long (Int64.ofInt (pw_gm h97 125 25))), none, some (.long (pw_gl h97 125 24)), none, some (.long (Int64.ofInt (pw_gm h97 125 25))), none, some (pw_i k42_16)]) rfl rfl rfl rfl ?_
                        refine pw_inc E (pc' := 183) (ls' := [some (.ref 141), some (pw_i wt), some (.long (k42_2 + (Int64.ofInt 1))), none, some (.long (k42_4 + (Int64.ofInt 0))), none, some (.long (k42_6 + (Int64.ofInt 0))), none, some (.long (pw_gl h97 125 24)), none, some (.long (Int64.ofInt (pw_gm h97 125 25))), none, some (.long (pw_gl h97 125 24)), none, some (.long (Int64.ofInt (pw_gm h97 125 25))), none, some (pw_i (k42_16 + 1))]) rfl rfl rfl rfl ?_
                        refine pw_goto E (pc' := 42) rfl (by decide) ?_
                        exact ih42 _ (by omega) (k42_2 + (Int64.ofInt 1)) (k42_4 + (Int64.ofInt 0)) (k42_6 + (Int64.ofInt 0)) (pw_gl h97 125 24) (pw_gm h97 125 25) (pw_gl h97 125 24) (pw_gm h97 125 25) (k42_16 + 1) h97 h97I h97F (by omega) (by omega) (by omega) (by omega) (by omega) (by omega)  rfl
                      · intro hc113
                        have hc113 : ¬ (c111 ≤ (0 : Int)) := hc113
                        refine pw_ld E (pc' := 173) (st' := [.long (Int64.ofInt 1), .long k42_6]) rfl (fun _ => rfl) ?_
                        refine pw_goto E (pc' := 177) rfl (by decide) ?_
                        refine pw_ld E (pc' := 178) (st' := [.long (k42_6 + (Int64.ofInt 1))]) rfl (fun _ => rfl) ?_
                        refine pw_lst E (pc' := 180) (ls' := [some (.ref 141), some (pw_i wt), some (.long (k42_2 + (Int64.ofInt 1))), none, some (.long (k42_4 + (Int64.ofInt 0))), none, some (.long (k42_6 + (Int64.ofInt 1))), none, some (.long (pw_gl h97 125 24)), none, some (.long (Int64.ofInt (pw_gm h97 125 25))), none, some (.long (pw_gl h97 125 24)), none, some (.long (Int64.ofInt (pw_gm h97 125 25))), none, some (pw_i k42_16)]) rfl rfl rfl rfl ?_
                        refine pw_inc E (pc' := 183) (ls' := [some (.ref 141), some (pw_i wt), some (.long (k42_2 + (Int64.ofInt 1))), none, some (.long (k42_4 + (Int64.ofInt 0))), none, some (.long (k42_6 + (Int64.ofInt 1))), none, some (.long (pw_gl h97 125 24)), none, some (.long (Int64.ofInt (pw_gm h97 125 25))), none, some (.long (pw_gl h97 125 24)), none, some (.long (Int64.ofInt (pw_gm h97 125 25))), none, some (pw_i (k42_16 + 1))]) rfl rfl rfl rfl ?_
                        refine pw_goto E (pc' := 42) rfl (by decide) ?_
                        exact ih42 _ (by omega) (k42_2 + (Int64.ofInt 1)) (k42_4 + (Int64.ofInt 0)) (k42_6 + (Int64.ofInt 1)) (pw_gl h97 125 24) (pw_gm h97 125 25) (pw_gl h97 125 24) (pw_gm h97 125 25) (k42_16 + 1) h97 h97I h97F (by omega) (by omega) (by omega) (by omega) (by omega) (by omega)  rfl
                    · intro hc114
                      have hc114 : ¬ ((0 : Int) ≤ c109) := hc114
                      refine pw_ld E (pc' := 154) (st' := [.long (Int64.ofInt 1), .long k42_4]) rfl (fun _ => rfl) ?_
                      refine pw_goto E (pc' := 158) rfl (by decide) ?_
                      refine pw_ld E (pc' := 159) (st' := [.long (k42_4 + (Int64.ofInt 1))]) rfl (fun _ => rfl) ?_
                      refine pw_lst E (pc' := 161) (ls' := [some (.ref 141), some (pw_i wt), some (.long (k42_2 + (Int64.ofInt 1))), none, some (.long (k42_4 + (Int64.ofInt 1))), none, some (.long k42_6), none, some (.long (pw_gl h97 125 24)), none, some (.long (Int64.ofInt (pw_gm h97 125 25))), none, some (.long (pw_gl h97 125 24)), none, some (.long (Int64.ofInt (pw_gm h97 125 25))), none, some (pw_i k42_16)]) rfl rfl rfl rfl ?_
                      refine pw_ld E (pc' := 163) (st' := [.long k42_6]) rfl (fun _ => rfl) ?_
                      refine pw_ld E (pc' := 164) (st' := [.ref 141, .long k42_6]) rfl (fun _ => rfl) ?_
                      refine pw_getL h97I E (c := 125) (k := 24) (pc' := 167) rfl rfl rfl rfl rfl rfl ?_
                      refine pw_ld E (pc' := 168) (st' := [.long (Int64.ofInt 0), .long (pw_gl h97 125 24), .long k42_6]) rfl (fun _ => rfl) ?_
                      refine pw_lcmp E (pc' := 169) rfl rfl (fun c115 hc115 => ?_)
                      refine pw_if E (pc' := 176) rfl (by decide) (by omega) (by omega) ?_ ?_
                      · intro hc116
                        have hc116 : c115 ≤ (0 : Int) := hc116
                        refine pw_ld E (pc' := 177) (st' := [.long (Int64.ofInt 0), .long k42_6]) rfl (fun _ => rfl) ?_
                        refine pw_ld E (pc' := 178) (st' := [.long (k42_6 + (Int64.ofInt 0))]) rfl (fun _ => rfl) ?_
                        refine pw_lst E (pc' := 180) (ls' := [some (.ref 141), some (pw_i wt), some (.long (k42_2 + (Int64.ofInt 1))), none, some (.long (k42_4 + (Int64.ofInt 1))), none, some (.long (k42_6 + (Int64.ofInt 0))), none, some (.long (pw_gl h97 125 24)), none, some (.long (Int64.ofInt (pw_gm h97 125 25))), none, some (.long (pw_gl h97 125 24)), none, some (.long (Int64.ofInt (pw_gm h97 125 25))), none, some (pw_i k42_16)]) rfl rfl rfl rfl ?_
                        refine pw_inc E (pc' := 183) (ls' := [some (.ref 141), some (pw_i wt), some (.long (k42_2 + (Int64.ofInt 1))), none, some (.long (k42_4 + (Int64.ofInt 1))), none, some (.long (k42_6 + (Int64.ofInt 0))), none, some (.long (pw_gl h97 125 24)), none, some (.long (Int64.ofInt (pw_gm h97 125 25))), none, some (.long (pw_gl h97 125 24)), none, some (.long (Int64.ofInt (pw_gm h97 125 25))), none, some (pw_i (k42_16 + 1))]) rfl rfl rfl rfl ?_
                        refine pw_goto E (pc' := 42) rfl (by decide) ?_
                        exact ih42 _ (by omega) (k42_2 + (Int64.ofInt 1)) (k42_4 + (Int64.ofInt 1)) (k42_6 + (Int64.ofInt 0)) (pw_gl h97 125 24) (pw_gm h97 125 25) (pw_gl h97 125 24) (pw_gm h97 125 25) (k42_16 + 1) h97 h97I h97F (by omega) (by omega) (by omega) (by omega) (by omega) (by omega)  rfl
                      · intro hc117
                        have hc117 : ¬ (c115 ≤ (0 : Int)) := hc117
                        refine pw_ld E (pc' := 173) (st' := [.long (Int64.ofInt 1), .long k42_6]) rfl (fun _ => rfl) ?_
                        refine pw_goto E (pc' := 177) rfl (by decide) ?_
                        refine pw_ld E (pc' := 178) (st' := [.long (k42_6 + (Int64.ofInt 1))]) rfl (fun _ => rfl) ?_
                        refine pw_lst E (pc' := 180) (ls' := [some (.ref 141), some (pw_i wt), some (.long (k42_2 + (Int64.ofInt 1))), none, some (.long (k42_4 + (Int64.ofInt 1))), none, some (.long (k42_6 + (Int64.ofInt 1))), none, some (.long (pw_gl h97 125 24)), none, some (.long (Int64.ofInt (pw_gm h97 125 25))), none, some (.long (pw_gl h97 125 24)), none, some (.long (Int64.ofInt (pw_gm h97 125 25))), none, some (pw_i k42_16)]) rfl rfl rfl rfl ?_
                        refine pw_inc E (pc' := 183) (ls' := [some (.ref 141), some (pw_i wt), some (.long (k42_2 + (Int64.ofInt 1))), none, some (.long (k42_4 + (Int64.ofInt 1))), none, some (.long (k42_6 + (Int64.ofInt 1))), none, some (.long (pw_gl h97 125 24)), none, some (.long (Int64.ofInt (pw_gm h97 125 25))), none, some (.long (pw_gl h97 125 24)), none, some (.long (Int64.ofInt (pw_gm h97 125 25))), none, some (pw_i (k42_16 + 1))]) rfl rfl rfl rfl ?_
                        refine pw_goto E (pc' := 42) rfl (by decide) ?_
                        exact ih42 _ (by omega) (k42_2 + (Int64.ofInt 1)) (k42_4 + (Int64.ofInt 1)) (k42_6 + (Int64.ofInt 1)) (pw_gl h97 125 24) (pw_gm h97 125 25) (pw_gl h97 125 24) (pw_gm h97 125 25) (k42_16 + 1) h97 h97I h97F (by omega) (by omega) (by omega) (by omega) (by omega) (by omega)  rfl
                  · intro hc118
                    have hc118 : ¬ (c106 = (0 : Int)) := hc118
                    refine pw_ld E (pc' := 109) (st' := [.ref 141]) rfl (fun _ => rfl) ?_
                    refine pw_getL h97I E (c := 125) (k := 24) (pc' := 112) rfl rfl rfl rfl rfl rfl ?_
                    refine pw_ld E (pc' := 114) (st' := [.long (Int64.ofInt k42_14), .long (pw_gl h97 125 24)]) rfl (fun _ => rfl) ?_
                    refine pw_ld E (pc' := 115) (st' := [.long ((pw_gl h97 125 24) * (Int64.ofInt k42_14))]) rfl (fun _ => rfl) ?_
                    refine pw_ld E (pc' := 117) (st' := [.long k42_12, .long ((pw_gl h97 125 24) * (Int64.ofInt k42_14))]) rfl (fun _ => rfl) ?_
                    refine pw_ld E (pc' := 118) (st' := [.ref 141, .long k42_12, .long ((pw_gl h97 125 24) * (Int64.ofInt k42_14))]) rfl (fun _ => rfl) ?_
                    refine pw_getM h97I E (c := 125) (k := 25) (pc' := 121) rfl rfl rfl rfl rfl rfl (fun hf119a hf119b => ?_)
                    refine pw_ld E (pc' := 122) (st' := [.long (k42_12 * (Int64.ofInt (pw_gm h97 125 25))), .long ((pw_gl h97 125 24) * (Int64.ofInt k42_14))]) rfl (fun _ => rfl) ?_
                    refine pw_lcmp E (pc' := 123) rfl rfl (fun c120 hc120 => ?_)
                    refine pw_if E (pc' := 138) rfl (by decide) (by omega) (by omega) ?_ ?_
                    · intro hc121
                      have hc121 : c120 ≤ (0 : Int) := hc121
                      refine pw_ld E (pc' := 139) (st' := [.long k42_2]) rfl (fun _ => rfl) ?_
                      refine pw_ld E (pc' := 140) (st' := [.long (Int64.ofInt 1), .long k42_2]) rfl (fun _ => rfl) ?_
                      refine pw_ld E (pc' := 141) (st' := [.long (k42_2 + (Int64.ofInt 1))]) rfl (fun _ => rfl) ?_
                      refine pw_lstn E (pc' := 142) (ls' := [some (.ref 141), some (pw_i wt), some (.long (k42_2 + (Int64.ofInt 1))), none, some (.long k42_4), none, some (.long k42_6), none, some (.long (pw_gl h97 125 24)), none, some (.long (Int64.ofInt (pw_gm h97 125 25))), none, some (.long k42_12), none, some (.long (Int64.ofInt k42_14)), none, some (pw_i k42_16)]) rfl rfl rfl rfl ?_
                      refine pw_ld E (pc' := 144) (st' := [.long k42_4]) rfl (fun _ => rfl) ?_
                      refine pw_ld E (pc' := 145) (st' := [.ref 141, .long k42_4]) rfl (fun _ => rfl) ?_
                      refine pw_getL h97I E (c := 125) (k := 24) (pc' := 148) rfl rfl rfl rfl rfl rfl ?_
                      refine pw_ld E (pc' := 149) (st' := [.long (Int64.ofInt 0), .long (pw_gl h97 125 24), .long k42_4]) rfl (fun _ => rfl) ?_
                      refine pw_lcmp E (pc' := 150) rfl rfl (fun c122 hc122 => ?_)
                      refine pw_if E (pc' := 157) rfl (by decide) (by omega) (by omega) ?_ ?_
                      · intro hc123
                        have hc123 : (0 : Int) ≤ c122 := hc123
                        refine pw_ld E (pc' := 158) (st' := [.long (Int64.ofInt 0), .long k42_4]) rfl (fun _ => rfl) ?_
                        refine pw_ld E (pc' := 159) (st' := [.long (k42_4 + (Int64.ofInt 0))]) rfl (fun _ => rfl) ?_
                        refine pw_lst E (pc' := 161) (ls' := [some (.ref 141), some (pw_i wt), some (.long (k42_2 + (Int64.ofInt 1))), none, some (.long (k42_4 + (Int64.ofInt 0))), none, some (.long k42_6), none, some (.long (pw_gl h97 125 24)), none, some (.long (Int64.ofInt (pw_gm h97 125 25))), none, some (.long k42_12), none, some (.long (Int64.ofInt k42_14)), none, some (pw_i k42_16)]) rfl rfl rfl rfl ?_
                        refine pw_ld E (pc' := 163) (st' := [.long k42_6]) rfl (fun _ => rfl) ?_
                        refine pw_ld E (pc' := 164) (st' := [.ref 141, .long k42_6]) rfl (fun _ => rfl) ?_
                        refine pw_getL h97I E (c := 125) (k := 24) (pc' := 167) rfl rfl rfl rfl rfl rfl ?_
                        refine pw_ld E (pc' := 168) (st' := [.long (Int64.ofInt 0), .long (pw_gl h97 125 24), .long k42_6]) rfl (fun _ => rfl) ?_
                        refine pw_lcmp E (pc' := 169) rfl rfl (fun c124 hc124 => ?_)
                        refine pw_if E (pc' := 176) rfl (by decide) (by omega) (by omega) ?_ ?_
                        · intro hc125
                          have hc125 : c124 ≤ (0 : Int) := hc125
                          refine pw_ld E (pc' := 177) (st' := [.long (Int64.ofInt 0), .long k42_6]) rfl (fun _ => rfl) ?_
                          refine pw_ld E (pc' := 178) (st' := [.long (k42_6 + (Int64.ofInt 0))]) rfl (fun _ => rfl) ?_
                          refine pw_lst E (pc' := 180) (ls' := [some (.ref 141), some (pw_i wt), some (.long (k42_2 + (Int64.ofInt 1))), none, some (.long (k42_4 + (Int64.ofInt 0))), none, some (.long (k42_6 + (Int64.ofInt 0))), none, some (.long (pw_gl h97 125 24)), none, some (.long (Int64.ofInt (pw_gm h97 125 25))), none, some (.long k42_12), none, some (.long (Int64.ofInt k42_14)), none, some (pw_i k42_16)]) rfl rfl rfl rfl ?_
                          refine pw_inc E (pc' := 183) (ls' := [some (.ref 141), some (pw_i wt), some (.long (k42_2 + (Int64.ofInt 1))), none, some (.long (k42_4 + (Int64.ofInt 0))), none, some (.long (k42_6 + (Int64.ofInt 0))), none, some (.long (pw_gl h97 125 24)), none, some (.long (Int64.ofInt (pw_gm h97 125 25))), none, some (.long k42_12), none, some (.long (Int64.ofInt k42_14)), none, some (pw_i (k42_16 + 1))]) rfl rfl rfl rfl ?_
                          refine pw_goto E (pc' := 42) rfl (by decide) ?_
                          exact ih42 _ (by omega) (k42_2 + (Int64.ofInt 1)) (k42_4 + (Int64.ofInt 0)) (k42_6 + (Int64.ofInt 0)) (pw_gl h97 125 24) (pw_gm h97 125 25) (k42_12) (k42_14) (k42_16 + 1) h97 h97I h97F (by omega) (by omega) (by omega) (by omega) (by omega) (by omega)  rfl
                        · intro hc126
                          have hc126 : ¬ (c124 ≤ (0 : Int)) := hc126
                          refine pw_ld E (pc' := 173) (st' := [.long (Int64.ofInt 1), .long k42_6]) rfl (fun _ => rfl) ?_
                          refine pw_goto E (pc' := 177) rfl (by decide) ?_
                          refine pw_ld E (pc' := 178) (st' := [.long (k42_6 + (Int64.ofInt 1))]) rfl (fun _ => rfl) ?_
                          refine pw_lst E (pc' := 180) (ls' := [some (.ref 141), some (pw_i wt), some (.long (k42_2 + (Int64.ofInt 1))), none, some (.long (k42_4 + (Int64.ofInt 0))), none, some (.long (k42_6 + (Int64.ofInt 1))), none, some (.long (pw_gl h97 125 24)), none, some (.long (Int64.ofInt (pw_gm h97 125 25))), none, some (.long k42_12), none, some (.long (Int64.ofInt k42_14)), none, some (pw_i k42_16)]) rfl rfl rfl rfl ?_
                          refine pw_inc E (pc' := 183) (ls' := [some (.ref 141), some (pw_i wt), some (.long (k42_2 + (Int64.ofInt 1))), none, some (.long (k42_4 + (Int64.ofInt 0))), none, some (.long (k42_6 + (Int64.ofInt 1))), none, some (.long (pw_gl h97 125 24)), none, some (.long (Int64.ofInt (pw_gm h97 125 25))), none, some (.long k42_12), none, some (.long (Int64.ofInt k42_14)), none, some (pw_i (k42_16 + 1))]) rfl rfl rfl rfl ?_
                          refine pw_goto E (pc' := 42) rfl (by decide) ?_
                          exact ih42 _ (by omega) (k42_2 + (Int64.ofInt 1)) (k42_4 + (Int64.ofInt 0)) (k42_6 + (Int64.ofInt 1)) (pw_gl h97 125 24) (pw_gm h97 125 25) (k42_12) (k42_14) (k42_16 + 1) h97 h97I h97F (by omega) (by omega) (by omega) (by omega) (by omega) (by omega)  rfl
                      · intro hc127
                        have hc127 : ¬ ((0 : Int) ≤ c122) := hc127
                        refine pw_ld E (pc' := 154) (st' := [.long (Int64.ofInt 1), .long k42_4]) rfl (fun _ => rfl) ?_
                        refine pw_goto E (pc' := 158) rfl (by decide) ?_
                        refine pw_ld E (pc' := 159) (st' := [.long (k42_4 + (Int64.ofInt 1))]) rfl (fun _ => rfl) ?_
                        refine pw_lst E (pc' := 161) (ls' := [some (.ref 141), some (pw_i wt), some (.long (k42_2 + (Int64.ofInt 1))), none, some (.long (k42_4 + (Int64.ofInt 1))), none, some (.long k42_6), none, some (.long (pw_gl h97 125 24)), none, some (.long (Int64.ofInt (pw_gm h97 125 25))), none, some (.long k42_12), none, some (.long (Int64.ofInt k42_14)), none, some (pw_i k42_16)]) rfl rfl rfl rfl ?_
                        refine pw_ld E (pc' := 163) (st' := [.long k42_6]) rfl (fun _ => rfl) ?_
                        refine pw_ld E (pc' := 164) (st' := [.ref 141, .long k42_6]) rfl (fun _ => rfl) ?_
                        refine pw_getL h97I E (c := 125) (k := 24) (pc' := 167) rfl rfl rfl rfl rfl rfl ?_
                        refine pw_ld E (pc' := 168) (st' := [.long (Int64.ofInt 0), .long (pw_gl h97 125 24), .long k42_6]) rfl (fun _ => rfl) ?_
                        refine pw_lcmp E (pc' := 169) rfl rfl (fun c128 hc128 => ?_)
                        refine pw_if E (pc' := 176) rfl (by decide) (by omega) (by omega) ?_ ?_
                        · intro hc129
                          have hc129 : c128 ≤ (0 : Int) := hc129
                          refine pw_ld E (pc' := 177) (st' := [.long (Int64.ofInt 0), .long k42_6]) rfl (fun _ => rfl) ?_
                          refine pw_ld E (pc' := 178) (st' := [.long (k42_6 + (Int64.ofInt 0))]) rfl (fun _ => rfl) ?_
                          refine pw_lst E (pc' := 180) (ls' := [some (.ref 141), some (pw_i wt), some (.long (k42_2 + (Int64.ofInt 1))), none, some (.long (k42_4 + (Int64.ofInt 1))), none, some (.long (k42_6 + (Int64.ofInt 0))), none, some (.long (pw_gl h97 125 24)), none, some (.long (Int64.ofInt (pw_gm h97 125 25))), none, some (.long k42_12), none, some (.long (Int64.ofInt k42_14)), none, some (pw_i k42_16)]) rfl rfl rfl rfl ?_
                          refine pw_inc E (pc' := 183) (ls' := [some (.ref 141), some (pw_i wt), some (.long (k42_2 + (Int64.ofInt 1))), none, some (.long (k42_4 + (Int64.ofInt 1))), none, some (.long (k42_6 + (Int64.ofInt 0))), none, some (.long (pw_gl h97 125 24)), none, some (.long (Int64.ofInt (pw_gm h97 125 25))), none, some (.long k42_12), none, some (.long (Int64.ofInt k42_14)), none, some (pw_i (k42_16 + 1))]) rfl rfl rfl rfl ?_
                          refine pw_goto E (pc' := 42) rfl (by decide) ?_
                          exact ih42 _ (by omega) (k42_2 + (Int64.ofInt 1)) (k42_4 + (Int64.ofInt 1)) (k42_6 + (Int64.ofInt 0)) (pw_gl h97 125 24) (pw_gm h97 125 25) (k42_12) (k42_14) (k42_16 + 1) h97 h97I h97F (by omega) (by omega) (by omega) (by omega) (by omega) (by omega)  rfl
                        · intro hc130
                          have hc130 : ¬ (c128 ≤ (0 : Int)) := hc130
                          refine pw_ld E (pc' := 173) (st' := [.long (Int64.ofInt 1), .long k42_6]) rfl (fun _ => rfl) ?_
                          refine pw_goto E (pc' := 177) rfl (by decide) ?_
                          refine pw_ld E (pc' := 178) (st' := [.long (k42_6 + (Int64.ofInt 1))]) rfl (fun _ => rfl) ?_
                          refine pw_lst E (pc' := 180) (ls' := [some (.ref 141), some (pw_i wt), some (.long (k42_2 + (Int64.ofInt 1))), none, some (.long (k42_4 + (Int64.ofInt 1))), none, some (.long (k42_6 + (Int64.ofInt 1))), none, some (.long (pw_gl h97 125 24)), none, some (.long (Int64.ofInt (pw_gm h97 125 25))), none, some (.long k42_12), none, some (.long (Int64.ofInt k42_14)), none, some (pw_i k42_16)]) rfl rfl rfl rfl ?_
                          refine pw_inc E (pc' := 183) (ls' := [some (.ref 141), some (pw_i wt), some (.long (k42_2 + (Int64.ofInt 1))), none, some (.long (k42_4 + (Int64.ofInt 1))), none, some (.long (k42_6 + (Int64.ofInt 1))), none, some (.long (pw_gl h97 125 24)), none, some (.long (Int64.ofInt (pw_gm h97 125 25))), none, some (.long k42_12), none, some (.long (Int64.ofInt k42_14)), none, some (pw_i (k42_16 + 1))]) rfl rfl rfl rfl ?_
                          refine pw_goto E (pc' := 42) rfl (by decide) ?_
                          exact ih42 _ (by omega) (k42_2 + (Int64.ofInt 1)) (k42_4 + (Int64.ofInt 1)) (k42_6 + (Int64.ofInt 1)) (pw_gl h97 125 24) (pw_gm h97 125 25) (k42_12) (k42_14) (k42_16 + 1) h97 h97I h97F (by omega) (by omega) (by omega) (by omega) (by omega) (by omega)  rfl
                    · intro hc131
                      have hc131 : ¬ (c120 ≤ (0 : Int)) := hc131
                      refine pw_ld E (pc' := 127) (st' := [.ref 141]) rfl (fun _ => rfl) ?_
                      refine pw_getL h97I E (c := 125) (k := 24) (pc' := 130) rfl rfl rfl rfl rfl rfl ?_
                      refine pw_lst E (pc' := 132) (ls' := [some (.ref 141), some (pw_i wt), some (.long k42_2), none, some (.long k42_4), none, some (.long k42_6), none, some (.long (pw_gl h97 125 24)), none, some (.long (Int64.ofInt (pw_gm h97 125 25))), none, some (.long (pw_gl h97 125 24)), none, some (.long (Int64.ofInt k42_14)), none, some (pw_i k42_16)]) rfl rfl rfl rfl ?_
                      refine pw_ld E (pc' := 133) (st' := [.ref 141]) rfl (fun _ => rfl) ?_
                      refine pw_getM h97I E (c := 125) (k := 25) (pc' := 136) rfl rfl rfl rfl rfl rfl (fun hf132a hf132b => ?_)
                      refine pw_lst E (pc' := 138) (ls' := [some (.ref 141), some (pw_i wt), some (.long k42_2), none, some (.long k42_4), none, some (.long k42_6), none, some (.long (pw_gl h97 125 24)), none, some (.long (Int64.ofInt (pw_gm h97 125 25))), none, some (.long (pw_gl h97 125 24)), none, some (.long (Int64.ofInt (pw_gm h97 125 25))), none, some (pw_i k42_16)]) rfl rfl rfl rfl ?_
                      refine pw_ld E (pc' := 139) (st' := [.long k42_2]) rfl (fun _ => rfl) ?_
                      refine pw_ld E (pc' := 140) (st' := [.long (Int64.ofInt 1), .long k42_2]) rfl (fun _ => rfl) ?_
                      refine pw_ld E (pc' := 141) (st' := [.long (k42_2 + (Int64.ofInt 1))]) rfl (fun _ => rfl) ?_
                      refine pw_lstn E (pc' := 142) (ls' := [some (.ref 141), some (pw_i wt), some (.long (k42_2 + (Int64.ofInt 1))), none, some (.long k42_4), none, some (.long k42_6), none, some (.long (pw_gl h97 125 24)), none, some (.long (Int64.ofInt (pw_gm h97 125 25))), none, some (.long (pw_gl h97 125 24)), none, some (.long (Int64.ofInt (pw_gm h97 125 25))), none, some (pw_i k42_16)]) rfl rfl rfl rfl ?_
                      refine pw_ld E (pc' := 144) (st' := [.long k42_4]) rfl (fun _ => rfl) ?_
                      refine pw_ld E (pc' := 145) (st' := [.ref 141, .long k42_4]) rfl (fun _ => rfl) ?_
                      refine pw_getL h97I E (c := 125) (k := 24) (pc' := 148) rfl rfl rfl rfl rfl rfl ?_
                      refine pw_ld E (pc' := 149) (st' := [.long (Int64.ofInt 0), .long (pw_gl h97 125 24), .long k42_4]) rfl (fun _ => rfl) ?_
                      refine pw_lcmp E (pc' := 150) rfl rfl (fun c133 hc133 => ?_)
                      refine pw_if E (pc' := 157) rfl (by decide) (by omega) (by omega) ?_ ?_
                      · intro hc134
                        have hc134 : (0 : Int) ≤ c133 := hc134
                        refine pw_ld E (pc' := 158) (st' := [.long (Int64.ofInt 0), .long k42_4]) rfl (fun _ => rfl) ?_
                        refine pw_ld E (pc' := 159) (st' := [.long (k42_4 + (Int64.ofInt 0))]) rfl (fun _ => rfl) ?_
                        refine pw_lst E (pc' := 161) (ls' := [some (.ref 141), some (pw_i wt), some (.long (k42_2 + (Int64.ofInt 1))), none, some (.long (k42_4 + (Int64.ofInt 0))), none, some (.long k42_6), none, some (.long (pw_gl h97 125 24)), none, some (.long (Int64.ofInt (pw_gm h97 125 25))), none, some (.long (pw_gl h97 125 24)), none, some (.long (Int64.ofInt (pw_gm h97 125 25))), none, some (pw_i k42_16)]) rfl rfl rfl rfl ?_
                        refine pw_ld E (pc' := 163) (st' := [.long k42_6]) rfl (fun _ => rfl) ?_
                        refine pw_ld E (pc' := 164) (st' := [.ref 141, .long k42_6]) rfl (fun _ => rfl) ?_
                        refine pw_getL h97I E (c := 125) (k := 24) (pc' := 167) rfl rfl rfl rfl rfl rfl ?_
                        refine pw_ld E (pc' := 168) (st' := [.long (Int64.ofInt 0), .long (pw_gl h97 125 24), .long k42_6]) rfl (fun _ => rfl) ?_
                        refine pw_lcmp E (pc' := 169) rfl rfl (fun c135 hc135 => ?_)
                        refine pw_if E (pc' := 176) rfl (by decide) (by omega) (by omega) ?_ ?_
                        · intro hc136
                          have hc136 : c135 ≤ (0 : Int) := hc136
                          refine pw_ld E (pc' := 177) (st' := [.long (Int64.ofInt 0), .long k42_6]) rfl (fun _ => rfl) ?_
                          refine pw_ld E (pc' := 178) (st' := [.long (k42_6 + (Int64.ofInt 0))]) rfl (fun _ => rfl) ?_
                          refine pw_lst E (pc' := 180) (ls' := [some (.ref 141), some (pw_i wt), some (.long (k42_2 + (Int64.ofInt 1))), none, some (.long (k42_4 + (Int64.ofInt 0))), none, some (.long (k42_6 + (Int64.ofInt 0))), none, some (.long (pw_gl h97 125 24)), none, some (.long (Int64.ofInt (pw_gm h97 125 25))), none, some (.long (pw_gl h97 125 24)), none, some (.long (Int64.ofInt (pw_gm h97 125 25))), none, some (pw_i k42_16)]) rfl rfl rfl rfl ?_
                          refine pw_inc E (pc' := 183) (ls' := [some (.ref 141), some (pw_i wt), some (.long (k42_2 + (Int64.ofInt 1))), none, some (.long (k42_4 + (Int64.ofInt 0))), none, some (.long (k42_6 + (Int64.ofInt 0))), none, some (.long (pw_gl h97 125 24)), none, some (.long (Int64.ofInt (pw_gm h97 125 25))), none, some (.long (pw_gl h97 125 24)), none, some (.long (Int64.ofInt (pw_gm h97 125 25))), none, some (pw_i (k42_16 + 1))]) rfl rfl rfl rfl ?_
                          refine pw_goto E (pc' := 42) rfl (by decide) ?_
                          exact ih42 _ (by omega) (k42_2 + (Int64.ofInt 1)) (k42_4 + (Int64.ofInt 0)) (k42_6 + (Int64.ofInt 0)) (pw_gl h97 125 24) (pw_gm h97 125 25) (pw_gl h97 125 24) (pw_gm h97 125 25) (k42_16 + 1) h97 h97I h97F (by omega) (by omega) (by omega) (by omega) (by omega) (by omega)  rfl
                        · intro hc137
                          have hc137 : ¬ (c135 ≤ (0 : Int)) := hc137
                          refine pw_ld E (pc' := 173) (st' := [.long (Int64.ofInt 1), .long k42_6]) rfl (fun _ => rfl) ?_
                          refine pw_goto E (pc' := 177) rfl (by decide) ?_
                          refine pw_ld E (pc' := 178) (st' := [.long (k42_6 + (Int64.ofInt 1))]) rfl (fun _ => rfl) ?_
                          refine pw_lst E (pc' := 180) (ls' := [some (.ref 141), some (pw_i wt), some (.long (k42_2 + (Int64.ofInt 1))), none, some (.long (k42_4 + (Int64.ofInt 0))), none, some (.long (k42_6 + (Int64.ofInt 1))), none, some (.long (pw_gl h97 125 24)), none, some (.long (Int64.ofInt (pw_gm h97 125 25))), none, some (.long (pw_gl h97 125 24)), none, some (.long (Int64.ofInt (pw_gm h97 125 25))), none, some (pw_i k42_16)]) rfl rfl rfl rfl ?_
                          refine pw_inc E (pc' := 183) (ls' := [some (.ref 141), some (pw_i wt), some (.long (k42_2 + (Int64.ofInt 1))), none, some (.long (k42_4 + (Int64.ofInt 0))), none, some (.long (k42_6 + (Int64.ofInt 1))), none, some (.long (pw_gl h97 125 24)), none, some (.long (Int64.ofInt (pw_gm h97 125 25))), none, some (.long (pw_gl h97 125 24)), none, some (.long (Int64.ofInt (pw_gm h97 125 25))), none, some (pw_i (k42_16 + 1))]) rfl rfl rfl rfl ?_
                          refine pw_goto E (pc' := 42) rfl (by decide) ?_
                          exact ih42 _ (by omega) (k42_2 + (Int64.ofInt 1)) (k42_4 + (Int64.ofInt 0)) (k42_6 + (Int64.ofInt 1)) (pw_gl h97 125 24) (pw_gm h97 125 25) (pw_gl h97 125 24) (pw_gm h97 125 25) (k42_16 + 1) h97 h97I h97F (by omega) (by omega) (by omega) (by omega) (by omega) (by omega)  rfl
                      · intro hc138
                        have hc138 : ¬ ((0 : Int) ≤ c133) := hc138
                        refine pw_ld E (pc' := 154) (st' := [.long (Int64.ofInt 1), .long k42_4]) rfl (fun _ => rfl) ?_
                        refine pw_goto E (pc' := 158) rfl (by decide) ?_
                        refine pw_ld E (pc' := 159) (st' := [.long (k42_4 + (Int64.ofInt 1))]) rfl (fun _ => rfl) ?_
                        refine pw_lst E (pc' := 161) (ls' := [some (.ref 141), some (pw_i wt), some (.long (k42_2 + (Int64.ofInt 1))), none, some (.long (k42_4 + (Int64.ofInt 1))), none, some (.long k42_6), none, some (.long (pw_gl h97 125 24)), none, some (.long (Int64.ofInt (pw_gm h97 125 25))), none, some (.long (pw_gl h97 125 24)), none, some (.long (Int64.ofInt (pw_gm h97 125 25))), none, some (pw_i k42_16)]) rfl rfl rfl rfl ?_
                        refine pw_ld E (pc' := 163) (st' := [.long k42_6]) rfl (fun _ => rfl) ?_
                        refine pw_ld E (pc' := 164) (st' := [.ref 141, .long k42_6]) rfl (fun _ => rfl) ?_
                        refine pw_getL h97I E (c := 125) (k := 24) (pc' := 167) rfl rfl rfl rfl rfl rfl ?_
                        refine pw_ld E (pc' := 168) (st' := [.long (Int64.ofInt 0), .long (pw_gl h97 125 24), .long k42_6]) rfl (fun _ => rfl) ?_
                        refine pw_lcmp E (pc' := 169) rfl rfl (fun c139 hc139 => ?_)
                        refine pw_if E (pc' := 176) rfl (by decide) (by omega) (by omega) ?_ ?_
                        · intro hc140
                          have hc140 : c139 ≤ (0 : Int) := hc140
                          refine pw_ld E (pc' := 177) (st' := [.long (Int64.ofInt 0), .long k42_6]) rfl (fun _ => rfl) ?_
                          refine pw_ld E (pc' := 178) (st' := [.long (k42_6 + (Int64.ofInt 0))]) rfl (fun _ => rfl) ?_
                          refine pw_lst E (pc' := 180) (ls' := [some (.ref 141), some (pw_i wt), some (.long (k42_2 + (Int64.ofInt 1))), none, some (.long (k42_4 + (Int64.ofInt 1))), none, some (.long (k42_6 + (Int64.ofInt 0))), none, some (.long (pw_gl h97 125 24)), none, some (.long (Int64.ofInt (pw_gm h97 125 25))), none, some (.long (pw_gl h97 125 24)), none, some (.long (Int64.ofInt (pw_gm h97 125 25))), none, some (pw_i k42_16)]) rfl rfl rfl rfl ?_
                          refine pw_inc E (pc' := 183) (ls' := [some (.ref 141), some (pw_i wt), some (.long (k42_2 + (Int64.ofInt 1))), none, some (.long (k42_4 + (Int64.ofInt 1))), none, some (.long (k42_6 + (Int64.ofInt 0))), none, some (.long (pw_gl h97 125 24)), none, some (.long (Int64.ofInt (pw_gm h97 125 25))), none, some (.long (pw_gl h97 125 24)), none, some (.long (Int64.ofInt (pw_gm h97 125 25))), none, some (pw_i (k42_16 + 1))]) rfl rfl rfl rfl ?_
                          refine pw_goto E (pc' := 42) rfl (by decide) ?_
                          exact ih42 _ (by omega) (k42_2 + (Int64.ofInt 1)) (k42_4 + (Int64.ofInt 1)) (k42_6 + (Int64.ofInt 0)) (pw_gl h97 125 24) (pw_gm h97 125 25) (pw_gl h97 125 24) (pw_gm h97 125 25) (k42_16 + 1) h97 h97I h97F (by omega) (by omega) (by omega) (by omega) (by omega) (by omega)  rfl
                        · intro hc141
                          have hc141 : ¬ (c139 ≤ (0 : Int)) := hc141
                          refine pw_ld E (pc' := 173) (st' := [.long (Int64.ofInt 1), .long k42_6]) rfl (fun _ => rfl) ?_
                          refine pw_goto E (pc' := 177) rfl (by decide) ?_
                          refine pw_ld E (pc' := 178) (st' := [.long (k42_6 + (Int64.ofInt 1))]) rfl (fun _ => rfl) ?_
                          refine pw_lst E (pc' := 180) (ls' := [some (.ref 141), some (pw_i wt), some (.long (k42_2 + (Int64.ofInt 1))), none, some (.long (k42_4 + (Int64.ofInt 1))), none, some (.long (k42_6 + (Int64.ofInt 1))), none, some (.long (pw_gl h97 125 24)), none, some (.long (Int64.ofInt (pw_gm h97 125 25))), none, some (.long (pw_gl h97 125 24)), none, some (.long (Int64.ofInt (pw_gm h97 125 25))), none, some (pw_i k42_16)]) rfl rfl rfl rfl ?_
                          refine pw_inc E (pc' := 183) (ls' := [some (.ref 141), some (pw_i wt), some (.long (k42_2 + (Int64.ofInt 1))), none, some (.long (k42_4 + (Int64.ofInt 1))), none, some (.long (k42_6 + (Int64.ofInt 1))), none, some (.long (pw_gl h97 125 24)), none, some (.long (Int64.ofInt (pw_gm h97 125 25))), none, some (.long (pw_gl h97 125 24)), none, some (.long (Int64.ofInt (pw_gm h97 125 25))), none, some (pw_i (k42_16 + 1))]) rfl rfl rfl rfl ?_
                          refine pw_goto E (pc' := 42) rfl (by decide) ?_
                          exact ih42 _ (by omega) (k42_2 + (Int64.ofInt 1)) (k42_4 + (Int64.ofInt 1)) (k42_6 + (Int64.ofInt 1)) (pw_gl h97 125 24) (pw_gm h97 125 25) (pw_gl h97 125 24) (pw_gm h97 125 25) (k42_16 + 1) h97 h97I h97F (by omega) (by omega) (by omega) (by omega) (by omega) (by omega)  rfl
                · intro hc142
                  have hc142 : ¬ (c103 = (0 : Int)) := hc142
                  refine pw_ld E (pc' := 73) (st' := [.ref 141]) rfl (fun _ => rfl) ?_
                  refine pw_getL h97I E (c := 125) (k := 24) (pc' := 76) rfl rfl rfl rfl rfl rfl ?_
                  refine pw_ld E (pc' := 78) (st' := [.long (Int64.ofInt k42_10), .long (pw_gl h97 125 24)]) rfl (fun _ => rfl) ?_
                  refine pw_ld E (pc' := 79) (st' := [.long ((pw_gl h97 125 24) * (Int64.ofInt k42_10))]) rfl (fun _ => rfl) ?_
                  refine pw_ld E (pc' := 81) (st' := [.long k42_8, .long ((pw_gl h97 125 24) * (Int64.ofInt k42_10))]) rfl (fun _ => rfl) ?_
                  refine pw_ld E (pc' := 82) (st' := [.ref 141, .long k42_8, .long ((pw_gl h97 125 24) * (Int64.ofInt k42_10))]) rfl (fun _ => rfl) ?_
                  refine pw_getM h97I E (c := 125) (k := 25) (pc' := 85) rfl rfl rfl rfl rfl rfl (fun hf143a hf143b => ?_)
                  refine pw_ld E (pc' := 86) (st' := [.long (k42_8 * (Int64.ofInt (pw_gm h97 125 25))), .long ((pw_gl h97 125 24) * (Int64.ofInt k42_10))]) rfl (fun _ => rfl) ?_
                  refine pw_lcmp E (pc' := 87) rfl rfl (fun c144 hc144 => ?_)
                  refine pw_if E (pc' := 102) rfl (by decide) (by omega) (by omega) ?_ ?_
                  · intro hc145
                    have hc145 : (0 : Int) ≤ c144 := hc145
                    refine pw_ld E (pc' := 103) (st' := [.long k42_2]) rfl (fun _ => rfl) ?_
                    refine pw_ld E (pc' := 104) (st' := [.long (Int64.ofInt 0), .long k42_2]) rfl (fun _ => rfl) ?_
                    refine pw_lcmp E (pc' := 105) rfl rfl (fun c146 hc146 => ?_)
                    refine pw_if E (pc' := 126) rfl (by decide) (by omega) (by omega) ?_ ?_
                    · intro hc147
                      have hc147 : c146 = (0 : Int) := hc147
                      refine pw_ld E (pc' := 127) (st' := [.ref 141]) rfl (fun _ => rfl) ?_
                      refine pw_getL h97I E (c := 125) (k := 24) (pc' := 130) rfl rfl rfl rfl rfl rfl ?_
                      refine pw_lst E (pc' := 132) (ls' := [some (.ref 141), some (pw_i wt), some (.long k42_2), none, some (.long k42_4), none, some (.long k42_6), none, some (.long k42_8), none, some (.long (Int64.ofInt k42_10)), none, some (.long (pw_gl h97 125 24)), none, some (.long (Int64.ofInt k42_14)), none, some (pw_i k42_16)]) rfl rfl rfl rfl ?_
                      refine pw_ld E (pc' := 133) (st' := [.ref 141]) rfl (fun _ => rfl) ?_
                      refine pw_getM h97I E (c := 125) (k := 25) (pc' := 136) rfl rfl rfl rfl rfl rfl (fun hf148a hf148b => ?_)
                      refine pw_lst E (pc' := 138) (ls' := [some (.ref 141), some (pw_i wt), some (.long k42_2), none, some (.long k42_4), none, some (.long k42_6), none, some (.long k42_8), none, some (.long (Int64.ofInt k42_10)), none, some (.long (pw_gl h97 125 24)), none, some (.long (Int64.ofInt (pw_gm h97 125 25))), none, some (pw_i k42_16)]) rfl rfl rfl rfl ?_
                      refine pw_ld E (pc' := 139) (st' := [.long k42_2]) rfl (fun _ => rfl) ?_
                      refine pw_ld E (pc' := 140) (st' := [.long (Int64.ofInt 1), .long k42_2]) rfl (fun _ => rfl) ?_
                      refine pw_ld E (pc' := 141) (st' := [.long (k42_2 + (Int64.ofInt 1))]) rfl (fun _ => rfl) ?_
                      refine pw_lstn E (pc' := 142) (ls' := [some (.ref 141), some (pw_i wt), some (.long (k42_2 + (Int64.ofInt 1))), none, some (.long k42_4), none, some (.long k42_6), none, some (.long k42_8), none, some (.long (Int64.ofInt k42_10)), none, some (.long (pw_gl h97 125 24)), none, some (.long (Int64.ofInt (pw_gm h97 125 25))), none, some (pw_i k42_16)]) rfl rfl rfl rfl ?_
                      refine pw_ld E (pc' := 144) (st' := [.long k42_4]) rfl (fun _ => rfl) ?_
                      refine pw_ld E (pc' := 145) (st' := [.ref 141, .long k42_4]) rfl (fun _ => rfl) ?_
                      refine pw_getL h97I E (c := 125) (k := 24) (pc' := 148) rfl rfl rfl rfl rfl rfl ?_
                      refine pw_ld E (pc' := 149) (st' := [.long (Int64.ofInt 0), .long (pw_gl h97 125 24), .long k42_4]) rfl (fun _ => rfl) ?_
                      refine pw_lcmp E (pc' := 150) rfl rfl (fun c149 hc149 => ?_)
                      refine pw_if E (pc' := 157) rfl (by decide) (by omega) (by omega) ?_ ?_
                      · intro hc150
                        have hc150 : (0 : Int) ≤ c149 := hc150
                        refine pw_ld E (pc' := 158) (st' := [.long (Int64.ofInt 0), .long k42_4]) rfl (fun _ => rfl) ?_
                        refine pw_ld E (pc' := 159) (st' := [.long (k42_4 + (Int64.ofInt 0))]) rfl (fun _ => rfl) ?_
                        refine pw_lst E (pc' := 161) (ls' := [some (.ref 141), some (pw_i wt), some (.long (k42_2 + (Int64.ofInt 1))), none, some (.long (k42_4 + (Int64.ofInt 0))), none, some (.long k42_6), none, some (.long k42_8), none, some (.long (Int64.ofInt k42_10)), none, some (.long (pw_gl h97 125 24)), none, some (.long (Int64.ofInt (pw_gm h97 125 25))), none, some (pw_i k42_16)]) rfl rfl rfl rfl ?_
                        refine pw_ld E (pc' := 163) (st' := [.long k42_6]) rfl (fun _ => rfl) ?_
                        refine pw_ld E (pc' := 164) (st' := [.ref 141, .long k42_6]) rfl (fun _ => rfl) ?_
                        refine pw_getL h97I E (c := 125) (k := 24) (pc' := 167) rfl rfl rfl rfl rfl rfl ?_
                        refine pw_ld E (pc' := 168) (st' := [.long (Int64.ofInt 0), .long (pw_gl h97 125 24), .long k42_6]) rfl (fun _ => rfl) ?_
                        refine pw_lcmp E (pc' := 169) rfl rfl (fun c151 hc151 => ?_)
                        refine pw_if E (pc' := 176) rfl (by decide) (by omega) (by omega) ?_ ?_
                        · intro hc152
                          have hc152 : c151 ≤ (0 : Int) := hc152
                          refine pw_ld E (pc' := 177) (st' := [.long (Int64.ofInt 0), .long k42_6]) rfl (fun _ => rfl) ?_
                          refine pw_ld E (pc' := 178) (st' := [.long (k42_6 + (Int64.ofInt 0))]) rfl (fun _ => rfl) ?_
                          refine pw_lst E (pc' := 180) (ls' := [some (.ref 141), some (pw_i wt), some (.long (k42_2 + (Int64.ofInt 1))), none, some (.long (k42_4 + (Int64.ofInt 0))), none, some (.long (k42_6 + (Int64.ofInt 0))), none, some (.long k42_8), none, some (.long (Int64.ofInt k42_10)), none, some (.long (pw_gl h97 125 24)), none, some (.long (Int64.ofInt (pw_gm h97 125 25))), none, some (pw_i k42_16)]) rfl rfl rfl rfl ?_
                          refine pw_inc E (pc' := 183) (ls' := [some (.ref 141), some (pw_i wt), some (.long (k42_2 + (Int64.ofInt 1))), none, some (.long (k42_4 + (Int64.ofInt 0))), none, some (.long (k42_6 + (Int64.ofInt 0))), none, some (.long k42_8), none, some (.long (Int64.ofInt k42_10)), none, some (.long (pw_gl h97 125 24)), none, some (.long (Int64.ofInt (pw_gm h97 125 25))), none, some (pw_i (k42_16 + 1))]) rfl rfl rfl rfl ?_
                          refine pw_goto E (pc' := 42) rfl (by decide) ?_
                          exact ih42 _ (by omega) (k42_2 + (Int64.ofInt 1)) (k42_4 + (Int64.ofInt 0)) (k42_6 + (Int64.ofInt 0)) (k42_8) (k42_10) (pw_gl h97 125 24) (pw_gm h97 125 25) (k42_16 + 1) h97 h97I h97F (by omega) (by omega) (by omega) (by omega) (by omega) (by omega)  rfl
                        · intro hc153
                          have hc153 : ¬ (c151 ≤ (0 : Int)) := hc153
                          refine pw_ld E (pc' := 173) (st' := [.long (Int64.ofInt 1), .long k42_6]) rfl (fun _ => rfl) ?_
                          refine pw_goto E (pc' := 177) rfl (by decide) ?_
                          refine pw_ld E (pc' := 178) (st' := [.long (k42_6 + (Int64.ofInt 1))]) rfl (fun _ => rfl) ?_
                          refine pw_lst E (pc' := 180) (ls' := [some (.ref 141), some (pw_i wt), some (.long (k42_2 + (Int64.ofInt 1))), none, some (.long (k42_4 + (Int64.ofInt 0))), none, some (.long (k42_6 + (Int64.ofInt 1))), none, some (.long k42_8), none, some (.long (Int64.ofInt k42_10)), none, some (.long (pw_gl h97 125 24)), none, some (.long (Int64.ofInt (pw_gm h97 125 25))), none, some (pw_i k42_16)]) rfl rfl rfl rfl ?_
                          refine pw_inc E (pc' := 183) (ls' := [some (.ref 141), some (pw_i wt), some (.long (k42_2 + (Int64.ofInt 1))), none, some (.long (k42_4 + (Int64.ofInt 0))), none, some (.long (k42_6 + (Int64.ofInt 1))), none, some (.long k42_8), none, some (.long (Int64.ofInt k42_10)), none, some (.long (pw_gl h97 125 24)), none, some (.long (Int64.ofInt (pw_gm h97 125 25))), none, some (pw_i (k42_16 + 1))]) rfl rfl rfl rfl ?_
                          refine pw_goto E (pc' := 42) rfl (by decide) ?_
                          exact ih42 _ (by omega) (k42_2 + (Int64.ofInt 1)) (k42_4 + (Int64.ofInt 0)) (k42_6 + (Int64.ofInt 1)) (k42_8) (k42_10) (pw_gl h97 125 24) (pw_gm h97 125 25) (k42_16 + 1) h97 h97I h97F (by omega) (by omega) (by omega) (by omega) (by omega) (by omega)  rfl
                      · intro hc154
                        have hc154 : ¬ ((0 : Int) ≤ c149) := hc154
                        refine pw_ld E (pc' := 154) (st' := [.long (Int64.ofInt 1), .long k42_4]) rfl (fun _ => rfl) ?_
                        refine pw_goto E (pc' := 158) rfl (by decide) ?_
                        refine pw_ld E (pc' := 159) (st' := [.long (k42_4 + (Int64.ofInt 1))]) rfl (fun _ => rfl) ?_
                        refine pw_lst E (pc' := 161) (ls' := [some (.ref 141), some (pw_i wt), some (.long (k42_2 + (Int64.ofInt 1))), none, some (.long (k42_4 + (Int64.ofInt 1))), none, some (.long k42_6), none, some (.long k42_8), none, some (.long (Int64.ofInt k42_10)), none, some (.long (pw_gl h97 125 24)), none, some (.long (Int64.ofInt (pw_gm h97 125 25))), none, some (pw_i k42_16)]) rfl rfl rfl rfl ?_
                        refine pw_ld E (pc' := 163) (st' := [.long k42_6]) rfl (fun _ => rfl) ?_
                        refine pw_ld E (pc' := 164) (st' := [.ref 141, .long k42_6]) rfl (fun _ => rfl) ?_
                        refine pw_getL h97I E (c := 125) (k := 24) (pc' := 167) rfl rfl rfl rfl rfl rfl ?_
                        refine pw_ld E (pc' := 168) (st' := [.long (Int64.ofInt 0), .long (pw_gl h97 125 24), .long k42_6]) rfl (fun _ => rfl) ?_
                        refine pw_lcmp E (pc' := 169) rfl rfl (fun c155 hc155 => ?_)
                        refine pw_if E (pc' := 176) rfl (by decide) (by omega) (by omega) ?_ ?_
                        · intro hc156
                          have hc156 : c155 ≤ (0 : Int) := hc156
                          refine pw_ld E (pc' := 177) (st' := [.long (Int64.ofInt 0), .long k42_6]) rfl (fun _ => rfl) ?_
                          refine pw_ld E (pc' := 178) (st' := [.long (k42_6 + (Int64.ofInt 0))]) rfl (fun _ => rfl) ?_
                          refine pw_lst E (pc' := 180) (ls' := [some (.ref 141), some (pw_i wt), some (.long (k42_2 + (Int64.ofInt 1))), none, some (.long (k42_4 + (Int64.ofInt 1))), none, some (.long (k42_6 + (Int64.ofInt 0))), none, some (.long k42_8), none, some (.long (Int64.ofInt k42_10)), none, some (.long (pw_gl h97 125 24)), none, some (.long (Int64.ofInt (pw_gm h97 125 25))), none, some (pw_i k42_16)]) rfl rfl rfl rfl ?_
                          refine pw_inc E (pc' := 183) (ls' := [some (.ref 141), some (pw_i wt), some (.long (k42_2 + (Int64.ofInt 1))), none, some (.long (k42_4 + (Int64.ofInt 1))), none, some (.long (k42_6 + (Int64.ofInt 0))), none, some (.long k42_8), none, some (.long (Int64.ofInt k42_10)), none, some (.long (pw_gl h97 125 24)), none, some (.long (Int64.ofInt (pw_gm h97 125 25))), none, some (pw_i (k42_16 + 1))]) rfl rfl rfl rfl ?_
                          refine pw_goto E (pc' := 42) rfl (by decide) ?_
                          exact ih42 _ (by omega) (k42_2 + (Int64.ofInt 1)) (k42_4 + (Int64.ofInt 1)) (k42_6 + (Int64.ofInt 0)) (k42_8) (k42_10) (pw_gl h97 125 24) (pw_gm h97 125 25) (k42_16 + 1) h97 h97I h97F (by omega) (by omega) (by omega) (by omega) (by omega) (by omega)  rfl
                        · intro hc157
                          have hc157 : ¬ (c155 ≤ (0 : Int)) := hc157
                          refine pw_ld E (pc' := 173) (st' := [.long (Int64.ofInt 1), .long k42_6]) rfl (fun _ => rfl) ?_
                          refine pw_goto E (pc' := 177) rfl (by decide) ?_
                          refine pw_ld E (pc' := 178) (st' := [.long (k42_6 + (Int64.ofInt 1))]) rfl (fun _ => rfl) ?_
                          refine pw_lst E (pc' := 180) (ls' := [some (.ref 141), some (pw_i wt), some (.long (k42_2 + (Int64.ofInt 1))), none, some (.long (k42_4 + (Int64.ofInt 1))), none, some (.long (k42_6 + (Int64.ofInt 1))), none, some (.long k42_8), none, some (.long (Int64.ofInt k42_10)), none, some (.long (pw_gl h97 125 24)), none, some (.long (Int64.ofInt (pw_gm h97 125 25))), none, some (pw_i k42_16)]) rfl rfl rfl rfl ?_
                          refine pw_inc E (pc' := 183) (ls' := [some (.ref 141), some (pw_i wt), some (.long (k42_2 + (Int64.ofInt 1))), none, some (.long (k42_4 + (Int64.ofInt 1))), none, some (.long (k42_6 + (Int64.ofInt 1))), none, some (.long k42_8), none, some (.long (Int64.ofInt k42_10)), none, some (.long (pw_gl h97 125 24)), none, some (.long (Int64.ofInt (pw_gm h97 125 25))), none, some (pw_i (k42_16 + 1))]) rfl rfl rfl rfl ?_
                          refine pw_goto E (pc' := 42) rfl (by decide) ?_
                          exact ih42 _ (by omega) (k42_2 + (Int64.ofInt 1)) (k42_4 + (Int64.ofInt 1)) (k42_6 + (Int64.ofInt 1)) (k42_8) (k42_10) (pw_gl h97 125 24) (pw_gm h97 125 25) (k42_16 + 1) h97 h97I h97F (by omega) (by omega) (by omega) (by omega) (by omega) (by omega)  rfl
                    · intro hc158
                      have hc158 : ¬ (c146 = (0 : Int)) := hc158
                      refine pw_ld E (pc' := 109) (st' := [.ref 141]) rfl (fun _ => rfl) ?_
                      refine pw_getL h97I E (c := 125) (k := 24) (pc' := 112) rfl rfl rfl rfl rfl rfl ?_
                      refine pw_ld E (pc' := 114) (st' := [.long (Int64.ofInt k42_14), .long (pw_gl h97 125 24)]) rfl (fun _ => rfl) ?_
                      refine pw_ld E (pc' := 115) (st' := [.long ((pw_gl h97 125 24) * (Int64.ofInt k42_14))]) rfl (fun _ => rfl) ?_
                      refine pw_ld E (pc' := 117) (st' := [.long k42_12, .long ((pw_gl h97 125 24) * (Int64.ofInt k42_14))]) rfl (fun _ => rfl) ?_
                      refine pw_ld E (pc' := 118) (st' := [.ref 141, .long k42_12, .long ((pw_gl h97 125 24) * (Int64.ofInt k42_14))]) rfl (fun _ => rfl) ?_
                      refine pw_getM h97I E (c := 125) (k := 25) (pc' := 121) rfl rfl rfl rfl rfl rfl (fun hf159a hf159b => ?_)
                      refine pw_ld E (pc' := 122) (st' := [.long (k42_12 * (Int64.ofInt (pw_gm h97 125 25))), .long ((pw_gl h97 125 24) * (Int64.ofInt k42_14))]) rfl (fun _ => rfl) ?_
                      refine pw_lcmp E (pc' := 123) rfl rfl (fun c160 hc160 => ?_)
                      refine pw_if E (pc' := 138) rfl (by decide) (by omega) (by omega) ?_ ?_
                      · intro hc161
                        have hc161 : c160 ≤ (0 : Int) := hc161
                        refine pw_ld E (pc' := 139) (st' := [.long k42_2]) rfl (fun _ => rfl) ?_
                        refine pw_ld E (pc' := 140) (st' := [.long (Int64.ofInt 1), .long k42_2]) rfl (fun _ => rfl) ?_
                        refine pw_ld E (pc' := 141) (st' := [.long (k42_2 + (Int64.ofInt 1))]) rfl (fun _ => rfl) ?_
                        refine pw_lstn E (pc' := 142) (ls' := [some (.ref 141), some (pw_i wt), some (.long (k42_2 + (Int64.ofInt 1))), none, some (.long k42_4), none, some (.long k42_6), none, some (.long k42_8), none, some (.long (Int64.ofInt k42_10)), none, some (.long k42_12), none, some (.long (Int64.ofInt k42_14)), none, some (pw_i k42_16)]) rfl rfl rfl rfl ?_
                        refine pw_ld E (pc' := 144) (st' := [.long k42_4]) rfl (fun _ => rfl) ?_
                        refine pw_ld E (pc' := 145) (st' := [.ref 141, .long k42_4]) rfl (fun _ => rfl) ?_
                        refine pw_getL h97I E (c := 125) (k := 24) (pc' := 148) rfl rfl rfl rfl rfl rfl ?_
                        refine pw_ld E (pc' := 149) (st' := [.long (Int64.ofInt 0), .long (pw_gl h97 125 24), .long k42_4]) rfl (fun _ => rfl) ?_
                        refine pw_lcmp E (pc' := 150) rfl rfl (fun c162 hc162 => ?_)
                        refine pw_if E (pc' := 157) rfl (by decide) (by omega) (by omega) ?_ ?_
                        · intro hc163
                          have hc163 : (0 : Int) ≤ c162 := hc163
                          refine pw_ld E (pc' := 158) (st' := [.long (Int64.ofInt 0), .long k42_4]) rfl (fun _ => rfl) ?_
                          refine pw_ld E (pc' := 159) (st' := [.long (k42_4 + (Int64.ofInt 0))]) rfl (fun _ => rfl) ?_
                          refine pw_lst E (pc' := 161) (ls' := [some (.ref 141), some (pw_i wt), some (.long (k42_2 + (Int64.ofInt 1))), none, some (.long (k42_4 + (Int64.ofInt 0))), none, some (.long k42_6), none, some (.long k42_8), none, some (.long (Int64.ofInt k42_10)), none, some (.long k42_12), none, some (.long (Int64.ofInt k42_14)), none, some (pw_i k42_16)]) rfl rfl rfl rfl ?_
                          refine pw_ld E (pc' := 163) (st' := [.long k42_6]) rfl (fun _ => rfl) ?_
                          refine pw_ld E (pc' := 164) (st' := [.ref 141, .long k42_6]) rfl (fun _ => rfl) ?_
                          refine pw_getL h97I E (c := 125) (k := 24) (pc' := 167) rfl rfl rfl rfl rfl rfl ?_
                          refine pw_ld E (pc' := 168) (st' := [.long (Int64.ofInt 0), .long (pw_gl h97 125 24), .long k42_6]) rfl (fun _ => rfl) ?_
                          refine pw_lcmp E (pc' := 169) rfl rfl (fun c164 hc164 => ?_)
                          refine pw_if E (pc' := 176) rfl (by decide) (by omega) (by omega) ?_ ?_
                          · intro hc165
                            have hc165 : c164 ≤ (0 : Int) := hc165
                            refine pw_ld E (pc' := 177) (st' := [.long (Int64.ofInt 0), .long k42_6]) rfl (fun _ => rfl) ?_
                            refine pw_ld E (pc' := 178) (st' := [.long (k42_6 + (Int64.ofInt 0))]) rfl (fun _ => rfl) ?_
                            refine pw_lst E (pc' := 180) (ls' := [some (.ref 141), some (pw_i wt), some (.long (k42_2 + (Int64.ofInt 1))), none, some (.long (k42_4 + (Int64.ofInt 0))), none, some (.long (k42_6 + (Int64.ofInt 0))), none, some (.long k42_8), none, some (.long (Int64.ofInt k42_10)), none, some (.long k42_12), none, some (.long (Int64.ofInt k42_14)), none, some (pw_i k42_16)]) rfl rfl rfl rfl ?_
                            refine pw_inc E (pc' := 183) (ls' := [some (.ref 141), some (pw_i wt), some (.long (k42_2 + (Int64.ofInt 1))), none, some (.long (k42_4 + (Int64.ofInt 0))), none, some (.long (k42_6 + (Int64.ofInt 0))), none, some (.long k42_8), none, some (.long (Int64.ofInt k42_10)), none, some (.long k42_12), none, some (.long (Int64.ofInt k42_14)), none, some (pw_i (k42_16 + 1))]) rfl rfl rfl rfl ?_
                            refine pw_goto E (pc' := 42) rfl (by decide) ?_
                            exact ih42 _ (by omega) (k42_2 + (Int64.ofInt 1)) (k42_4 + (Int64.ofInt 0)) (k42_6 + (Int64.ofInt 0)) (k42_8) (k42_10) (k42_12) (k42_14) (k42_16 + 1) h97 h97I h97F (by omega) (by omega) (by omega) (by omega) (by omega) (by omega)  rfl
                          · intro hc166
                            have hc166 : ¬ (c164 ≤ (0 : Int)) := hc166
                            refine pw_ld E (pc' := 173) (st' := [.long (Int64.ofInt 1), .long k42_6]) rfl (fun _ => rfl) ?_
                            refine pw_goto E (pc' := 177) rfl (by decide) ?_
                            refine pw_ld E (pc' := 178) (st' := [.long (k42_6 + (Int64.ofInt 1))]) rfl (fun _ => rfl) ?_
                            refine pw_lst E (pc' := 180) (ls' := [some (.ref 141), some (pw_i wt), some (.long (k42_2 + (Int64.ofInt 1))), none, some (.long (k42_4 + (Int64.ofInt 0))), none, some (.long (k42_6 + (Int64.ofInt 1))), none, some (.long k42_8), none, some (.long (Int64.ofInt k42_10)), none, some (.long k42_12), none, some (.long (Int64.ofInt k42_14)), none, some (pw_i k42_16)]) rfl rfl rfl rfl ?_
                            refine pw_inc E (pc' := 183) (ls' := [some (.ref 141), some (pw_i wt), some (.long (k42_2 + (Int64.ofInt 1))), none, some (.long (k42_4 + (Int64.ofInt 0))), none, some (.long (k42_6 + (Int64.ofInt 1))), none, some (.long k42_8), none, some (.long (Int64.ofInt k42_10)), none, some (.long k42_12), none, some (.long (Int64.ofInt k42_14)), none, some (pw_i (k42_16 + 1))]) rfl rfl rfl rfl ?_
                            refine pw_goto E (pc' := 42) rfl (by decide) ?_
                            exact ih42 _ (by omega) (k42_2 + (Int64.ofInt 1)) (k42_4 + (Int64.ofInt 0)) (k42_6 + (Int64.ofInt 1)) (k42_8) (k42_10) (k42_12) (k42_14) (k42_16 + 1) h97 h97I h97F (by omega) (by omega) (by omega) (by omega) (by omega) (by omega)  rfl
                        · intro hc167
                          have hc167 : ¬ ((0 : Int) ≤ c162) := hc167
                          refine pw_ld E (pc' := 154) (st' := [.long (Int64.ofInt 1), .long k42_4]) rfl (fun _ => rfl) ?_
                          refine pw_goto E (pc' := 158) rfl (by decide) ?_
                          refine pw_ld E (pc' := 159) (st' := [.long (k42_4 + (Int64.ofInt 1))]) rfl (fun _ => rfl) ?_
                          refine pw_lst E (pc' := 161) (ls' := [some (.ref 141), some (pw_i wt), some (.long (k42_2 + (Int64.ofInt 1))), none, some (.long (k42_4 + (Int64.ofInt 1))), none, some (.long k42_6), none, some (.long k42_8), none, some (.long (Int64.ofInt k42_10)), none, some (.long k42_12), none, some (.long (Int64.ofInt k42_14)), none, some (pw_i k42_16)]) rfl rfl rfl rfl ?_
                          refine pw_ld E (pc' := 163) (st' := [.long k42_6]) rfl (fun _ => rfl) ?_
                          refine pw_ld E (pc' := 164) (st' := [.ref 141, .long k42_6]) rfl (fun _ => rfl) ?_
                          refine pw_getL h97I E (c := 125) (k := 24) (pc' := 167) rfl rfl rfl rfl rfl rfl ?_
                          refine pw_ld E (pc' := 168) (st' := [.long (Int64.ofInt 0), .long (pw_gl h97 125 24), .long k42_6]) rfl (fun _ => rfl) ?_
                          refine pw_lcmp E (pc' := 169) rfl rfl (fun c168 hc168 => ?_)
                          refine pw_if E (pc' := 176) rfl (by decide) (by omega) (by omega) ?_ ?_
                          · intro hc169
                            have hc169 : c168 ≤ (0 : Int) := hc169
                            refine pw_ld E (pc' := 177) (st' := [.long (Int64.ofInt 0), .long k42_6]) rfl (fun _ => rfl) ?_
                            refine pw_ld E (pc' := 178) (st' := [.long (k42_6 + (Int64.ofInt 0))]) rfl (fun _ => rfl) ?_
                            refine pw_lst E (pc' := 180) (ls' := [some (.ref 141), some (pw_i wt), some (.long (k42_2 + (Int64.ofInt 1))), none, some (.long (k42_4 + (Int64.ofInt 1))), none, some (.long (k42_6 + (Int64.ofInt 0))), none, some (.long k42_8), none, some (.long (Int64.ofInt k42_10)), none, some (.long k42_12), none, some (.long (Int64.ofInt k42_14)), none, some (pw_i k42_16)]) rfl rfl rfl rfl ?_
                            refine pw_inc E (pc' := 183) (ls' := [some (.ref 141), some (pw_i wt), some (.long (k42_2 + (Int64.ofInt 1))), none, some (.long (k42_4 + (Int64.ofInt 1))), none, some (.long (k42_6 + (Int64.ofInt 0))), none, some (.long k42_8), none, some (.long (Int64.ofInt k42_10)), none, some (.long k42_12), none, some (.long (Int64.ofInt k42_14)), none, some (pw_i (k42_16 + 1))]) rfl rfl rfl rfl ?_
                            refine pw_goto E (pc' := 42) rfl (by decide) ?_
                            exact ih42 _ (by omega) (k42_2 + (Int64.ofInt 1)) (k42_4 + (Int64.ofInt 1)) (k42_6 + (Int64.ofInt 0)) (k42_8) (k42_10) (k42_12) (k42_14) (k42_16 + 1) h97 h97I h97F (by omega) (by omega) (by omega) (by omega) (by omega) (by omega)  rfl
                          · intro hc170
                            have hc170 : ¬ (c168 ≤ (0 : Int)) := hc170
                            refine pw_ld E (pc' := 173) (st' := [.long (Int64.ofInt 1), .long k42_6]) rfl (fun _ => rfl) ?_
                            refine pw_goto E (pc' := 177) rfl (by decide) ?_
                            refine pw_ld E (pc' := 178) (st' := [.long (k42_6 + (Int64.ofInt 1))]) rfl (fun _ => rfl) ?_
                            refine pw_lst E (pc' := 180) (ls' := [some (.ref 141), some (pw_i wt), some (.long (k42_2 + (Int64.ofInt 1))), none, some (.long (k42_4 + (Int64.ofInt 1))), none, some (.long (k42_6 + (Int64.ofInt 1))), none, some (.long k42_8), none, some (.long (Int64.ofInt k42_10)), none, some (.long k42_12), none, some (.long (Int64.ofInt k42_14)), none, some (pw_i k42_16)]) rfl rfl rfl rfl ?_
                            refine pw_inc E (pc' := 183) (ls' := [some (.ref 141), some (pw_i wt), some (.long (k42_2 + (Int64.ofInt 1))), none, some (.long (k42_4 + (Int64.ofInt 1))), none, some (.long (k42_6 + (Int64.ofInt 1))), none, some (.long k42_8), none, some (.long (Int64.ofInt k42_10)), none, some (.long k42_12), none, some (.long (Int64.ofInt k42_14)), none, some (pw_i (k42_16 + 1))]) rfl rfl rfl rfl ?_
                            refine pw_goto E (pc' := 42) rfl (by decide) ?_
                            exact ih42 _ (by omega) (k42_2 + (Int64.ofInt 1)) (k42_4 + (Int64.ofInt 1)) (k42_6 + (Int64.ofInt 1)) (k42_8) (k42_10) (k42_12) (k42_14) (k42_16 + 1) h97 h97I h97F (by omega) (by omega) (by omega) (by omega) (by omega) (by omega)  rfl
                      · intro hc171
                        have hc171 : ¬ (c160 ≤ (0 : Int)) := hc171
                        refine pw_ld E (pc' := 127) (st' := [.ref 141]) rfl (fun _ => rfl) ?_
                        refine pw_getL h97I E (c := 125) (k := 24) (pc' := 130) rfl rfl rfl rfl rfl rfl ?_
                        refine pw_lst E (pc' := 132) (ls' := [some (.ref 141), some (pw_i wt), some (.long k42_2), none, some (.long k42_4), none, some (.long k42_6), none, some (.long k42_8), none, some (.long (Int64.ofInt k42_10)), none, some (.long (pw_gl h97 125 24)), none, some (.long (Int64.ofInt k42_14)), none, some (pw_i k42_16)]) rfl rfl rfl rfl ?_
                        refine pw_ld E (pc' := 133) (st' := [.ref 141]) rfl (fun _ => rfl) ?_
                        refine pw_getM h97I E (c := 125) (k := 25) (pc' := 136) rfl rfl rfl rfl rfl rfl (fun hf172a hf172b => ?_)
                        refine pw_lst E (pc' := 138) (ls' := [some (.ref 141), some (pw_i wt), some (.long k42_2), none, some (.long k42_4), none, some (.long k42_6), none, some (.long k42_8), none, some (.long (Int64.ofInt k42_10)), none, some (.long (pw_gl h97 125 24)), none, some (.long (Int64.ofInt (pw_gm h97 125 25))), none, some (pw_i k42_16)]) rfl rfl rfl rfl ?_
                        refine pw_ld E (pc' := 139) (st' := [.long k42_2]) rfl (fun _ => rfl) ?_
                        refine pw_ld E (pc' := 140) (st' := [.long (Int64.ofInt 1), .long k42_2]) rfl (fun _ => rfl) ?_
                        refine pw_ld E (pc' := 141) (st' := [.long (k42_2 + (Int64.ofInt 1))]) rfl (fun _ => rfl) ?_
                        refine pw_lstn E (pc' := 142) (ls' := [some (.ref 141), some (pw_i wt), some (.long (k42_2 + (Int64.ofInt 1))), none, some (.long k42_4), none, some (.long k42_6), none, some (.long k42_8), none, some (.long (Int64.ofInt k42_10)), none, some (.long (pw_gl h97 125 24)), none, some (.long (Int64.ofInt (pw_gm h97 125 25))), none, some (pw_i k42_16)]) rfl rfl rfl rfl ?_
                        refine pw_ld E (pc' := 144) (st' := [.long k42_4]) rfl (fun _ => rfl) ?_
                        refine pw_ld E (pc' := 145) (st' := [.ref 141, .long k42_4]) rfl (fun _ => rfl) ?_
                        refine pw_getL h97I E (c := 125) (k := 24) (pc' := 148) rfl rfl rfl rfl rfl rfl ?_
                        refine pw_ld E (pc' := 149) (st' := [.long (Int64.ofInt 0), .long (pw_gl h97 125 24), .long k42_4]) rfl (fun _ => rfl) ?_
                        refine pw_lcmp E (pc' := 150) rfl rfl (fun c173 hc173 => ?_)
                        refine pw_if E (pc' := 157) rfl (by decide) (by omega) (by omega) ?_ ?_
                        · intro hc174
                          have hc174 : (0 : Int) ≤ c173 := hc174
                          refine pw_ld E (pc' := 158) (st' := [.long (Int64.ofInt 0), .long k42_4]) rfl (fun _ => rfl) ?_
                          refine pw_ld E (pc' := 159) (st' := [.long (k42_4 + (Int64.ofInt 0))]) rfl (fun _ => rfl) ?_
                          refine pw_lst E (pc' := 161) (ls' := [some (.ref 141), some (pw_i wt), some (.long (k42_2 + (Int64.ofInt 1))), none, some (.long (k42_4 + (Int64.ofInt 0))), none, some (.long k42_6), none, some (.long k42_8), none, some (.long (Int64.ofInt k42_10)), none, some (.long (pw_gl h97 125 24)), none, some (.long (Int64.ofInt (pw_gm h97 125 25))), none, some (pw_i k42_16)]) rfl rfl rfl rfl ?_
                          refine pw_ld E (pc' := 163) (st' := [.long k42_6]) rfl (fun _ => rfl) ?_
                          refine pw_ld E (pc' := 164) (st' := [.ref 141, .long k42_6]) rfl (fun _ => rfl) ?_
                          refine pw_getL h97I E (c := 125) (k := 24) (pc' := 167) rfl rfl rfl rfl rfl rfl ?_
                          refine pw_ld E (pc' := 168) (st' := [.long (Int64.ofInt 0), .long (pw_gl h97 125 24), .long k42_6]) rfl (fun _ => rfl) ?_
                          refine pw_lcmp E (pc' := 169) rfl rfl (fun c175 hc175 => ?_)
                          refine pw_if E (pc' := 176) rfl (by decide) (by omega) (by omega) ?_ ?_
                          · intro hc176
                            have hc176 : c175 ≤ (0 : Int) := hc176
                            refine pw_ld E (pc' := 177) (st' := [.long (Int64.ofInt 0), .long k42_6]) rfl (fun _ => rfl) ?_
                            refine pw_ld E (pc' := 178) (st' := [.long (k42_6 + (Int64.ofInt 0))]) rfl (fun _ => rfl) ?_
                            refine pw_lst E (pc' := 180) (ls' := [some (.ref 141), some (pw_i wt), some (.long (k42_2 + (Int64.ofInt 1))), none, some (.long (k42_4 + (Int64.ofInt 0))), none, some (.long (k42_6 + (Int64.ofInt 0))), none, some (.long k42_8), none, some (.long (Int64.ofInt k42_10)), none, some (.long (pw_gl h97 125 24)), none, some (.long (Int64.ofInt (pw_gm h97 125 25))), none, some (pw_i k42_16)]) rfl rfl rfl rfl ?_
                            refine pw_inc E (pc' := 183) (ls' := [some (.ref 141), some (pw_i wt), some (.long (k42_2 + (Int64.ofInt 1))), none, some (.long (k42_4 + (Int64.ofInt 0))), none, some (.long (k42_6 + (Int64.ofInt 0))), none, some (.long k42_8), none, some (.long (Int64.ofInt k42_10)), none, some (.long (pw_gl h97 125 24)), none, some (.long (Int64.ofInt (pw_gm h97 125 25))), none, some (pw_i (k42_16 + 1))]) rfl rfl rfl rfl ?_
                            refine pw_goto E (pc' := 42) rfl (by decide) ?_
                            exact ih42 _ (by omega) (k42_2 + (Int64.ofInt 1)) (k42_4 + (Int64.ofInt 0)) (k42_6 + (Int64.ofInt 0)) (k42_8) (k42_10) (pw_gl h97 125 24) (pw_gm h97 125 25) (k42_16 + 1) h97 h97I h97F (by omega) (by omega) (by omega) (by omega) (by omega) (by omega)  rfl
                          · intro hc177
                            have hc177 : ¬ (c175 ≤ (0 : Int)) := hc177
                            refine pw_ld E (pc' := 173) (st' := [.long (Int64.ofInt 1), .long k42_6]) rfl (fun _ => rfl) ?_
                            refine pw_goto E (pc' := 177) rfl (by decide) ?_
                            refine pw_ld E (pc' := 178) (st' := [.long (k42_6 + (Int64.ofInt 1))]) rfl (fun _ => rfl) ?_
                            refine pw_lst E (pc' := 180) (ls' := [some (.ref 141), some (pw_i wt), some (.long (k42_2 + (Int64.ofInt 1))), none, some (.long (k42_4 + (Int64.ofInt 0))), none, some (.long (k42_6 + (Int64.ofInt 1))), none, some (.long k42_8), none, some (.long (Int64.ofInt k42_10)), none, some (.long (pw_gl h97 125 24)), none, some (.long (Int64.ofInt (pw_gm h97 125 25))), none, some (pw_i k42_16)]) rfl rfl rfl rfl ?_
                            refine pw_inc E (pc' := 183) (ls' := [some (.ref 141), some (pw_i wt), some (.long (k42_2 + (Int64.ofInt 1))), none, some (.long (k42_4 + (Int64.ofInt 0))), none, some (.long (k42_6 + (Int64.ofInt 1))), none, some (.long k42_8), none, some (.long (Int64.ofInt k42_10)), none, some (.long (pw_gl h97 125 24)), none, some (.long (Int64.ofInt (pw_gm h97 125 25))), none, some (pw_i (k42_16 + 1))]) rfl rfl rfl rfl ?_
                            refine pw_goto E (pc' := 42) rfl (by decide) ?_
                            exact ih42 _ (by omega) (k42_2 + (Int64.ofInt 1)) (k42_4 + (Int64.ofInt 0)) (k42_6 + (Int64.ofInt 1)) (k42_8) (k42_10) (pw_gl h97 125 24) (pw_gm h97 125 25) (k42_16 + 1) h97 h97I h97F (by omega) (by omega) (by omega) (by omega) (by omega) (by omega)  rfl
                        · intro hc178
                          have hc178 : ¬ ((0 : Int) ≤ c173) := hc178
                          refine pw_ld E (pc' := 154) (st' := [.long (Int64.ofInt 1), .long k42_4]) rfl (fun _ => rfl) ?_
                          refine pw_goto E (pc' := 158) rfl (by decide) ?_
                          refine pw_ld E (pc' := 159) (st' := [.long (k42_4 + (Int64.ofInt 1))]) rfl (fun _ => rfl) ?_
                          refine pw_lst E (pc' := 161) (ls' := [some (.ref 141), some (pw_i wt), some (.long (k42_2 + (Int64.ofInt 1))), none, some (.long (k42_4 + (Int64.ofInt 1))), none, some (.long k42_6), none, some (.long k42_8), none, some (.long (Int64.ofInt k42_10)), none, some (.long (pw_gl h97 125 24)), none, some (.long (Int64.ofInt (pw_gm h97 125 25))), none, some (pw_i k42_16)]) rfl rfl rfl rfl ?_
                          refine pw_ld E (pc' := 163) (st' := [.long k42_6]) rfl (fun _ => rfl) ?_
                          refine pw_ld E (pc' := 164) (st' := [.ref 141, .long k42_6]) rfl (fun _ => rfl) ?_
                          refine pw_getL h97I E (c := 125) (k := 24) (pc' := 167) rfl rfl rfl rfl rfl rfl ?_
                          refine pw_ld E (pc' := 168) (st' := [.long (Int64.ofInt 0), .long (pw_gl h97 125 24), .long k42_6]) rfl (fun _ => rfl) ?_
                          refine pw_lcmp E (pc' := 169) rfl rfl (fun c179 hc179 => ?_)
                          refine pw_if E (pc' := 176) rfl (by decide) (by omega) (by omega) ?_ ?_
                          · intro hc180
                            have hc180 : c179 ≤ (0 : Int) := hc180
                            refine pw_ld E (pc' := 177) (st' := [.long (Int64.ofInt 0), .long k42_6]) rfl (fun _ => rfl) ?_
                            refine pw_ld E (pc' := 178) (st' := [.long (k42_6 + (Int64.ofInt 0))]) rfl (fun _ => rfl) ?_
                            refine pw_lst E (pc' := 180) (ls' := [some (.ref 141), some (pw_i wt), some (.long (k42_2 + (Int64.ofInt 1))), none, some (.long (k42_4 + (Int64.ofInt 1))), none, some (.long (k42_6 + (Int64.ofInt 0))), none, some (.long k42_8), none, some (.long (Int64.ofInt k42_10)), none, some (.long (pw_gl h97 125 24)), none, some (.long (Int64.ofInt (pw_gm h97 125 25))), none, some (pw_i k42_16)]) rfl rfl rfl rfl ?_
                            refine pw_inc E (pc' := 183) (ls' := [some (.ref 141), some (pw_i wt), some (.long (k42_2 + (Int64.ofInt 1))), none, some (.long (k42_4 + (Int64.ofInt 1))), none, some (.long (k42_6 + (Int64.ofInt 0))), none, some (.long k42_8), none, some (.long (Int64.ofInt k42_10)), none, some (.long (pw_gl h97 125 24)), none, some (.long (Int64.ofInt (pw_gm h97 125 25))), none, some (pw_i (k42_16 + 1))]) rfl rfl rfl rfl ?_
                            refine pw_goto E (pc' := 42) rfl (by decide) ?_
                            exact ih42 _ (by omega) (k42_2 + (Int64.ofInt 1)) (k42_4 + (Int64.ofInt 1)) (k42_6 + (Int64.ofInt 0)) (k42_8) (k42_10) (pw_gl h97 125 24) (pw_gm h97 125 25) (k42_16 + 1) h97 h97I h97F (by omega) (by omega) (by omega) (by omega) (by omega) (by omega)  rfl
                          · intro hc181
                            have hc181 : ¬ (c179 ≤ (0 : Int)) := hc181
                            refine pw_ld E (pc' := 173) (st' := [.long (Int64.ofInt 1), .long k42_6]) rfl (fun _ => rfl) ?_
                            refine pw_goto E (pc' := 177) rfl (by decide) ?_
                            refine pw_ld E (pc' := 178) (st' := [.long (k42_6 + (Int64.ofInt 1))]) rfl (fun _ => rfl) ?_
                            refine pw_lst E (pc' := 180) (ls' := [some (.ref 141), some (pw_i wt), some (.long (k42_2 + (Int64.ofInt 1))), none, some (.long (k42_4 + (Int64.ofInt 1))), none, some (.long (k42_6 + (Int64.ofInt 1))), none, some (.long k42_8), none, some (.long (Int64.ofInt k42_10)), none, some (.long (pw_gl h97 125 24)), none, some (.long (Int64.ofInt (pw_gm h97 125 25))), none, some (pw_i k42_16)]) rfl rfl rfl rfl ?_
                            refine pw_inc E (pc' := 183) (ls' := [some (.ref 141), some (pw_i wt), some (.long (k42_2 + (Int64.ofInt 1))), none, some (.long (k42_4 + (Int64.ofInt 1))), none, some (.long (k42_6 + (Int64.ofInt 1))), none, some (.long k42_8), none, some (.long (Int64.ofInt k42_10)), none, some (.long (pw_gl h97 125 24)), none, some (.long (Int64.ofInt (pw_gm h97 125 25))), none, some (pw_i (k42_16 + 1))]) rfl rfl rfl rfl ?_
                            refine pw_goto E (pc' := 42) rfl (by decide) ?_
                            exact ih42 _ (by omega) (k42_2 + (Int64.ofInt 1)) (k42_4 + (Int64.ofInt 1)) (k42_6 + (Int64.ofInt 1)) (k42_8) (k42_10) (pw_gl h97 125 24) (pw_gm h97 125 25) (k42_16 + 1) h97 h97I h97F (by omega) (by omega) (by omega) (by omega) (by omega) (by omega)  rfl
                  · intro hc182
                    have hc182 : ¬ ((0 : Int) ≤ c144) := hc182
                    refine pw_ld E (pc' := 91) (st' := [.ref 141]) rfl (fun _ => rfl) ?_
                    refine pw_getL h97I E (c := 125) (k := 24) (pc' := 94) rfl rfl rfl rfl rfl rfl ?_
                    refine pw_lst E (pc' := 96) (ls' := [some (.ref 141), some (pw_i wt), some (.long k42_2), none, some (.long k42_4), none, some (.long k42_6), none, some (.long (pw_gl h97 125 24)), none, some (.long (Int64.ofInt k42_10)), none, some (.long k42_12), none, some (.long (Int64.ofInt k42_14)), none, some (pw_i k42_16)]) rfl rfl rfl rfl ?_
                    refine pw_ld E (pc' := 97) (st' := [.ref 141]) rfl (fun _ => rfl) ?_
                    refine pw_getM h97I E (c := 125) (k := 25) (pc' := 100) rfl rfl rfl rfl rfl rfl (fun hf183a hf183b => ?_)
                    refine pw_lst E (pc' := 102) (ls' := [some (.ref 141), some (pw_i wt), some (.long k42_2), none, some (.long k42_4), none, some (.long k42_6), none, some (.long (pw_gl h97 125 24)), none, some (.long (Int64.ofInt (pw_gm h97 125 25))), none, some (.long k42_12), none, some (.long (Int64.ofInt k42_14)), none, some (pw_i k42_16)]) rfl rfl rfl rfl ?_
                    refine pw_ld E (pc' := 103) (st' := [.long k42_2]) rfl (fun _ => rfl) ?_
                    refine pw_ld E (pc' := 104) (st' := [.long (Int64.ofInt 0), .long k42_2]) rfl (fun _ => rfl) ?_
                    refine pw_lcmp E (pc' := 105) rfl rfl (fun c184 hc184 => ?_)
                    refine pw_if E (pc' := 126) rfl (by decide) (by omega) (by omega) ?_ ?_
                    · intro hc185
                      have hc185 : c184 = (0 : Int) := hc185
                      refine pw_ld E (pc' := 127) (st' := [.ref 141]) rfl (fun _ => rfl) ?_
                      refine pw_getL h97I E (c := 125) (k := 24) (pc' := 130) rfl rfl rfl rfl rfl rfl ?_
                      refine pw_lst E (pc' := 132) (ls' := [some (.ref 141), some (pw_i wt), some (.long k42_2), none, some (.long k42_4), none, some (.long k42_6), none, some (.long (pw_gl h97 125 24)), none, some (.long (Int64.ofInt (pw_gm h97 125 25))), none, some (.long (pw_gl h97 125 24)), none, some (.long (Int64.ofInt k42_14)), none, some (pw_i k42_16)]) rfl rfl rfl rfl ?_
                      refine pw_ld E (pc' := 133) (st' := [.ref 141]) rfl (fun _ => rfl) ?_
                      refine pw_getM h97I E (c := 125) (k := 25) (pc' := 136) rfl rfl rfl rfl rfl rfl (fun hf186a hf186b => ?_)
                      refine pw_lst E (pc' := 138) (ls' := [some (.ref 141), some (pw_i wt), some (.long k42_2), none, some (.long k42_4), none, some (.long k42_6), none, some (.long (pw_gl h97 125 24)), none, some (.long (Int64.ofInt (pw_gm h97 125 25))), none, some (.long (pw_gl h97 125 24)), none, some (.long (Int64.ofInt (pw_gm h97 125 25))), none, some (pw_i k42_16)]) rfl rfl rfl rfl ?_
                      refine pw_ld E (pc' := 139) (st' := [.long k42_2]) rfl (fun _ => rfl) ?_
                      refine pw_ld E (pc' := 140) (st' := [.long (Int64.ofInt 1), .long k42_2]) rfl (fun _ => rfl) ?_
                      refine pw_ld E (pc' := 141) (st' := [.long (k42_2 + (Int64.ofInt 1))]) rfl (fun _ => rfl) ?_
                      refine pw_lstn E (pc' := 142) (ls' := [some (.ref 141), some (pw_i wt), some (.long (k42_2 + (Int64.ofInt 1))), none, some (.long k42_4), none, some (.long k42_6), none, some (.long (pw_gl h97 125 24)), none, some (.long (Int64.ofInt (pw_gm h97 125 25))), none, some (.long (pw_gl h97 125 24)), none, some (.long (Int64.ofInt (pw_gm h97 125 25))), none, some (pw_i k42_16)]) rfl rfl rfl rfl ?_
                      refine pw_ld E (pc' := 144) (st' := [.long k42_4]) rfl (fun _ => rfl) ?_
                      refine pw_ld E (pc' := 145) (st' := [.ref 141, .long k42_4]) rfl (fun _ => rfl) ?_
                      refine pw_getL h97I E (c := 125) (k := 24) (pc' := 148) rfl rfl rfl rfl rfl rfl ?_
                      refine pw_ld E (pc' := 149) (st' := [.long (Int64.ofInt 0), .long (pw_gl h97 125 24), .long k42_4]) rfl (fun _ => rfl) ?_
                      refine pw_lcmp E (pc' := 150) rfl rfl (fun c187 hc187 => ?_)
                      refine pw_if E (pc' := 157) rfl (by decide) (by omega) (by omega) ?_ ?_
                      · intro hc188
                        have hc188 : (0 : Int) ≤ c187 := hc188
                        refine pw_ld E (pc' := 158) (st' := [.long (Int64.ofInt 0), .long k42_4]) rfl (fun _ => rfl) ?_
                        refine pw_ld E (pc' := 159) (st' := [.long (k42_4 + (Int64.ofInt 0))]) rfl (fun _ => rfl) ?_
                        refine pw_lst E (pc' := 161) (ls' := [some (.ref 141), some (pw_i wt), some (.long (k42_2 + (Int64.ofInt 1))), none, some (.long (k42_4 + (Int64.ofInt 0))), none, some (.long k42_6), none, some (.long (pw_gl h97 125 24)), none, some (.long (Int64.ofInt (pw_gm h97 125 25))), none, some (.long (pw_gl h97 125 24)), none, some (.long (Int64.ofInt (pw_gm h97 125 25))), none, some (pw_i k42_16)]) rfl rfl rfl rfl ?_
                        refine pw_ld E (pc' := 163) (st' := [.long k42_6]) rfl (fun _ => rfl) ?_
                        refine pw_ld E (pc' := 164) (st' := [.ref 141, .long k42_6]) rfl (fun _ => rfl) ?_
                        refine pw_getL h97I E (c := 125) (k := 24) (pc' := 167) rfl rfl rfl rfl rfl rfl ?_
                        refine pw_ld E (pc' := 168) (st' := [.long (Int64.ofInt 0), .long (pw_gl h97 125 24), .long k42_6]) rfl (fun _ => rfl) ?_
                        refine pw_lcmp E (pc' := 169) rfl rfl (fun c189 hc189 => ?_)
                        refine pw_if E (pc' := 176) rfl (by decide) (by omega) (by omega) ?_ ?_
                        · intro hc190
                          have hc190 : c189 ≤ (0 : Int) := hc190
                          refine pw_ld E (pc' := 177) (st' := [.long (Int64.ofInt 0), .long k42_6]) rfl (fun _ => rfl) ?_
                          refine pw_ld E (pc' := 178) (st' := [.long (k42_6 + (Int64.ofInt 0))]) rfl (fun _ => rfl) ?_
                          refine pw_lst E (pc' := 180) (ls' := [some (.ref 141), some (pw_i wt), some (.long (k42_2 + (Int64.ofInt 1))), none, some (.long (k42_4 + (Int64.ofInt 0))), none, some (.long (k42_6 + (Int64.ofInt 0))), none, some (.long (pw_gl h97 125 24)), none, some (.long (Int64.ofInt (pw_gm h97 125 25))), none, some (.long (pw_gl h97 125 24)), none, some (.long (Int64.ofInt (pw_gm h97 125 25))), none, some (pw_i k42_16)]) rfl rfl rfl rfl ?_
                          refine pw_inc E (pc' := 183) (ls' := [some (.ref 141), some (pw_i wt), some (.long (k42_2 + (Int64.ofInt 1))), none, some (.long (k42_4 + (Int64.ofInt 0))), none, some (.long (k42_6 + (Int64.ofInt 0))), none, some (.long (pw_gl h97 125 24)), none, some (.long (Int64.ofInt (pw_gm h97 125 25))), none, some (.long (pw_gl h97 125 24)), none, some (.long (Int64.ofInt (pw_gm h97 125 25))), none, some (pw_i (k42_16 + 1))]) rfl rfl rfl rfl ?_
                          refine pw_goto E (pc' := 42) rfl (by decide) ?_
                          exact ih42 _ (by omega) (k42_2 + (Int64.ofInt 1)) (k42_4 + (Int64.ofInt 0)) (k42_6 + (Int64.ofInt 0)) (pw_gl h97 125 24) (pw_gm h97 125 25) (pw_gl h97 125 24) (pw_gm h97 125 25) (k42_16 + 1) h97 h97I h97F (by omega) (by omega) (by omega) (by omega) (by omega) (by omega)  rfl
                        · intro hc191
                          have hc191 : ¬ (c189 ≤ (0 : Int)) := hc191
                          refine pw_ld E (pc' := 173) (st' := [.long (Int64.ofInt 1), .long k42_6]) rfl (fun _ => rfl) ?_
                          refine pw_goto E (pc' := 177) rfl (by decide) ?_
                          refine pw_ld E (pc' := 178) (st' := [.long (k42_6 + (Int64.ofInt 1))]) rfl (fun _ => rfl) ?_
                          refine pw_lst E (pc' := 180) (ls' := [some (.ref 141), some (pw_i wt), some (.long (k42_2 + (Int64.ofInt 1))), none, some (.long (k42_4 + (Int64.ofInt 0))), none, some (.long (k42_6 + (Int64.ofInt 1))), none, some (.long (pw_gl h97 125 24)), none, some (.long (Int64.ofInt (pw_gm h97 125 25))), none, some (.long (pw_gl h97 125 24)), none, some (.long (Int64.ofInt (pw_gm h97 125 25))), none, some (pw_i k42_16)]) rfl rfl rfl rfl ?_
                          refine pw_inc E (pc' := 183) (ls' := [some (.ref 141), some (pw_i wt), some (.long (k42_2 + (Int64.ofInt 1))), none, some (.long (k42_4 + (Int64.ofInt 0))), none, some (.long (k42_6 + (Int64.ofInt 1))), none, some (.long (pw_gl h97 125 24)), none, some (.long (Int64.ofInt (pw_gm h97 125 25))), none, some (.long (pw_gl h97 125 24)), none, some (.long (Int64.ofInt (pw_gm h97 125 25))), none, some (pw_i (k42_16 + 1))]) rfl rfl rfl rfl ?_
                          refine pw_goto E (pc' := 42) rfl (by decide) ?_
                          exact ih42 _ (by omega) (k42_2 + (Int64.ofInt 1)) (k42_4 + (Int64.ofInt 0)) (k42_6 + (Int64.ofInt 1)) (pw_gl h97 125 24) (pw_gm h97 125 25) (pw_gl h97 125 24) (pw_gm h97 125 25) (k42_16 + 1) h97 h97I h97F (by omega) (by omega) (by omega) (by omega) (by omega) (by omega)  rfl
                      · intro hc192
                        have hc192 : ¬ ((0 : Int) ≤ c187) := hc192
                        refine pw_ld E (pc' := 154) (st' := [.long (Int64.ofInt 1), .long k42_4]) rfl (fun _ => rfl) ?_
                        refine pw_goto E (pc' := 158) rfl (by decide) ?_
                        refine pw_ld E (pc' := 159) (st' := [.long (k42_4 + (Int64.ofInt 1))]) rfl (fun _ => rfl) ?_
                        refine pw_lst E (pc' := 161) (ls' := [some (.ref 141), some (pw_i wt), some (.long (k42_2 + (Int64.ofInt 1))), none, some (.long (k42_4 + (Int64.ofInt 1))), none, some (.long k42_6), none, some (.long (pw_gl h97 125 24)), none, some (.long (Int64.ofInt (pw_gm h97 125 25))), none, some (.long (pw_gl h97 125 24)), none, some (.long (Int64.ofInt (pw_gm h97 125 25))), none, some (pw_i k42_16)]) rfl rfl rfl rfl ?_
                        refine pw_ld E (pc' := 163) (st' := [.long k42_6]) rfl (fun _ => rfl) ?_
                        refine pw_ld E (pc' := 164) (st' := [.ref 141, .long k42_6]) rfl (fun _ => rfl) ?_
                        refine pw_getL h97I E (c := 125) (k := 24) (pc' := 167) rfl rfl rfl rfl rfl rfl ?_
                        refine pw_ld E (pc' := 168) (st' := [.long (Int64.ofInt 0), .long (pw_gl h97 125 24), .long k42_6]) rfl (fun _ => rfl) ?_
                        refine pw_lcmp E (pc' := 169) rfl rfl (fun c193 hc193 => ?_)
                        refine pw_if E (pc' := 176) rfl (by decide) (by omega) (by omega) ?_ ?_
                        · intro hc194
                          have hc194 : c193 ≤ (0 : Int) := hc194
                          refine pw_ld E (pc' := 177) (st' := [.long (Int64.ofInt 0), .long k42_6]) rfl (fun _ => rfl) ?_
                          refine pw_ld E (pc' := 178) (st' := [.long (k42_6 + (Int64.ofInt 0))]) rfl (fun _ => rfl) ?_
                          refine pw_lst E (pc' := 180) (ls' := [some (.ref 141), some (pw_i wt), some (.long (k42_2 + (Int64.ofInt 1))), none, some (.long (k42_4 + (Int64.ofInt 1))), none, some (.long (k42_6 + (Int64.ofInt 0))), none, some (.long (pw_gl h97 125 24)), none, some (.long (Int64.ofInt (pw_gm h97 125 25))), none, some (.long (pw_gl h97 125 24)), none, some (.long (Int64.ofInt (pw_gm h97 125 25))), none, some (pw_i k42_16)]) rfl rfl rfl rfl ?_
                          refine pw_inc E (pc' := 183) (ls' := [some (.ref 141), some (pw_i wt), some (.long (k42_2 + (Int64.ofInt 1))), none, some (.long (k42_4 + (Int64.ofInt 1))), none, some (.long (k42_6 + (Int64.ofInt 0))), none, some (.long (pw_gl h97 125 24)), none, some (.long (Int64.ofInt (pw_gm h97 125 25))), none, some (.long (pw_gl h97 125 24)), none, some (.long (Int64.ofInt (pw_gm h97 125 25))), none, some (pw_i (k42_16 + 1))]) rfl rfl rfl rfl ?_
                          refine pw_goto E (pc' := 42) rfl (by decide) ?_
                          exact ih42 _ (by omega) (k42_2 + (Int64.ofInt 1)) (k42_4 + (Int64.ofInt 1)) (k42_6 + (Int64.ofInt 0)) (pw_gl h97 125 24) (pw_gm h97 125 25) (pw_gl h97 125 24) (pw_gm h97 125 25) (k42_16 + 1) h97 h97I h97F (by omega) (by omega) (by omega) (by omega) (by omega) (by omega)  rfl
                        · intro hc195
                          have hc195 : ¬ (c193 ≤ (0 : Int)) := hc195
                          refine pw_ld E (pc' := 173) (st' := [.long (Int64.ofInt 1), .long k42_6]) rfl (fun _ => rfl) ?_
                          refine pw_goto E (pc' := 177) rfl (by decide) ?_
                          refine pw_ld E (pc' := 178) (st' := [.long (k42_6 + (Int64.ofInt 1))]) rfl (fun _ => rfl) ?_
                          refine pw_lst E (pc' := 180) (ls' := [some (.ref 141), some (pw_i wt), some (.long (k42_2 + (Int64.ofInt 1))), none, some (.long (k42_4 + (Int64.ofInt 1))), none, some (.long (k42_6 + (Int64.ofInt 1))), none, some (.long (pw_gl h97 125 24)), none, some (.long (Int64.ofInt (pw_gm h97 125 25))), none, some (.long (pw_gl h97 125 24)), none, some (.long (Int64.ofInt (pw_gm h97 125 25))), none, some (pw_i k42_16)]) rfl rfl rfl rfl ?_
                          refine pw_inc E (pc' := 183) (ls' := [some (.ref 141), some (pw_i wt), some (.long (k42_2 + (Int64.ofInt 1))), none, some (.long (k42_4 + (Int64.ofInt 1))), none, some (.long (k42_6 + (Int64.ofInt 1))), none, some (.long (pw_gl h97 125 24)), none, some (.long (Int64.ofInt (pw_gm h97 125 25))), none, some (.long (pw_gl h97 125 24)), none, some (.long (Int64.ofInt (pw_gm h97 125 25))), none, some (pw_i (k42_16 + 1))]) rfl rfl rfl rfl ?_
                          refine pw_goto E (pc' := 42) rfl (by decide) ?_
                          exact ih42 _ (by omega) (k42_2 + (Int64.ofInt 1)) (k42_4 + (Int64.ofInt 1)) (k42_6 + (Int64.ofInt 1)) (pw_gl h97 125 24) (pw_gm h97 125 25) (pw_gl h97 125 24) (pw_gm h97 125 25) (k42_16 + 1) h97 h97I h97F (by omega) (by omega) (by omega) (by omega) (by omega) (by omega)  rfl
                    · intro hc196
                      have hc196 : ¬ (c184 = (0 : Int)) := hc196
                      refine pw_ld E (pc' := 109) (st' := [.ref 141]) rfl (fun _ => rfl) ?_
                      refine pw_getL h97I E (c := 125) (k := 24) (pc' := 112) rfl rfl rfl rfl rfl rfl ?_
                      refine pw_ld E (pc' := 114) (st' := [.long (Int64.ofInt k42_14), .long (pw_gl h97 125 24)]) rfl (fun _ => rfl) ?_
                      refine pw_ld E (pc' := 115) (st' := [.long ((pw_gl h97 125 24) * (Int64.ofInt k42_14))]) rfl (fun _ => rfl) ?_
                      refine pw_ld E (pc' := 117) (st' := [.long k42_12, .long ((pw_gl h97 125 24) * (Int64.ofInt k42_14))]) rfl (fun _ => rfl) ?_
                      refine pw_ld E (pc' := 118) (st' := [.ref 141, .long k42_12, .long ((pw_gl h97 125 24) * (Int64.ofInt k42_14))]) rfl (fun _ => rfl) ?_
                      refine pw_getM h97I E (c := 125) (k := 25) (pc' := 121) rfl rfl rfl rfl rfl rfl (fun hf197a hf197b => ?_)
                      refine pw_ld E (pc' := 122) (st' := [.long (k42_12 * (Int64.ofInt (pw_gm h97 125 25))), .long ((pw_gl h97 125 24) * (Int64.ofInt k42_14))]) rfl (fun _ => rfl) ?_
                      refine pw_lcmp E (pc' := 123) rfl rfl (fun c198 hc198 => ?_)
                      refine pw_if E (pc' := 138) rfl (by decide) (by omega) (by omega) ?_ ?_
                      · intro hc199
                        have hc199 : c198 ≤ (0 : Int) := hc199
                        refine pw_ld E (pc' := 139) (st' := [.long k42_2]) rfl (fun _ => rfl) ?_
                        refine pw_ld E (pc' := 140) (st' := [.long (Int64.ofInt 1), .long k42_2]) rfl (fun _ => rfl) ?_
                        refine pw_ld E (pc' := 141) (st' := [.long (k42_2 + (Int64.ofInt 1))]) rfl (fun _ => rfl) ?_
                        refine pw_lstn E (pc' := 142) (ls' := [some (.ref 141), some (pw_i wt), some (.long (k42_2 + (Int64.ofInt 1))), none, some (.long k42_4), none, some (.long k42_6), none, some (.long (pw_gl h97 125 24)), none, some (.long (Int64.ofInt (pw_gm h97 125 25))), none, some (.long k42_12), none, some (.long (Int64.ofInt k42_14)), none, some (pw_i k42_16)]) rfl rfl rfl rfl ?_
                        refine pw_ld E (pc' := 144) (st' := [.long k42_4]) rfl (fun _ => rfl) ?_
                        refine pw_ld E (pc' := 145) (st' := [.ref 141, .long k42_4]) rfl (fun _ => rfl) ?_
                        refine pw_getL h97I E (c := 125) (k := 24) (pc' := 148) rfl rfl rfl rfl rfl rfl ?_
                        refine pw_ld E (pc' := 149) (st' := [.long (Int64.ofInt 0), .long (pw_gl h97 125 24), .long k42_4]) rfl (fun _ => rfl) ?_
                        refine pw_lcmp E (pc' := 150) rfl rfl (fun c200 hc200 => ?_)
                        refine pw_if E (pc' := 157) rfl (by decide) (by omega) (by omega) ?_ ?_
                        · intro hc201
                          have hc201 : (0 : Int) ≤ c200 := hc201
                          refine pw_ld E (pc' := 158) (st' := [.long (Int64.ofInt 0), .long k42_4]) rfl (fun _ => rfl) ?_
                          refine pw_ld E (pc' := 159) (st' := [.long (k42_4 + (Int64.ofInt 0))]) rfl (fun _ => rfl) ?_
                          refine pw_lst E (pc' := 161) (ls' := [some (.ref 141), some (pw_i wt), some (.long (k42_2 + (Int64.ofInt 1))), none, some (.long (k42_4 + (Int64.ofInt 0))), none, some (.long k42_6), none, some (.long (pw_gl h97 125 24)), none, some (.long (Int64.ofInt (pw_gm h97 125 25))), none, some (.long k42_12), none, some (.long (Int64.ofInt k42_14)), none, some (pw_i k42_16)]) rfl rfl rfl rfl ?_
                          refine pw_ld E (pc' := 163) (st' := [.long k42_6]) rfl (fun _ => rfl) ?_
                          refine pw_ld E (pc' := 164) (st' := [.ref 141, .long k42_6]) rfl (fun _ => rfl) ?_
                          refine pw_getL h97I E (c := 125) (k := 24) (pc' := 167) rfl rfl rfl rfl rfl rfl ?_
                          refine pw_ld E (pc' := 168) (st' := [.long (Int64.ofInt 0), .long (pw_gl h97 125 24), .long k42_6]) rfl (fun _ => rfl) ?_
                          refine pw_lcmp E (pc' := 169) rfl rfl (fun c202 hc202 => ?_)
                          refine pw_if E (pc' := 176) rfl (by decide) (by omega) (by omega) ?_ ?_
                          · intro hc203
                            have hc203 : c202 ≤ (0 : Int) := hc203
                            refine pw_ld E (pc' := 177) (st' := [.long (Int64.ofInt 0), .long k42_6]) rfl (fun _ => rfl) ?_
                            refine pw_ld E (pc' := 178) (st' := [.long (k42_6 + (Int64.ofInt 0))]) rfl (fun _ => rfl) ?_
                            refine pw_lst E (pc' := 180) (ls' := [some (.ref 141), some (pw_i wt), some (.long (k42_2 + (Int64.ofInt 1))), none, some (.long (k42_4 + (Int64.ofInt 0))), none, some (.long (k42_6 + (Int64.ofInt 0))), none, some (.long (pw_gl h97 125 24)), none, some (.long (Int64.ofInt (pw_gm h97 125 25))), none, some (.long k42_12), none, some (.long (Int64.ofInt k42_14)), none, some (pw_i k42_16)]) rfl rfl rfl rfl ?_
                            refine pw_inc E (pc' := 183) (ls' := [some (.ref 141), some (pw_i wt), some (.long (k42_2 + (Int64.ofInt 1))), none, some (.long (k42_4 + (Int64.ofInt 0))), none, some (.long (k42_6 + (Int64.ofInt 0))), none, some (.long (pw_gl h97 125 24)), none, some (.long (Int64.ofInt (pw_gm h97 125 25))), none, some (.long k42_12), none, some (.long (Int64.ofInt k42_14)), none, some (pw_i (k42_16 + 1))]) rfl rfl rfl rfl ?_
                            refine pw_goto E (pc' := 42) rfl (by decide) ?_
                            exact ih42 _ (by omega) (k42_2 + (Int64.ofInt 1)) (k42_4 + (Int64.ofInt 0)) (k42_6 + (Int64.ofInt 0)) (pw_gl h97 125 24) (pw_gm h97 125 25) (k42_12) (k42_14) (k42_16 + 1) h97 h97I h97F (by omega) (by omega) (by omega) (by omega) (by omega) (by omega)  rfl
                          · intro hc204
                            have hc204 : ¬ (c202 ≤ (0 : Int)) := hc204
                            refine pw_ld E (pc' := 173) (st' := [.long (Int64.ofInt 1), .long k42_6]) rfl (fun _ => rfl) ?_
                            refine pw_goto E (pc' := 177) rfl (by decide) ?_
                            refine pw_ld E (pc' := 178) (st' := [.long (k42_6 + (Int64.ofInt 1))]) rfl (fun _ => rfl) ?_
                            refine pw_lst E (pc' := 180) (ls' := [some (.ref 141), some (pw_i wt), some (.long (k42_2 + (Int64.ofInt 1))), none, some (.long (k42_4 + (Int64.ofInt 0))), none, some (.long (k42_6 + (Int64.ofInt 1))), none, some (.long (pw_gl h97 125 24)), none, some (.long (Int64.ofInt (pw_gm h97 125 25))), none, some (.long k42_12), none, some (.long (Int64.ofInt k42_14)), none, some (pw_i k42_16)]) rfl rfl rfl rfl ?_
                            refine pw_inc E (pc' := 183) (ls' := [some (.ref 141), some (pw_i wt), some (.long (k42_2 + (Int64.ofInt 1))), none, some (.long (k42_4 + (Int64.ofInt 0))), none, some (.long (k42_6 + (Int64.ofInt 1))), none, some (.long (pw_gl h97 125 24)), none, some (.long (Int64.ofInt (pw_gm h97 125 25))), none, some (.long k42_12), none, some (.long (Int64.ofInt k42_14)), none, some (pw_i (k42_16 + 1))]) rfl rfl rfl rfl ?_
                            refine pw_goto E (pc' := 42) rfl (by decide) ?_
                            exact ih42 _ (by omega) (k42_2 + (Int64.ofInt 1)) (k42_4 + (Int64.ofInt 0)) (k42_6 + (Int64.ofInt 1)) (pw_gl h97 125 24) (pw_gm h97 125 25) (k42_12) (k42_14) (k42_16 + 1) h97 h97I h97F (by omega) (by omega) (by omega) (by omega) (by omega) (by omega)  rfl
                        · intro hc205
                          have hc205 : ¬ ((0 : Int) ≤ c200) := hc205
                          refine pw_ld E (pc' := 154) (st' := [.long (Int64.ofInt 1), .long k42_4]) rfl (fun _ => rfl) ?_
                          refine pw_goto E (pc' := 158) rfl (by decide) ?_
                          refine pw_ld E (pc' := 159) (st' := [.long (k42_4 + (Int64.ofInt 1))]) rfl (fun _ => rfl) ?_
                          refine pw_lst E (pc' := 161) (ls' := [some (.ref 141), some (pw_i wt), some (.long (k42_2 + (Int64.ofInt 1))), none, some (.long (k42_4 + (Int64.ofInt 1))), none, some (.long k42_6), none, some (.long (pw_gl h97 125 24)), none, some (.long (Int64.ofInt (pw_gm h97 125 25))), none, some (.long k42_12), none, some (.long (Int64.ofInt k42_14)), none, some (pw_i k42_16)]) rfl rfl rfl rfl ?_
                          refine pw_ld E (pc' := 163) (st' := [.long k42_6]) rfl (fun _ => rfl) ?_
                          refine pw_ld E (pc' := 164) (st' := [.ref 141, .long k42_6]) rfl (fun _ => rfl) ?_
                          refine pw_getL h97I E (c := 125) (k := 24) (pc' := 167) rfl rfl rfl rfl rfl rfl ?_
                          refine pw_ld E (pc' := 168) (st' := [.long (Int64.ofInt 0), .long (pw_gl h97 125 24), .long k42_6]) rfl (fun _ => rfl) ?_
                          refine pw_lcmp E (pc' := 169) rfl rfl (fun c206 hc206 => ?_)
                          refine pw_if E (pc' := 176) rfl (by decide) (by omega) (by omega) ?_ ?_
                          · intro hc207
                            have hc207 : c206 ≤ (0 : Int) := hc207
                            refine pw_ld E (pc' := 177) (st' := [.long (Int64.ofInt 0), .long k42_6]) rfl (fun _ => rfl) ?_
                            refine pw_ld E (pc' := 178) (st' := [.long (k42_6 + (Int64.ofInt 0))]) rfl (fun _ => rfl) ?_
                            refine pw_lst E (pc' := 180) (ls' := [some (.ref 141), some (pw_i wt), some (.long (k42_2 + (Int64.ofInt 1))), none, some (.long (k42_4 + (Int64.ofInt 1))), none, some (.long (k42_6 + (Int64.ofInt 0))), none, some (.long (pw_gl h97 125 24)), none, some (.long (Int64.ofInt (pw_gm h97 125 25))), none, some (.long k42_12), none, some (.long (Int64.ofInt k42_14)), none, some (pw_i k42_16)]) rfl rfl rfl rfl ?_
                            refine pw_inc E (pc' := 183) (ls' := [some (.ref 141), some (pw_i wt), some (.long (k42_2 + (Int64.ofInt 1))), none, some (.long (k42_4 + (Int64.ofInt 1))), none, some (.long (k42_6 + (Int64.ofInt 0))), none, some (.long (pw_gl h97 125 24)), none, some (.long (Int64.ofInt (pw_gm h97 125 25))), none, some (.long k42_12), none, some (.long (Int64.ofInt k42_14)), none, some (pw_i (k42_16 + 1))]) rfl rfl rfl rfl ?_
                            refine pw_goto E (pc' := 42) rfl (by decide) ?_
                            exact ih42 _ (by omega) (k42_2 + (Int64.ofInt 1)) (k42_4 + (Int64.ofInt 1)) (k42_6 + (Int64.ofInt 0)) (pw_gl h97 125 24) (pw_gm h97 125 25) (k42_12) (k42_14) (k42_16 + 1) h97 h97I h97F (by omega) (by omega) (by omega) (by omega) (by omega) (by omega)  rfl
                          · intro hc208
                            have hc208 : ¬ (c206 ≤ (0 : Int)) := hc208
                            refine pw_ld E (pc' := 173) (st' := [.long (Int64.ofInt 1), .long k42_6]) rfl (fun _ => rfl) ?_
                            refine pw_goto E (pc' := 177) rfl (by decide) ?_
                            refine pw_ld E (pc' := 178) (st' := [.long (k42_6 + (Int64.ofInt 1))]) rfl (fun _ => rfl) ?_
                            refine pw_lst E (pc' := 180) (ls' := [some (.ref 141), some (pw_i wt), some (.long (k42_2 + (Int64.ofInt 1))), none, some (.long (k42_4 + (Int64.ofInt 1))), none, some (.long (k42_6 + (Int64.ofInt 1))), none, some (.long (pw_gl h97 125 24)), none, some (.long (Int64.ofInt (pw_gm h97 125 25))), none, some (.long k42_12), none, some (.long (Int64.ofInt k42_14)), none, some (pw_i k42_16)]) rfl rfl rfl rfl ?_
                            refine pw_inc E (pc' := 183) (ls' := [some (.ref 141), some (pw_i wt), some (.long (k42_2 + (Int64.ofInt 1))), none, some (.long (k42_4 + (Int64.ofInt 1))), none, some (.long (k42_6 + (Int64.ofInt 1))), none, some (.long (pw_gl h97 125 24)), none, some (.long (Int64.ofInt (pw_gm h97 125 25))), none, some (.long k42_12), none, some (.long (Int64.ofInt k42_14)), none, some (pw_i (k42_16 + 1))]) rfl rfl rfl rfl ?_
                            refine pw_goto E (pc' := 42) rfl (by decide) ?_
                            exact ih42 _ (by omega) (k42_2 + (Int64.ofInt 1)) (k42_4 + (Int64.ofInt 1)) (k42_6 + (Int64.ofInt 1)) (pw_gl h97 125 24) (pw_gm h97 125 25) (k42_12) (k42_14) (k42_16 + 1) h97 h97I h97F (by omega) (by omega) (by omega) (by omega) (by omega) (by omega)  rfl
                      · intro hc209
                        have hc209 : ¬ (c198 ≤ (0 : Int)) := hc209
                        refine pw_ld E (pc' := 127) (st' := [.ref 141]) rfl (fun _ => rfl) ?_
                        refine pw_getL h97I E (c := 125) (k := 24) (pc' := 130) rfl rfl rfl rfl rfl rfl ?_
                        refine pw_lst E (pc' := 132) (ls' := [some (.ref 141), some (pw_i wt), some (.long k42_2), none, some (.long k42_4), none, some (.long k42_6), none, some (.long (pw_gl h97 125 24)), none, some (.long (Int64.ofInt (pw_gm h97 125 25))), none, some (.long (pw_gl h97 125 24)), none, some (.long (Int64.ofInt k42_14)), none, some (pw_i k42_16)]) rfl rfl rfl rfl ?_
                        refine pw_ld E (pc' := 133) (st' := [.ref 141]) rfl (fun _ => rfl) ?_
                        refine pw_getM h97I E (c := 125) (k := 25) (pc' := 136) rfl rfl rfl rfl rfl rfl (fun hf210a hf210b => ?_)
                        refine pw_lst E (pc' := 138) (ls' := [some (.ref 141), some (pw_i wt), some (.long k42_2), none, some (.long k42_4), none, some (.long k42_6), none, some (.long (pw_gl h97 125 24)), none, some (.long (Int64.ofInt (pw_gm h97 125 25))), none, some (.long (pw_gl h97 125 24)), none, some (.long (Int64.ofInt (pw_gm h97 125 25))), none, some (pw_i k42_16)]) rfl rfl rfl rfl ?_
                        refine pw_ld E (pc' := 139) (st' := [.long k42_2]) rfl (fun _ => rfl) ?_
                        refine pw_ld E (pc' := 140) (st' := [.long (Int64.ofInt 1), .long k42_2]) rfl (fun _ => rfl) ?_
                        refine pw_ld E (pc' := 141) (st' := [.long (k42_2 + (Int64.ofInt 1))]) rfl (fun _ => rfl) ?_
                        refine pw_lstn E (pc' := 142) (ls' := [some (.ref 141), some (pw_i wt), some (.long (k42_2 + (Int64.ofInt 1))), none, some (.long k42_4), none, some (.long k42_6), none, some (.long (pw_gl h97 125 24)), none, some (.long (Int64.ofInt (pw_gm h97 125 25))), none, some (.long (pw_gl h97 125 24)), none, some (.long (Int64.ofInt (pw_gm h97 125 25))), none, some (pw_i k42_16)]) rfl rfl rfl rfl ?_
                        refine pw_ld E (pc' := 144) (st' := [.long k42_4]) rfl (fun _ => rfl) ?_
                        refine pw_ld E (pc' := 145) (st' := [.ref 141, .long k42_4]) rfl (fun _ => rfl) ?_
                        refine pw_getL h97I E (c := 125) (k := 24) (pc' := 148) rfl rfl rfl rfl rfl rfl ?_
                        refine pw_ld E (pc' := 149) (st' := [.long (Int64.ofInt 0), .long (pw_gl h97 125 24), .long k42_4]) rfl (fun _ => rfl) ?_
                        refine pw_lcmp E (pc' := 150) rfl rfl (fun c211 hc211 => ?_)
                        refine pw_if E (pc' := 157) rfl (by decide) (by omega) (by omega) ?_ ?_
                        · intro hc212
                          have hc212 : (0 : Int) ≤ c211 := hc212
                          refine pw_ld E (pc' := 158) (st' := [.long (Int64.ofInt 0), .long k42_4]) rfl (fun _ => rfl) ?_
                          refine pw_ld E (pc' := 159) (st' := [.long (k42_4 + (Int64.ofInt 0))]) rfl (fun _ => rfl) ?_
                          refine pw_lst E (pc' := 161) (ls' := [some (.ref 141), some (pw_i wt), some (.long (k42_2 + (Int64.ofInt 1))), none, some (.long (k42_4 + (Int64.ofInt 0))), none, some (.long k42_6), none, some (.long (pw_gl h97 125 24)), none, some (.long (Int64.ofInt (pw_gm h97 125 25))), none, some (.long (pw_gl h97 125 24)), none, some (.long (Int64.ofInt (pw_gm h97 125 25))), none, some (pw_i k42_16)]) rfl rfl rfl rfl ?_
                          refine pw_ld E (pc' := 163) (st' := [.long k42_6]) rfl (fun _ => rfl) ?_
                          refine pw_ld E (pc' := 164) (st' := [.ref 141, .long k42_6]) rfl (fun _ => rfl) ?_
                          refine pw_getL h97I E (c := 125) (k := 24) (pc' := 167) rfl rfl rfl rfl rfl rfl ?_
                          refine pw_ld E (pc' := 168) (st' := [.long (Int64.ofInt 0), .long (pw_gl h97 125 24), .long k42_6]) rfl (fun _ => rfl) ?_
                          refine pw_lcmp E (pc' := 169) rfl rfl (fun c213 hc213 => ?_)
                          refine pw_if E (pc' := 176) rfl (by decide) (by omega) (by omega) ?_ ?_
                          · intro hc214
                            have hc214 : c213 ≤ (0 : Int) := hc214
                            refine pw_ld E (pc' := 177) (st' := [.long (Int64.ofInt 0), .long k42_6]) rfl (fun _ => rfl) ?_
                            refine pw_ld E (pc' := 178) (st' := [.long (k42_6 + (Int64.ofInt 0))]) rfl (fun _ => rfl) ?_
                            refine pw_lst E (pc' := 180) (ls' := [some (.ref 141), some (pw_i wt), some (.long (k42_2 + (Int64.ofInt 1))), none, some (.long (k42_4 + (Int64.ofInt 0))), none, some (.long (k42_6 + (Int64.ofInt 0))), none, some (.long (pw_gl h97 125 24)), none, some (.long (Int64.ofInt (pw_gm h97 125 25))), none, some (.long (pw_gl h97 125 24)), none, some (.long (Int64.ofInt (pw_gm h97 125 25))), none, some (pw_i k42_16)]) rfl rfl rfl rfl ?_
                            refine pw_inc E (pc' := 183) (ls' := [some (.ref 141), some (pw_i wt), some (.long (k42_2 + (Int64.ofInt 1))), none, some (.long (k42_4 + (Int64.ofInt 0))), none, some (.long (k42_6 + (Int64.ofInt 0))), none, some (.long (pw_gl h97 125 24)), none, some (.long (Int64.ofInt (pw_gm h97 125 25))), none, some (.long (pw_gl h97 125 24)), none, some (.long (Int64.ofInt (pw_gm h97 125 25))), none, some (pw_i (k42_16 + 1))]) rfl rfl rfl rfl ?_
                            refine pw_goto E (pc' := 42) rfl (by decide) ?_
                            exact ih42 _ (by omega) (k42_2 + (Int64.ofInt 1)) (k42_4 + (Int64.ofInt 0)) (k42_6 + (Int64.ofInt 0)) (pw_gl h97 125 24) (pw_gm h97 125 25) (pw_gl h97 125 24) (pw_gm h97 125 25) (k42_16 + 1) h97 h97I h97F (by omega) (by omega) (by omega) (by omega) (by omega) (by omega)  rfl
                          · intro hc215
                            have hc215 : ¬ (c213 ≤ (0 : Int)) := hc215
                            refine pw_ld E (pc' := 173) (st' := [.long (Int64.ofInt 1), .long k42_6]) rfl (fun _ => rfl) ?_
                            refine pw_goto E (pc' := 177) rfl (by decide) ?_
                            refine pw_ld E (pc' := 178) (st' := [.long (k42_6 + (Int64.ofInt 1))]) rfl (fun _ => rfl) ?_
                            refine pw_lst E (pc' := 180) (ls' := [some (.ref 141), some (pw_i wt), some (.long (k42_2 + (Int64.ofInt 1))), none, some (.long (k42_4 + (Int64.ofInt 0))), none, some (.long (k42_6 + (Int64.ofInt 1))), none, some (.long (pw_gl h97 125 24)), none, some (.long (Int64.ofInt (pw_gm h97 125 25))), none, some (.long (pw_gl h97 125 24)), none, some (.long (Int64.ofInt (pw_gm h97 125 25))), none, some (pw_i k42_16)]) rfl rfl rfl rfl ?_
                            refine pw_inc E (pc' := 183) (ls' := [some (.ref 141), some (pw_i wt), some (.long (k42_2 + (Int64.ofInt 1))), none, some (.long (k42_4 + (Int64.ofInt 0))), none, some (.long (k42_6 + (Int64.ofInt 1))), none, some (.long (pw_gl h97 125 24)), none, some (.long (Int64.ofInt (pw_gm h97 125 25))), none, some (.long (pw_gl h97 125 24)), none, some (.long (Int64.ofInt (pw_gm h97 125 25))), none, some (pw_i (k42_16 + 1))]) rfl rfl rfl rfl ?_
                            refine pw_goto E (pc' := 42) rfl (by decide) ?_
                            exact ih42 _ (by omega) (k42_2 + (Int64.ofInt 1)) (k42_4 + (Int64.ofInt 0)) (k42_6 + (Int64.ofInt 1)) (pw_gl h97 125 24) (pw_gm h97 125 25) (pw_gl h97 125 24) (pw_gm h97 125 25) (k42_16 + 1) h97 h97I h97F (by omega) (by omega) (by omega) (by omega) (by omega) (by omega)  rfl
                        · intro hc216
                          have hc216 : ¬ ((0 : Int) ≤ c211) := hc216
                          refine pw_ld E (pc' := 154) (st' := [.long (Int64.ofInt 1), .long k42_4]) rfl (fun _ => rfl) ?_
                          refine pw_goto E (pc' := 158) rfl (by decide) ?_
                          refine pw_ld E (pc' := 159) (st' := [.long (k42_4 + (Int64.ofInt 1))]) rfl (fun _ => rfl) ?_
                          refine pw_lst E (pc' := 161) (ls' := [some (.ref 141), some (pw_i wt), some (.long (k42_2 + (Int64.ofInt 1))), none, some (.long (k42_4 + (Int64.ofInt 1))), none, some (.long k42_6), none, some (.long (pw_gl h97 125 24)), none, some (.long (Int64.ofInt (pw_gm h97 125 25))), none, some (.long (pw_gl h97 125 24)), none, some (.long (Int64.ofInt (pw_gm h97 125 25))), none, some (pw_i k42_16)]) rfl rfl rfl rfl ?_
                          refine pw_ld E (pc' := 163) (st' := [.long k42_6]) rfl (fun _ => rfl) ?_
                          refine pw_ld E (pc' := 164) (st' := [.ref 141, .long k42_6]) rfl (fun _ => rfl) ?_
                          refine pw_getL h97I E (c := 125) (k := 24) (pc' := 167) rfl rfl rfl rfl rfl rfl ?_
                          refine pw_ld E (pc' := 168) (st' := [.long (Int64.ofInt 0), .long (pw_gl h97 125 24), .long k42_6]) rfl (fun _ => rfl) ?_
                          refine pw_lcmp E (pc' := 169) rfl rfl (fun c217 hc217 => ?_)
                          refine pw_if E (pc' := 176) rfl (by decide) (by omega) (by omega) ?_ ?_
                          · intro hc218
                            have hc218 : c217 ≤ (0 : Int) := hc218
                            refine pw_ld E (pc' := 177) (st' := [.long (Int64.ofInt 0), .long k42_6]) rfl (fun _ => rfl) ?_
                            refine pw_ld E (pc' := 178) (st' := [.long (k42_6 + (Int64.ofInt 0))]) rfl (fun _ => rfl) ?_
                            refine pw_lst E (pc' := 180) (ls' := [some (.ref 141), some (pw_i wt), some (.long (k42_2 + (Int64.ofInt 1))), none, some (.long (k42_4 + (Int64.ofInt 1))), none, some (.long (k42_6 + (Int64.ofInt 0))), none, some (.long (pw_gl h97 125 24)), none, some (.long (Int64.ofInt (pw_gm h97 125 25))), none, some (.long (pw_gl h97 125 24)), none, some (.long (Int64.ofInt (pw_gm h97 125 25))), none, some (pw_i k42_16)]) rfl rfl rfl rfl ?_
                            refine pw_inc E (pc' := 183) (ls' := [some (.ref 141), some (pw_i wt), some (.long (k42_2 + (Int64.ofInt 1))), none, some (.long (k42_4 + (Int64.ofInt 1))), none, some (.long (k42_6 + (Int64.ofInt 0))), none, some (.long (pw_gl h97 125 24)), none, some (.long (Int64.ofInt (pw_gm h97 125 25))), none, some (.long (pw_gl h97 125 24)), none, some (.long (Int64.ofInt (pw_gm h97 125 25))), none, some (pw_i (k42_16 + 1))]) rfl rfl rfl rfl ?_
                            refine pw_goto E (pc' := 42) rfl (by decide) ?_
                            exact ih42 _ (by omega) (k42_2 + (Int64.ofInt 1)) (k42_4 + (Int64.ofInt 1)) (k42_6 + (Int64.ofInt 0)) (pw_gl h97 125 24) (pw_gm h97 125 25) (pw_gl h97 125 24) (pw_gm h97 125 25) (k42_16 + 1) h97 h97I h97F (by omega) (by omega) (by omega) (by omega) (by omega) (by omega)  rfl
                          · intro hc219
                            have hc219 : ¬ (c217 ≤ (0 : Int)) := hc219
                            refine pw_ld E (pc' := 173) (st' := [.long (Int64.ofInt 1), .long k42_6]) rfl (fun _ => rfl) ?_
                            refine pw_goto E (pc' := 177) rfl (by decide) ?_
                            refine pw_ld E (pc' := 178) (st' := [.long (k42_6 + (Int64.ofInt 1))]) rfl (fun _ => rfl) ?_
                            refine pw_lst E (pc' := 180) (ls' := [some (.ref 141), some (pw_i wt), some (.long (k42_2 + (Int64.ofInt 1))), none, some (.long (k42_4 + (Int64.ofInt 1))), none, some (.long (k42_6 + (Int64.ofInt 1))), none, some (.long (pw_gl h97 125 24)), none, some (.long (Int64.ofInt (pw_gm h97 125 25))), none, some (.long (pw_gl h97 125 24)), none, some (.long (Int64.ofInt (pw_gm h97 125 25))), none, some (pw_i k42_16)]) rfl rfl rfl rfl ?_
                            refine pw_inc E (pc' := 183) (ls' := [some (.ref 141), some (pw_i wt), some (.long (k42_2 + (Int64.ofInt 1))), none, some (.long (k42_4 + (Int64.ofInt 1))), none, some (.long (k42_6 + (Int64.ofInt 1))), none, some (.long (pw_gl h97 125 24)), none, some (.long (Int64.ofInt (pw_gm h97 125 25))), none, some (.long (pw_gl h97 125 24)), none, some (.long (Int64.ofInt (pw_gm h97 125 25))), none, some (pw_i (k42_16 + 1))]) rfl rfl rfl rfl ?_
                            refine pw_goto E (pc' := 42) rfl (by decide) ?_
                            exact ih42 _ (by omega) (k42_2 + (Int64.ofInt 1)) (k42_4 + (Int64.ofInt 1)) (k42_6 + (Int64.ofInt 1)) (pw_gl h97 125 24) (pw_gm h97 125 25) (pw_gl h97 125 24) (pw_gm h97 125 25) (k42_16 + 1) h97 h97I h97F (by omega) (by omega) (by omega) (by omega) (by omega) (by omega)  rfl
            · have hb220 : x99 = 0 := by omega
              refine pw_if E (pc' := 180) rfl (by decide) (by omega) (by omega) ?_ ?_
              · intro hc221
                have hc221 : x99 = (0 : Int) := hc221
                refine pw_inc E (pc' := 183) (ls' := [some (.ref 141), some (pw_i wt), some (.long k42_2), none, some (.long k42_4), none, some (.long k42_6), none, some (.long k42_8), none, some (.long (Int64.ofInt k42_10)), none, some (.long k42_12), none, some (.long (Int64.ofInt k42_14)), none, some (pw_i (k42_16 + 1))]) rfl rfl rfl rfl ?_
                refine pw_goto E (pc' := 42) rfl (by decide) ?_
                exact ih42 _ (by omega) (k42_2) (k42_4) (k42_6) (k42_8) (k42_10) (k42_12) (k42_14) (k42_16 + 1) h97 h97I h97F (by omega) (by omega) (by omega) (by omega) (by omega) (by omega)  rfl
              · intro hc222
                have hc222 : ¬ (x99 = (0 : Int)) := hc222
                exfalso; omega
      exact L42 _ (Int64.ofInt 0) (Int64.ofInt 0) (Int64.ofInt 0) (Int64.ofInt 0) (1) (Int64.ofInt 0) (1) (0) h7 h7I h7F (by omega) (by omega) (by omega) (by omega) (by omega) (by omega)  rfl
  · have hb223 : x3 = 0 := by omega
    refine pw_if E (pc' := 15) rfl (by decide) (by omega) (by omega) ?_ ?_
    · intro hc224
      have hc224 : x3 = (0 : Int) := hc224
      refine pw_ld E (pc' := 16) (st' := [pw_i 1, .ref 141]) rfl (fun _ => rfl) ?_
      refine pw_putI I E (c := 125) (k := 0) (pc' := 19) rfl rfl rfl rfl (by omega) (by omega) (by omega) (by omega) rfl rfl ?_
      intro h225I h225E
      generalize h225w : pw_w h 125 0 (pw_i 1) = h225 at h225I h225E ⊢
      have h225F := E0.tr (h225E.wk (W' := [125, 149, 150]) (by first | rfl | simp))
      refine pw_ld E (pc' := 20) (st' := [.long (Int64.ofInt 0)]) rfl (fun _ => rfl) ?_
      refine pw_lstn E (pc' := 21) (ls' := [some (.ref 141), some (pw_i wt), some (.long (Int64.ofInt 0)), none, none, none, none, none, none, none, none, none, none, none, none, none, none]) rfl rfl rfl rfl ?_
      refine pw_ld E (pc' := 22) (st' := [.long (Int64.ofInt 0)]) rfl (fun _ => rfl) ?_
      refine pw_lst E (pc' := 24) (ls' := [some (.ref 141), some (pw_i wt), some (.long (Int64.ofInt 0)), none, some (.long (Int64.ofInt 0)), none, none, none, none, none, none, none, none, none, none, none, none]) rfl rfl rfl rfl ?_
      refine pw_ld E (pc' := 25) (st' := [.long (Int64.ofInt 0)]) rfl (fun _ => rfl) ?_
      refine pw_lst E (pc' := 27) (ls' := [some (.ref 141), some (pw_i wt), some (.long (Int64.ofInt 0)), none, some (.long (Int64.ofInt 0)), none, some (.long (Int64.ofInt 0)), none, none, none, none, none, none, none, none, none, none]) rfl rfl rfl rfl ?_
      refine pw_ld E (pc' := 28) (st' := [.long (Int64.ofInt 0)]) rfl (fun _ => rfl) ?_
      refine pw_lst E (pc' := 30) (ls' := [some (.ref 141), some (pw_i wt), some (.long (Int64.ofInt 0)), none, some (.long (Int64.ofInt 0)), none, some (.long (Int64.ofInt 0)), none, some (.long (Int64.ofInt 0)), none, none, none, none, none, none, none, none]) rfl rfl rfl rfl ?_
      refine pw_ld E (pc' := 31) (st' := [.long (Int64.ofInt 1)]) rfl (fun _ => rfl) ?_
      refine pw_lst E (pc' := 33) (ls' := [some (.ref 141), some (pw_i wt), some (.long (Int64.ofInt 0)), none, some (.long (Int64.ofInt 0)), none, some (.long (Int64.ofInt 0)), none, some (.long (Int64.ofInt 0)), none, some (.long (Int64.ofInt 1)), none, none, none, none, none, none]) rfl rfl rfl rfl ?_
      refine pw_ld E (pc' := 34) (st' := [.long (Int64.ofInt 0)]) rfl (fun _ => rfl) ?_
      refine pw_lst E (pc' := 36) (ls' := [some (.ref 141), some (pw_i wt), some (.long (Int64.ofInt 0)), none, some (.long (Int64.ofInt 0)), none, some (.long (Int64.ofInt 0)), none, some (.long (Int64.ofInt 0)), none, some (.long (Int64.ofInt 1)), none, some (.long (Int64.ofInt 0)), none, none, none, none]) rfl rfl rfl rfl ?_
      refine pw_ld E (pc' := 37) (st' := [.long (Int64.ofInt 1)]) rfl (fun _ => rfl) ?_
      refine pw_lst E (pc' := 39) (ls' := [some (.ref 141), some (pw_i wt), some (.long (Int64.ofInt 0)), none, some (.long (Int64.ofInt 0)), none, some (.long (Int64.ofInt 0)), none, some (.long (Int64.ofInt 0)), none, some (.long (Int64.ofInt 1)), none, some (.long (Int64.ofInt 0)), none, some (.long (Int64.ofInt 1)), none, none]) rfl rfl rfl rfl ?_
      refine pw_ld E (pc' := 40) (st' := [pw_i 0]) rfl (fun _ => rfl) ?_
      refine pw_ist E (pc' := 42) (ls' := [some (.ref 141), some (pw_i wt), some (.long (Int64.ofInt 0)), none, some (.long (Int64.ofInt 0)), none, some (.long (Int64.ofInt 0)), none, some (.long (Int64.ofInt 0)), none, some (.long (Int64.ofInt 1)), none, some (.long (Int64.ofInt 0)), none, some (.long (Int64.ofInt 1)), none, some (pw_i 0)]) rfl rfl rfl rfl ?_
      have L42 : ∀ (n42 : Nat) (k42_2 : Int64) (k42_4 : Int64) (k42_6 : Int64) (k42_8 : Int64) (k42_10 : Int) (k42_12 : Int64) (k42_14 : Int) (k42_16 : Int) (gh42 : pm_H), pw_I gh42 → pw_E [125, 149, 150] h gh42 → 1 ≤ k42_10 → k42_10 ≤ 576 → 1 ≤ k42_14 → k42_14 ≤ 576 → 0 ≤ k42_16 → k42_16 ≤ 44 → (44 - k42_16).toNat = n42 → pw X d gh42 286 42 [some (.ref 141), some (pw_i wt), some (.long k42_2), none, some (.long k42_4), none, some (.long k42_6), none, some (.long k42_8), none, some (.long (Int64.ofInt k42_10)), none, some (.long k42_12), none, some (.long (Int64.ofInt k42_14)), none, some (pw_i k42_16)] [] (fun h' v => pw_I h' ∧ pw_E [125, 149, 150] h h' ∧ ∃ w : Int64, v = .inl (some (.long w))) := by
        intro n42
        induction n42 using Nat.strongRecOn with
        | ind n42 ih42 =>
          intro k42_2 k42_4 k42_6 k42_8 k42_10 k42_12 k42_14 k42_16 gh42 I42 E42 k42_10a k42_10b k42_14a k42_14b k42_16a k42_16b hm42
          refine pw_ld E (pc' := 44) (st' := [pw_i k42_16]) rfl (fun _ => rfl) ?_
          refine pw_bip E (pc' := 46) rfl rfl (by decide) ?_
          refine pw_if2 E (pc' := 186) rfl (by decide) (by omega) (by omega) (by decide) (by decide) ?_ ?_
          · intro hc226
            have hc226 : (44 : Int) ≤ k42_16 := hc226
            refine pw_ld E (pc' := 187) (st' := [.ref 141]) rfl (fun _ => rfl) ?_
            refine pw_ld E (pc' := 188) (st' := [.ref 141, .ref 141]) rfl (fun _ => rfl) ?_
            refine pw_getI I42 E (c := 125) (k := 0) (pc' := 191) rfl rfl rfl rfl rfl rfl (fun hf227a hf227b hf227c hf227d => ?_)
            refine pw_if E (pc' := 205) rfl (by decide) (by omega) (by omega) ?_ ?_
            · intro hc228
              have hc228 : (0 : Int) < pw_g gh42 125 0 := hc228
              refine pw_ld E (pc' := 206) (st' := [pw_i 1, .ref 141]) rfl (fun _ => rfl) ?_
              refine pw_goto E (pc' := 210) rfl (by decide) ?_
              refine pw_putI I42 E (c := 125) (k := 0) (pc' := 213) rfl rfl rfl rfl (by omega) (by omega) (by omega) (by omega) rfl rfl ?_
              intro h229I h229E
              generalize h229w : pw_w gh42 125 0 (pw_i 1) = h229 at h229I h229E ⊢
              have h229F := E42.tr (h229E.wk (W' := [125, 149, 150]) (by first | rfl | simp))
              refine pw_ld E (pc' := 214) (st' := [.ref 141]) rfl (fun _ => rfl) ?_
              have he231 : pw_g h229 125 0 = 1 := by rw [← h229w]; exact pw_g_eq (c := 125) (k := 0) I42 rfl rfl (by omega) (by omega)
              refine pw_getI h229I E (c := 125) (k := 0) (pc' := 217) rfl rfl rfl rfl rfl rfl (fun hf230a hf230b hf230c hf230d => ?_)
              refine pw_if E (pc' := 222) rfl (by decide) (by omega) (by omega) ?_ ?_
              · intro hc232
                have hc232 : pw_g h229 125 0 ≤ (0 : Int) := hc232
                exfalso; omega
              · intro hc233
                have hc233 : ¬ (pw_g h229 125 0 ≤ (0 : Int)) := hc233
                refine pw_ld E (pc' := 221) (st' := [.long (Int64.ofInt 0)]) rfl (fun _ => rfl) ?_
                refine pw_lret E rfl ?_
                exact ⟨h229I, h229F, ⟨_, rfl⟩⟩
            · intro hc234
              have hc234 : ¬ ((0 : Int) < pw_g gh42 125 0) := hc234
              refine pw_ld E (pc' := 195) (st' := [pw_i wt, .ref 141]) rfl (fun _ => rfl) ?_
              refine pw_ld E (pc' := 196) (st' := [pw_i 2, pw_i wt, .ref 141]) rfl (fun _ => rfl) ?_
              refine pw_if2 E (pc' := 209) rfl (by decide) (by omega) (by omega) (by decide) (by decide) ?_ ?_
              · intro hc235
                have hc235 : wt ≤ (2 : Int) := hc235
                refine pw_ld E (pc' := 210) (st' := [pw_i 0, .ref 141]) rfl (fun _ => rfl) ?_
                refine pw_putI I42 E (c := 125) (k := 0) (pc' := 213) rfl rfl rfl rfl (by omega) (by omega) (by omega) (by omega) rfl rfl ?_
                intro h236I h236E
                generalize h236w : pw_w gh42 125 0 (pw_i 0) = h236 at h236I h236E ⊢
                have h236F := E42.tr (h236E.wk (W' := [125, 149, 150]) (by first | rfl | simp))
                refine pw_ld E (pc' := 214) (st' := [.ref 141]) rfl (fun _ => rfl) ?_
                have he238 : pw_g h236 125 0 = 0 := by rw [← h236w]; exact pw_g_eq (c := 125) (k := 0) I42 rfl rfl (by omega) (by omega)
                refine pw_getI h236I E (c := 125) (k := 0) (pc' := 217) rfl rfl rfl rfl rfl rfl (fun hf237a hf237b hf237c hf237d => ?_)
                refine pw_if E (pc' := 222) rfl (by decide) (by omega) (by omega) ?_ ?_
                · intro hc239
                  have hc239 : pw_g h236 125 0 ≤ (0 : Int) := hc239
                  refine pw_ld E (pc' := 223) (st' := [.ref 141]) rfl (fun _ => rfl) ?_
                  refine pw_ld E (pc' := 224) (st' := [pw_i wt, .ref 141]) rfl (fun _ => rfl) ?_
                  refine pw_ld E (pc' := 225) (st' := [pw_i 5, pw_i wt, .ref 141]) rfl (fun _ => rfl) ?_
                  refine pw_if2 E (pc' := 233) rfl (by decide) (by omega) (by omega) (by decide) (by decide) ?_ ?_
                  · intro hc240
                    have hc240 : (5 : Int) ≤ wt := hc240
                    exfalso; omega
                  · intro hc241
                    have hc241 : ¬ ((5 : Int) ≤ wt) := hc241
                    refine pw_ld E (pc' := 230) (st' := [.long k42_8, .ref 141]) rfl (fun _ => rfl) ?_
                    refine pw_goto E (pc' := 235) rfl (by decide) ?_
                    refine pw_putL h236I E (c := 125) (k := 24) (pc' := 238) rfl rfl rfl rfl rfl rfl ?_
                    intro h242I h242E
                    generalize h242w : pw_w h236 125 24 (.long k42_8) = h242 at h242I h242E ⊢
                    have h242F := h236F.tr (h242E.wk (W' := [125, 149, 150]) (by first | rfl | simp))
                    refine pw_ld E (pc' := 239) (st' := [.ref 141]) rfl (fun _ => rfl) ?_
                    refine pw_ld E (pc' := 240) (st' := [pw_i wt, .ref 141]) rfl (fun _ => rfl) ?_
                    refine pw_ld E (pc' := 241) (st' := [pw_i 5, pw_i wt, .ref 141]) rfl (fun _ => rfl) ?_
                    refine pw_if2 E (pc' := 249) rfl (by decide) (by omega) (by omega) (by decide) (by decide) ?_ ?_
                    · intro hc243
                      have hc243 : (5 : Int) ≤ wt := hc243
                      exfalso; omega
                    · intro hc244
                      have hc244 : ¬ ((5 : Int) ≤ wt) := hc244
                      refine pw_ld E (pc' := 246) (st' := [.long (Int64.ofInt k42_10), .ref 141]) rfl (fun _ => rfl) ?_
                      refine pw_goto E (pc' := 251) rfl (by decide) ?_
                      refine pw_putM h242I E (c := 125) (k := 25) (pc' := 254) rfl rfl rfl rfl (by omega) (by omega) (by omega) (by omega) rfl rfl ?_
                      intro h245I h245E
                      generalize h245w : pw_w h242 125 25 (.long (Int64.ofInt k42_10)) = h245 at h245I h245E ⊢
                      have h245F := h242F.tr (h245E.wk (W' := [125, 149, 150]) (by first | rfl | simp))
                      refine pw_ld E (pc' := 255) (st' := [pw_i wt]) rfl (fun _ => rfl) ?_
                      refine pw_if E (pc' := 262) rfl (by decide) (by omega) (by omega) ?_ ?_
                      · intro hc246
                        have hc246 : wt ≠ (0 : Int) := hc246
                        refine pw_ld E (pc' := 263) (st' := [pw_i wt]) rfl (fun _ => rfl) ?_
                        refine pw_ld E (pc' := 264) (st' := [pw_i 1, pw_i wt]) rfl (fun _ => rfl) ?_
                        refine pw_if2 E (pc' := 272) rfl (by decide) (by omega) (by omega) (by decide) (by decide) ?_ ?_
                        · intro hc247
                          have hc247 : wt ≠ (1 : Int) := hc247
                          refine pw_ld E (pc' := 273) (st' := [pw_i wt]) rfl (fun _ => rfl) ?_
                          refine pw_ld E (pc' := 274) (st' := [pw_i 2, pw_i wt]) rfl (fun _ => rfl) ?_
                          refine pw_if2 E (pc' := 282) rfl (by decide) (by omega) (by omega) (by decide) (by decide) ?_ ?_
                          · intro hc248
                            have hc248 : wt ≠ (2 : Int) := hc248
                            refine pw_ld E (pc' := 283) (st' := [.ref 141]) rfl (fun _ => rfl) ?_
                            refine pw_ld E (pc' := 284) (st' := [pw_i wt, .ref 141]) rfl (fun _ => rfl) ?_
                            refine pw_ld E (pc' := 285) (st' := [pw_i 2, pw_i wt, .ref 141]) rfl (fun _ => rfl) ?_
                            refine pw_divA E (pc' := 286) rfl rfl rfl (by omega) (by omega) (by omega) ?_
                            intro x249 hx249a hx249b
                            refine pw_ld E (pc' := 287) (st' := [pw_i 1, pw_i x249, .ref 141]) rfl (fun _ => rfl) ?_
                            refine pw_if2 E (pc' := 294) rfl (by decide) (by omega) (by omega) (by decide) (by decide) ?_ ?_
                            · intro hc250
                              have hc250 : x249 ≠ (1 : Int) := hc250
                              refine pw_ld E (pc' := 295) (st' := [pw_i 1, .ref 141]) rfl (fun _ => rfl) ?_
                              have he251 : pw_gm h245 125 25 = k42_10 := by rw [← h245w]; exact pw_gm_eq (c := 125) (k := 25) h242I rfl rfl (by omega) (by omega)
                              obtain ⟨f252l, f252h, -⟩ := pw_obj (c := 125) h245I rfl
                              refine pw_call (m' := 222) (As := [.ref 141, pw_i 1]) (rest := []) (ls'' := [some (.ref 141), some (pw_i 1), none, none]) (by omega) E rfl (fun _ => pw_iV rfl rfl rfl rfl (pw_cellI f252h rfl)) (rfl : pm_ent 222 = some (2, 4, 12, 2, pmc_222)) rfl rfl (cm_222 (by omega) h245I (1) (by omega) (by omega) (by omega)) ?_
                              rintro u254 v253 ⟨rfl, w255, rfl⟩
                              refine ⟨_, rfl, ?_⟩
                              show pw X d h245 286 298 [some (.ref 141), some (pw_i wt), some (.long k42_2), none, some (.long k42_4), none, some (.long k42_6), none, some (.long k42_8), none, some (.long (Int64.ofInt k42_10)), none, some (.long k42_12), none, some (.long (Int64.ofInt k42_14)), none, some (pw_i k42_16)] [.long w255] _
                              refine pw_lret E rfl ?_
                              exact ⟨h245I, h245F, ⟨_, rfl⟩⟩
                            · intro hc256
                              have hc256 : ¬ (x249 ≠ (1 : Int)) := hc256
                              refine pw_ld E (pc' := 291) (st' := [pw_i 0, .ref 141]) rfl (fun _ => rfl) ?_
                              refine pw_goto E (pc' := 295) rfl (by decide) ?_
                              have he257 : pw_gm h245 125 25 = k42_10 := by rw [← h245w]; exact pw_gm_eq (c := 125) (k := 25) h242I rfl rfl (by omega) (by omega)
                              obtain ⟨f258l, f258h, -⟩ := pw_obj (c := 125) h245I rfl
                              refine pw_call (m' := 222) (As := [.ref 141, pw_i 0]) (rest := []) (ls'' := [some (.ref 141), some (pw_i 0), none, none]) (by omega) E rfl (fun _ => pw_iV rfl rfl rfl rfl (pw_cellI f258h rfl)) (rfl : pm_ent 222 = some (2, 4, 12, 2, pmc_222)) rfl rfl (cm_222 (by omega) h245I (0) (by omega) (by omega) (by omega)) ?_
                              rintro u260 v259 ⟨rfl, w261, rfl⟩
                              refine ⟨_, rfl, ?_⟩
                              show pw X d h245 286 298 [some (.ref 141), some (pw_i wt), some (.long k42_2), none, some (.long k42_4), none, some (.long k42_6), none, some (.long k42_8), none, some (.long (Int64.ofInt k42_10)), none, some (.long k42_12), none, some (.long (Int64.ofInt k42_14)), none, some (pw_i k42_16)] [.long w261] _
                              refine pw_lret E rfl ?_
                              exact ⟨h245I, h245F, ⟨_, rfl⟩⟩
                          · intro hc262
                            have hc262 : ¬ (wt ≠ (2 : Int)) := hc262
                            refine pw_ld E (pc' := 279) (st' := [.long k42_6]) rfl (fun _ => rfl) ?_
                            refine pw_goto E (pc' := 298) rfl (by decide) ?_
                            refine pw_lret E rfl ?_
                            exact ⟨h245I, h245F, ⟨_, rfl⟩⟩
                        · intro hc263
                          have hc263 : ¬ (wt ≠ (1 : Int)) := hc263
                          refine pw_ld E (pc' := 269) (st' := [.long k42_4]) rfl (fun _ => rfl) ?_
                          refine pw_goto E (pc' := 298) rfl (by decide) ?_
                          refine pw_lret E rfl ?_
                          exact ⟨h245I, h245F, ⟨_, rfl⟩⟩
                      · intro hc264
                        have hc264 : ¬ (wt ≠ (0 : Int)) := hc264
                        refine pw_ld E (pc' := 259) (st' := [.long k42_2]) rfl (fun _ => rfl) ?_
                        refine pw_goto E (pc' := 298) rfl (by decide) ?_
                        refine pw_lret E rfl ?_
                        exact ⟨h245I, h245F, ⟨_, rfl⟩⟩
                · intro hc265
                  have hc265 : ¬ (pw_g h236 125 0 ≤ (0 : Int)) := hc265
                  exfalso; omega
              · intro hc266
                have hc266 : ¬ (wt ≤ (2 : Int)) := hc266
                refine pw_ld E (pc' := 200) (st' := [.long k42_2, .ref 141]) rfl (fun _ => rfl) ?_
                refine pw_ld E (pc' := 201) (st' := [.long (Int64.ofInt 0), .long k42_2, .ref 141]) rfl (fun _ => rfl) ?_
                refine pw_lcmp E (pc' := 202) rfl rfl (fun c267 hc267 => ?_)
                refine pw_if E (pc' := 209) rfl (by decide) (by omega) (by omega) ?_ ?_
                · intro hc268
                  have hc268 : c267 ≠ (0 : Int) := hc268
                  refine pw_ld E (pc' := 210) (st' := [pw_i 0, .ref 141]) rfl (fun _ => rfl) ?_
                  refine pw_putI I42 E (c := 125) (k := 0) (pc' := 213) rfl rfl rfl rfl (by omega) (by omega) (by omega) (by omega) rfl rfl ?_
                  intro h269I h269E
                  generalize h269w : pw_w gh42 125 0 (pw_i 0) = h269 at h269I h269E ⊢
                  have h269F := E42.tr (h269E.wk (W' := [125, 149, 150]) (by first | rfl | simp))
                  refine pw_ld E (pc' := 214) (st' := [.ref 141]) rfl (fun _ => rfl) ?_
                  have he271 : pw_g h269 125 0 = 0 := by rw [← h269w]; exact pw_g_eq (c := 125) (k := 0) I42 rfl rfl (by omega) (by omega)
                  refine pw_getI h269I E (c := 125) (k := 0) (pc' := 217) rfl rfl rfl rfl rfl rfl (fun hf270a hf270b hf270c hf270d => ?_)
                  refine pw_if E (pc' := 222) rfl (by decide) (by omega) (by omega) ?_ ?_
                  · intro hc272
                    have hc272 : pw_g h269 125 0 ≤ (0 : Int) := hc272
                    refine pw_ld E (pc' := 223) (st' := [.ref 141]) rfl (fun _ => rfl) ?_
                    refine pw_ld E (pc' := 224) (st' := [pw_i wt, .ref 141]) rfl (fun _ => rfl) ?_
                    refine pw_ld E (pc' := 225) (st' := [pw_i 5, pw_i wt, .ref 141]) rfl (fun _ => rfl) ?_
                    refine pw_if2 E (pc' := 233) rfl (by decide) (by omega) (by omega) (by decide) (by decide) ?_ ?_
                    · intro hc273
                      have hc273 : (5 : Int) ≤ wt := hc273
                      refine pw_ld E (pc' := 235) (st' := [.long k42_12, .ref 141]) rfl (fun _ => rfl) ?_
                      refine pw_putL h269I E (c := 125) (k := 24) (pc' := 238) rfl rfl rfl rfl rfl rfl ?_
                      intro h274I h274E
                      generalize h274w : pw_w h269 125 24 (.long k42_12) = h274 at h274I h274E ⊢
                      have h274F := h269F.tr (h274E.wk (W' := [125, 149, 150]) (by first | rfl | simp))
                      refine pw_ld E (pc' := 239) (st' := [.ref 141]) rfl (fun _ => rfl) ?_
                      refine pw_ld E (pc' := 240) (st' := [pw_i wt, .ref 141]) rfl (fun _ => rfl) ?_
                      refine pw_ld E (pc' := 241) (st' := [pw_i 5, pw_i wt, .ref 141]) rfl (fun _ => rfl) ?_
                      refine pw_if2 E (pc' := 249) rfl (by decide) (by omega) (by omega) (by decide) (by decide) ?_ ?_
                      · intro hc275
                        have hc275 : (5 : Int) ≤ wt := hc275
                        refine pw_ld E (pc' := 251) (st' := [.long (Int64.ofInt k42_14), .ref 141]) rfl (fun _ => rfl) ?_
                        refine pw_putM h274I E (c := 125) (k := 25) (pc' := 254) rfl rfl rfl rfl (by omega) (by omega) (by omega) (by omega) rfl rfl ?_
                        intro h276I h276E
                        generalize h276w : pw_w h274 125 25 (.long (Int64.ofInt k42_14)) = h276 at h276I h276E ⊢
                        have h276F := h274F.tr (h276E.wk (W' := [125, 149, 150]) (by first | rfl | simp))
                        refine pw_ld E (pc' := 255) (st' := [pw_i wt]) rfl (fun _ => rfl) ?_
                        refine pw_if E (pc' := 262) rfl (by decide) (by omega) (by omega) ?_ ?_
                        · intro hc277
                          have hc277 : wt ≠ (0 : Int) := hc277
                          refine pw_ld E (pc' := 263) (st' := [pw_i wt]) rfl (fun _ => rfl) ?_
                          refine pw_ld E (pc' := 264) (st' := [pw_i 1, pw_i wt]) rfl (fun _ => rfl) ?_
                          refine pw_if2 E (pc' := 272) rfl (by decide) (by omega) (by omega) (by decide) (by decide) ?_ ?_
                          · intro hc278
                            have hc278 : wt ≠ (1 : Int) := hc278
                            refine pw_ld E (pc' := 273) (st' := [pw_i wt]) rfl (fun _ => rfl) ?_
                            refine pw_ld E (pc' := 274) (st' := [pw_i 2, pw_i wt]) rfl (fun _ => rfl) ?_
                            refine pw_if2 E (pc' := 282) rfl (by decide) (by omega) (by omega) (by decide) (by decide) ?_ ?_
                            · intro hc279
                              have hc279 : wt ≠ (2 : Int) := hc279
                              refine pw_ld E (pc' := 283) (st' := [.ref 141]) rfl (fun _ => rfl) ?_
                              refine pw_ld E (pc' := 284) (st' := [pw_i wt, .ref 141]) rfl (fun _ => rfl) ?_
                              refine pw_ld E (pc' := 285) (st' := [pw_i 2, pw_i wt, .ref 141]) rfl (fun _ => rfl) ?_
                              refine pw_rem E (pc' := 286) rfl rfl (by omega) (by omega) (by decide) (by decide) ?_
                              refine pw_ld E (pc' := 287) (st' := [pw_i 1, pw_i (wt % 2), .ref 141]) rfl (fun _ => rfl) ?_
                              refine pw_if2 E (pc' := 294) rfl (by decide) (by omega) (by omega) (by decide) (by decide) ?_ ?_
                              · intro hc280
                                have hc280 : wt % 2 ≠ (1 : Int) := hc280
                                refine pw_ld E (pc' := 295) (st' := [pw_i 1, .ref 141]) rfl (fun _ => rfl) ?_
                                have he281 : pw_gm h276 125 25 = k42_14 := by rw [← h276w]; exact pw_gm_eq (c := 125) (k := 25) h274I rfl rfl (by omega) (by omega)
                                obtain ⟨f282l, f282h, -⟩ := pw_obj (c := 125) h276I rfl
                                refine pw_call (m' := 222) (As := [.ref 141, pw_i 1]) (rest := []) (ls'' := [some (.ref 141), some (pw_i 1), none, none]) (by omega) E rfl (fun _ => pw_iV rfl rfl rfl rfl (pw_cellI f282h rfl)) (rfl : pm_ent 222 = some (2, 4, 12, 2, pmc_222)) rfl rfl (cm_222 (by omega) h276I (1) (by omega) (by omega) (by omega)) ?_
                                rintro u284 v283 ⟨rfl, w285, rfl⟩
                                refine ⟨_, rfl, ?_⟩
                                show pw X d h276 286 298 [some (.ref 141), some (pw_i wt), some (.long k42_2), none, some (.long k42_4), none, some (.long k42_6), none, some (.long k42_8), none, some (.long (Int64.ofInt k42_10)), none, some (.long k42_12), none, some (.long (Int64.ofInt k42_14)), none, some (pw_i k42_16)] [.long w285] _
                                refine pw_lret E rfl ?_
                                exact ⟨h276I, h276F, ⟨_, rfl⟩⟩
                              · intro hc286
                                have hc286 : ¬ (wt % 2 ≠ (1 : Int)) := hc286
                                refine pw_ld E (pc' := 291) (st' := [pw_i 0, .ref 141]) rfl (fun _ => rfl) ?_
                                refine pw_goto E (pc' := 295) rfl (by decide) ?_
                                have he287 : pw_gm h276 125 25 = k42_14 := by rw [← h276w]; exact pw_gm_eq (c := 125) (k := 25) h274I rfl rfl (by omega) (by omega)
                                obtain ⟨f288l, f288h, -⟩ := pw_obj (c := 125) h276I rfl
                                refine pw_call (m' := 222) (As := [.ref 141, pw_i 0]) (rest := []) (ls'' := [some (.ref 141), some (pw_i 0), none, none]) (by omega) E rfl (fun _ => pw_iV rfl rfl rfl rfl (pw_cellI f288h rfl)) (rfl : pm_ent 222 = some (2, 4, 12, 2, pmc_222)) rfl rfl (cm_222 (by omega) h276I (0) (by omega) (by omega) (by omega)) ?_
                                rintro u290 v289 ⟨rfl, w291, rfl⟩
                                refine ⟨_, rfl, ?_⟩
                                show pw X d h276 286 298 [some (.ref 141), some (pw_i wt), some (.long k42_2), none, some (.long k42_4), none, some (.long k42_6), none, some (.long k42_8), none, some (.long (Int64.ofInt k42_10)), none, some (.long k42_12), none, some (.long (Int64.ofInt k42_14)), none, some (pw_i k42_16)] [.long w291] _
                                refine pw_lret E rfl ?_
                                exact ⟨h276I, h276F, ⟨_, rfl⟩⟩
                            · intro hc292
                              have hc292 : ¬ (wt ≠ (2 : Int)) := hc292
                              exfalso; omega
                          · intro hc293
                            have hc293 : ¬ (wt ≠ (1 : Int)) := hc293
                            exfalso; omega
                        · intro hc294
                          have hc294 : ¬ (wt ≠ (0 : Int)) := hc294
                          exfalso; omega
                      · intro hc295
                        have hc295 : ¬ ((5 : Int) ≤ wt) := hc295
                        exfalso; omega
                    · intro hc296
                      have hc296 : ¬ ((5 : Int) ≤ wt) := hc296
                      refine pw_ld E (pc' := 230) (st' := [.long k42_8, .ref 141]) rfl (fun _ => rfl) ?_
                      refine pw_goto E (pc' := 235) rfl (by decide) ?_
                      refine pw_putL h269I E (c := 125) (k := 24) (pc' := 238) rfl rfl rfl rfl rfl rfl ?_
                      intro h297I h297E
                      generalize h297w : pw_w h269 125 24 (.long k42_8) = h297 at h297I h297E ⊢
                      have h297F := h269F.tr (h297E.wk (W' := [125, 149, 150]) (by first | rfl | simp))
                      refine pw_ld E (pc' := 239) (st' := [.ref 141]) rfl (fun _ => rfl) ?_
                      refine pw_ld E (pc' := 240) (st' := [pw_i wt, .ref 141]) rfl (fun _ => rfl) ?_
                      refine pw_ld E (pc' := 241) (st' := [pw_i 5, pw_i wt, .ref 141]) rfl (fun _ => rfl) ?_
                      refine pw_if2 E (pc' := 249) rfl (by decide) (by omega) (by omega) (by decide) (by decide) ?_ ?_
                      · intro hc298
                        have hc298 : (5 : Int) ≤ wt := hc298
                        exfalso; omega
                      · intro hc299
                        have hc299 : ¬ ((5 : Int) ≤ wt) := hc299
                        refine pw_ld E (pc' := 246) (st' := [.long (Int64.ofInt k42_10), .ref 141]) rfl (fun _ => rfl) ?_
                        refine pw_goto E (pc' := 251) rfl (by decide) ?_
                        refine pw_putM h297I E (c := 125) (k := 25) (pc' := 254) rfl rfl rfl rfl (by omega) (by omega) (by omega) (by omega) rfl rfl ?_
                        intro h300I h300E
                        generalize h300w : pw_w h297 125 25 (.long (Int64.ofInt k42_10)) = h300 at h300I h300E ⊢
                        have h300F := h297F.tr (h300E.wk (W' := [125, 149, 150]) (by first | rfl | simp))
                        refine pw_ld E (pc' := 255) (st' := [pw_i wt]) rfl (fun _ => rfl) ?_
                        refine pw_if E (pc' := 262) rfl (by decide) (by omega) (by omega) ?_ ?_
                        · intro hc301
                          have hc301 : wt ≠ (0 : Int) := hc301
                          refine pw_ld E (pc' := 263) (st' := [pw_i wt]) rfl (fun _ => rfl) ?_
                          refine pw_ld E (pc' := 264) (st' := [pw_i 1, pw_i wt]) rfl (fun _ => rfl) ?_
                          refine pw_if2 E (pc' := 272) rfl (by decide) (by omega) (by omega) (by decide) (by decide) ?_ ?_
                          · intro hc302
                            have hc302 : wt ≠ (1 : Int) := hc302
                            refine pw_ld E (pc' := 273) (st' := [pw_i wt]) rfl (fun _ => rfl) ?_
                            refine pw_ld E (pc' := 274) (st' := [pw_i 2, pw_i wt]) rfl (fun _ => rfl) ?_
                            refine pw_if2 E (pc' := 282) rfl (by decide) (by omega) (by omega) (by decide) (by decide) ?_ ?_
                            · intro hc303
                              have hc303 : wt ≠ (2 : Int) := hc303
                              refine pw_ld E (pc' := 283) (st' := [.ref 141]) rfl (fun _ => rfl) ?_
                              refine pw_ld E (pc' := 284) (st' := [pw_i wt, .ref 141]) rfl (fun _ => rfl) ?_
                              refine pw_ld E (pc' := 285) (st' := [pw_i 2, pw_i wt, .ref 141]) rfl (fun _ => rfl) ?_
                              refine pw_rem E (pc' := 286) rfl rfl (by omega) (by omega) (by decide) (by decide) ?_
                              refine pw_ld E (pc' := 287) (st' := [pw_i 1, pw_i (wt % 2), .ref 141]) rfl (fun _ => rfl) ?_
                              refine pw_if2 E (pc' := 294) rfl (by decide) (by omega) (by omega) (by decide) (by decide) ?_ ?_
                              · intro hc304
                                have hc304 : wt % 2 ≠ (1 : Int) := hc304
                                refine pw_ld E (pc' := 295) (st' := [pw_i 1, .ref 141]) rfl (fun _ => rfl) ?_
                                have he305 : pw_gm h300 125 25 = k42_10 := by rw [← h300w]; exact pw_gm_eq (c := 125) (k := 25) h297I rfl rfl (by omega) (by omega)
                                obtain ⟨f306l, f306h, -⟩ := pw_obj (c := 125) h300I rfl
                                refine pw_call (m' := 222) (As := [.ref 141, pw_i 1]) (rest := []) (ls'' := [some (.ref 141), some (pw_i 1), none, none]) (by omega) E rfl (fun _ => pw_iV rfl rfl rfl rfl (pw_cellI f306h rfl)) (rfl : pm_ent 222 = some (2, 4, 12, 2, pmc_222)) rfl rfl (cm_222 (by omega) h300I (1) (by omega) (by omega) (by omega)) ?_
                                rintro u308 v307 ⟨rfl, w309, rfl⟩
                                refine ⟨_, rfl, ?_⟩
                                show pw X d h300 286 298 [some (.ref 141), some (pw_i wt), some (.long k42_2), none, some (.long k42_4), none, some (.long k42_6), none, some (.long k42_8), none, some (.long (Int64.ofInt k42_10)), none, some (.long k42_12), none, some (.long (Int64.ofInt k42_14)), none, some (pw_i k42_16)] [.long w309] _
                                refine pw_lret E rfl ?_
                                exact ⟨h300I, h300F, ⟨_, rfl⟩⟩
                              · intro hc310
                                have hc310 : ¬ (wt % 2 ≠ (1 : Int)) := hc310
                                refine pw_ld E (pc' := 291) (st' := [pw_i 0, .ref 141]) rfl (fun _ => rfl) ?_
                                refine pw_goto E (pc' := 295) rfl (by decide) ?_
                                have he311 : pw_gm h300 125 25 = k42_10 := by rw [← h300w]; exact pw_gm_eq (c := 125) (k := 25) h297I rfl rfl (by omega) (by omega)
                                obtain ⟨f312l, f312h, -⟩ := pw_obj (c := 125) h300I rfl
                                refine pw_call (m' := 222) (As := [.ref 141, pw_i 0]) (rest := []) (ls'' := [some (.ref 141), some (pw_i 0), none, none]) (by omega) E rfl (fun _ => pw_iV rfl rfl rfl rfl (pw_cellI f312h rfl)) (rfl : pm_ent 222 = some (2, 4, 12, 2, pmc_222)) rfl rfl (cm_222 (by omega) h300I (0) (by omega) (by omega) (by omega)) ?_
                                rintro u314 v313 ⟨rfl, w315, rfl⟩
                                refine ⟨_, rfl, ?_⟩
                                show pw X d h300 286 298 [some (.ref 141), some (pw_i wt), some (.long k42_2), none, some (.long k42_4), none, some (.long k42_6), none, some (.long k42_8), none, some (.long (Int64.ofInt k42_10)), none, some (.long k42_12), none, some (.long (Int64.ofInt k42_14)), none, some (pw_i k42_16)] [.long w315] _
                                refine pw_lret E rfl ?_
                                exact ⟨h300I, h300F, ⟨_, rfl⟩⟩
                            · intro hc316
                              have hc316 : ¬ (wt ≠ (2 : Int)) := hc316
                              exfalso; omega
                          · intro hc317
                            have hc317 : ¬ (wt ≠ (1 : Int)) := hc317
                            exfalso; omega
                        · intro hc318
                          have hc318 : ¬ (wt ≠ (0 : Int)) := hc318
                          exfalso; omega
                  · intro hc319
                    have hc319 : ¬ (pw_g h269 125 0 ≤ (0 : Int)) := hc319
                    exfalso; omega
                · intro hc320
                  have hc320 : ¬ (c267 ≠ (0 : Int)) := hc320
                  refine pw_ld E (pc' := 206) (st' := [pw_i 1, .ref 141]) rfl (fun _ => rfl) ?_
                  refine pw_goto E (pc' := 210) rfl (by decide) ?_
                  refine pw_putI I42 E (c := 125) (k := 0) (pc' := 213) rfl rfl rfl rfl (by omega) (by omega) (by omega) (by omega) rfl rfl ?_
                  intro h321I h321E
                  generalize h321w : pw_w gh42 125 0 (pw_i 1) = h321 at h321I h321E ⊢
                  have h321F := E42.tr (h321E.wk (W' := [125, 149, 150]) (by first | rfl | simp))
                  refine pw_ld E (pc' := 214) (st' := [.ref 141]) rfl (fun _ => rfl) ?_
                  have he323 : pw_g h321 125 0 = 1 := by rw [← h321w]; exact pw_g_eq (c := 125) (k := 0) I42 rfl rfl (by omega) (by omega)
                  refine pw_getI h321I E (c := 125) (k := 0) (pc' := 217) rfl rfl rfl rfl rfl rfl (fun hf322a hf322b hf322c hf322d => ?_)
                  refine pw_if E (pc' := 222) rfl (by decide) (by omega) (by omega) ?_ ?_
                  · intro hc324
                    have hc324 : pw_g h321 125 0 ≤ (0 : Int) := hc324
                    exfalso; omega
                  · intro hc325
                    have hc325 : ¬ (pw_g h321 125 0 ≤ (0 : Int)) := hc325
                    refine pw_ld E (pc' := 221) (st' := [.long (Int64.ofInt 0)]) rfl (fun _ => rfl) ?_
                    refine pw_lret E rfl ?_
                    exact ⟨h321I, h321F, ⟨_, rfl⟩⟩
          · intro hc326
            have hc326 : ¬ ((44 : Int) ≤ k42_16) := hc326
            refine pw_ld E (pc' := 50) (st' := [.ref 141]) rfl (fun _ => rfl) ?_
            refine pw_ld E (pc' := 52) (st' := [pw_i k42_16, .ref 141]) rfl (fun _ => rfl) ?_
            refine pw_bip E (pc' := 54) rfl rfl (by decide) ?_
            refine pw_div E (pc' := 55) rfl rfl (by omega) (by omega) (by decide) (by decide) ?_
            refine pw_ld E (pc' := 57) (st' := [pw_i k42_16, pw_i (k42_16 / 11), .ref 141]) rfl (fun _ => rfl) ?_
            refine pw_bip E (pc' := 59) rfl rfl (by decide) ?_
            refine pw_rem E (pc' := 60) rfl rfl (by omega) (by omega) (by decide) (by decide) ?_
            obtain ⟨f327l, f327h, -⟩ := pw_obj (c := 125) I42 rfl
            refine pw_call (m' := 285) (As := [.ref 141, pw_i (k42_16 / 11), pw_i (k42_16 % 11)]) (rest := []) (ls'' := [some (.ref 141), some (pw_i (k42_16 / 11)), some (pw_i (k42_16 % 11)), none, none, none]) (by omega) E rfl (fun _ => pw_iV rfl rfl rfl rfl (pw_cellI f327h rfl)) (rfl : pm_ent 285 = some (3, 6, 12, 1, pmc_285)) rfl rfl (cm_285 (by omega) I42 (k42_16 / 11) (by omega) (by omega) (k42_16 % 11) (by omega) (by omega) (pw_KE I E42 hp0 rfl)) ?_
            rintro h328 v329 ⟨h328I, h328E, x330, rfl, hx330a, hx330b, hx330r⟩
            refine ⟨_, rfl, ?_⟩
            have h328F := E42.tr (h328E.wk (W' := [125, 149, 150]) (by first | rfl | simp))
            show pw X d h328 286 63 [some (.ref 141), some (pw_i wt), some (.long k42_2), none, some (.long k42_4), none, some (.long k42_6), none, some (.long k42_8), none, some (.long (Int64.ofInt k42_10)), none, some (.long k42_12), none, some (.long (Int64.ofInt k42_14)), none, some (pw_i k42_16)] [pw_i x330] _
            have hx330r : (x330 = 1 ∧ 1 ≤ pw_gm h328 125 25 ∧ pw_gm h328 125 25 ≤ 576) ∨ x330 = 0 := hx330r
            rcases (by omega : x330 = 1 ∨ x330 = 0) with hb331 | hb331
            · have hb331 : x330 = 1 := by omega
              refine pw_if E (pc' := 180) rfl (by decide) (by omega) (by omega) ?_ ?_
              · intro hc332
                have hc332 : x330 = (0 : Int) := hc332
                exfalso; omega
              · intro hc333
                have hc333 : ¬ (x330 = (0 : Int)) := hc333
                refine pw_ld E (pc' := 67) (st' := [.long k42_2]) rfl (fun _ => rfl) ?_
                refine pw_ld E (pc' := 68) (st' := [.long (Int64.ofInt 0), .long k42_2]) rfl (fun _ => rfl) ?_
                refine pw_lcmp E (pc' := 69) rfl rfl (fun c334 hc334 => ?_)
                refine pw_if E (pc' := 90) rfl (by decide) (by omega) (by omega) ?_ ?_
                · intro hc335
                  have hc335 : c334 = (0 : Int) := hc335
                  refine pw_ld E (pc' := 91) (st' := [.ref 141]) rfl (fun _ => rfl) ?_
                  refine pw_getL h328I E (c := 125) (k := 24) (pc' := 94) rfl rfl rfl rfl rfl rfl ?_
                  refine pw_lst E (pc' := 96) (ls' := [some (.ref 141), some (pw_i wt), some (.long k42_2), none, some (.long k42_4), none, some (.long k42_6), none, some (.long (pw_gl h328 125 24)), none, some (.long (Int64.ofInt k42_10)), none, some (.long k42_12), none, some (.long (Int64.ofInt k42_14)), none, some (pw_i k42_16)]) rfl rfl rfl rfl ?_
                  refine pw_ld E (pc' := 97) (st' := [.ref 141]) rfl (fun _ => rfl) ?_
                  refine pw_getM h328I E (c := 125) (k := 25) (pc' := 100) rfl rfl rfl rfl rfl rfl (fun hf336a hf336b => ?_)
                  refine pw_lst E (pc' := 102) (ls' := [some (.ref 141), some (pw_i wt), some (.long k42_2), none, some (.long k42_4), none, some (.long k42_6), none, some (.long (pw_gl h328 125 24)), none, some (.long (Int64.ofInt (pw_gm h328 125 25))), none, some (.long k42_12), none, some (.long (Int64.ofInt k42_14)), none, some (pw_i k42_16)]) rfl rfl rfl rfl ?_
                  refine pw_ld E (pc' := 103) (st' := [.long k42_2]) rfl (fun _ => rfl) ?_
                  refine pw_ld E (pc' := 104) (st' := [.long (Int64.ofInt 0), .long k42_2]) rfl (fun _ => rfl) ?_
                  refine pw_lcmp E (pc' := 105) rfl rfl (fun c337 hc337 => ?_)
                  refine pw_if E (pc' := 126) rfl (by decide) (by omega) (by omega) ?_ ?_
                  · intro hc338
                    have hc338 : c337 = (0 : Int) := hc338
                    refine pw_ld E (pc' := 127) (st' := [.ref 141]) rfl (fun _ => rfl) ?_
                    refine pw_getL h328I E (c := 125) (k := 24) (pc' := 130) rfl rfl rfl rfl rfl rfl ?_
                    refine pw_lst E (pc' := 132) (ls' := [some (.ref 141), some (pw_i wt), some (.long k42_2), none, some (.long k42_4), none, some (.long k42_6), none, some (.long (pw_gl h328 125 24)), none, some (.long (Int64.ofInt (pw_gm h328 125 25))), none, some (.long (pw_gl h328 125 24)), none, some (.long (Int64.ofInt k42_14)), none, some (pw_i k42_16)]) rfl rfl rfl rfl ?_
                    refine pw_ld E (pc' := 133) (st' := [.ref 141]) rfl (fun _ => rfl) ?_
                    refine pw_getM h328I E (c := 125) (k := 25) (pc' := 136) rfl rfl rfl rfl rfl rfl (fun hf339a hf339b => ?_)
                    refine pw_lst E (pc' := 138) (ls' := [some (.ref 141), some (pw_i wt), some (.long k42_2), none, some (.long k42_4), none, some (.long k42_6), none, some (.long (pw_gl h328 125 24)), none, some (.long (Int64.ofInt (pw_gm h328 125 25))), none, some (.long (pw_gl h328 125 24)), none, some (.long (Int64.ofInt (pw_gm h328 125 25))), none, some (pw_i k42_16)]) rfl rfl rfl rfl ?_
                    refine pw_ld E (pc' := 139) (st' := [.long k42_2]) rfl (fun _ => rfl) ?_
                    refine pw_ld E (pc' := 140) (st' := [.long (Int64.ofInt 1), .long k42_2]) rfl (fun _ => rfl) ?_
                    refine pw_ld E (pc' := 141) (st' := [.long (k42_2 + (Int64.ofInt 1))]) rfl (fun _ => rfl) ?_
                    refine pw_lstn E (pc' := 142) (ls' := [some (.ref 141), some (pw_i wt), some (.long (k42_2 + (Int64.ofInt 1))), none, some (.long k42_4), none, some (.long k42_6), none, some (.long (pw_gl h328 125 24)), none, some (.long (Int64.ofInt (pw_gm h328 125 25))), none, some (.long (pw_gl h328 125 24)), none, some (.long (Int64.ofInt (pw_gm h328 125 25))), none, some (pw_i k42_16)]) rfl rfl rfl rfl ?_
                    refine pw_ld E (pc' := 144) (st' := [.long k42_4]) rfl (fun _ => rfl) ?_
                    refine pw_ld E (pc' := 145) (st' := [.ref 141, .long k42_4]) rfl (fun _ => rfl) ?_
                    refine pw_getL h328I E (c := 125) (k := 24) (pc' := 148) rfl rfl rfl rfl rfl rfl ?_
                    refine pw_ld E (pc' := 149) (st' := [.long (Int64.ofInt 0), .long (pw_gl h328 125 24), .long k42_4]) rfl (fun _ => rfl) ?_
                    refine pw_lcmp E (pc' := 150) rfl rfl (fun c340 hc340 => ?_)
                    refine pw_if E (pc' := 157) rfl (by decide) (by omega) (by omega) ?_ ?_
                    · intro hc341
                      have hc341 : (0 : Int) ≤ c340 := hc341
                      refine pw_ld E (pc' := 158) (st' := [.long (Int64.ofInt 0), .long k42_4]) rfl (fun _ => rfl) ?_
                      refine pw_ld E (pc' := 159) (st' := [.long (k42_4 + (Int64.ofInt 0))]) rfl (fun _ => rfl) ?_
                      refine pw_lst E (pc' := 161) (ls' := [some (.ref 141), some (pw_i wt), some (.long (k42_2 + (Int64.ofInt 1))), none, some (.long (k42_4 + (Int64.ofInt 0))), none, some (.long k42_6), none, some (.long (pw_gl h328 125 24)), none, some (.long (Int64.ofInt (pw_gm h328 125 25))), none, some (.long (pw_gl h328 125 24)), none, some (.long (Int64.ofInt (pw_gm h328 125 25))), none, some (pw_i k42_16)]) rfl rfl rfl rfl ?_
                      refine pw_ld E (pc' := 163) (st' := [.long k42_6]) rfl (fun _ => rfl) ?_
                      refine pw_ld E (pc' := 164) (st' := [.ref 141, .long k42_6]) rfl (fun _ => rfl) ?_
                      refine pw_getL h328I E (c := 125) (k := 24) (pc' := 167) rfl rfl rfl rfl rfl rfl ?_
                      refine pw_ld E (pc' := 168) (st' := [.long (Int64.ofInt 0), .long (pw_gl h328 125 24), .long k42_6]) rfl (fun _ => rfl) ?_
                      refine pw_lcmp E (pc' := 169) rfl rfl (fun c342 hc342 => ?_)
                      refine pw_if E (pc' := 176) rfl (by decide) (by omega) (by omega) ?_ ?_
                      · intro hc343
                        have hc343 : c342 ≤ (0 : Int) := hc343
                        refine pw_ld E (pc' := 177) (st' := [.long (Int64.ofInt 0), .long k42_6]) rfl (fun _ => rfl) ?_
                        refine pw_ld E (pc' := 178) (st' := [.long (k42_6 + (Int64.ofInt 0))]) rfl (fun _ => rfl) ?_
                        refine pw_lst E (pc' := 180) (ls' := [some (.ref 141), some (pw_i wt), some (.long (k42_2 + (Int64.ofInt 1))), none, some (.long (k42_4 + (Int64.ofInt 0))), none, some (.long (k42_6 + (Int64.ofInt 0))), none, some (.long (pw_gl h328 125 24)), none, some (.long (Int64.ofInt (pw_gm h328 125 25))), none, some (.long (pw_gl h328 125 24)), none, some (.long (Int64.ofInt (pw_gm h328 125 25))), none, some (pw_i k42_16)]) rfl rfl rfl rfl ?_
                        refine pw_inc E (pc' := 183) (ls' := [some (.ref 141), some (pw_i wt), some (.long (k42_2 + (Int64.ofInt 1))), none, some (.long (k42_4 + (Int64.ofInt 0))), none, some (.long (k42_6 + (Int64.ofInt 0))), none, some (.long (pw_gl h328 125 24)), none, some (.long (Int64.ofInt (pw_gm h328 125 25))), none, some (.long (pw_gl h328 125 24)), none, some (.long (Int64.ofInt (pw_gm h328 125 25))), none, some (pw_i (k42_16 + 1))]) rfl rfl rfl rfl ?_
                        refine pw_goto E (pc' := 42) rfl (by decide) ?_
                        exact ih42 _ (by omega) (k42_2 + (Int64.ofInt 1)) (k42_4 + (Int64.ofInt 0)) (k42_6 + (Int64.ofInt 0)) (pw_gl h328 125 24) (pw_gm h328 125 25) (pw_gl h328 125 24) (pw_gm h328 125 25) (k42_16 + 1) h328 h328I h328F (by omega) (by omega) (by omega) (by omega) (by omega) (by omega)  rfl
                      · intro hc344
                        have hc344 : ¬ (c342 ≤ (0 : Int)) := hc344
                        refine pw_ld E (pc' := 173) (st' := [.long (Int64.ofInt 1), .long k42_6]) rfl (fun _ => rfl) ?_
                        refine pw_goto E (pc' := 177) rfl (by decide) ?_
                        refine pw_ld E (pc' := 178) (st' := [.long (k42_6 + (Int64.ofInt 1))]) rfl (fun _ => rfl) ?_
                        refine pw_lst E (pc' := 180) (ls' := [some (.ref 141), some (pw_i wt), some (.long (k42_2 + (Int64.ofInt 1))), none, some (.long (k42_4 + (Int64.ofInt 0))), none, some (.long (k42_6 + (Int64.ofInt 1))), none, some (.long (pw_gl h328 125 24)), none, some (.long (Int64.ofInt (pw_gm h328 125 25))), none, some (.long (pw_gl h328 125 24)), none, some (.long (Int64.ofInt (pw_gm h328 125 25))), none, some (pw_i k42_16)]) rfl rfl rfl rfl ?_
                        refine pw_inc E (pc' := 183) (ls' := [some (.ref 141), some (pw_i wt), some (.long (k42_2 + (Int64.ofInt 1))), none, some (.long (k42_4 + (Int64.ofInt 0))), none, some (.long (k42_6 + (Int64.ofInt 1))), none, some (.long (pw_gl h328 125 24)), none, some (.long (Int64.ofInt (pw_gm h328 125 25))), none, some (.long (pw_gl h328 125 24)), none, some (.long (Int64.ofInt (pw_gm h328 125 25))), none, some (pw_i (k42_16 + 1))]) rfl rfl rfl rfl ?_
                        refine pw_goto E (pc' := 42) rfl (by decide) ?_
                        exact ih42 _ (by omega) (k42_2 + (Int64.ofInt 1)) (k42_4 + (Int64.ofInt 0)) (k42_6 + (Int64.ofInt 1)) (pw_gl h328 125 24) (pw_gm h328 125 25) (pw_gl h328 125 24) (pw_gm h328 125 25) (k42_16 + 1) h328 h328I h328F (by omega) (by omega) (by omega) (by omega) (by omega) (by omega)  rfl
                    · intro hc345
                      have hc345 : ¬ ((0 : Int) ≤ c340) := hc345
                      refine pw_ld E (pc' := 154) (st' := [.long (Int64.ofInt 1), .long k42_4]) rfl (fun _ => rfl) ?_
                      refine pw_goto E (pc' := 158) rfl (by decide) ?_
                      refine pw_ld E (pc' := 159) (st' := [.long (k42_4 + (Int64.ofInt 1))]) rfl (fun _ => rfl) ?_
                      refine pw_lst E (pc' := 161) (ls' := [some (.ref 141), some (pw_i wt), some (.long (k42_2 + (Int64.ofInt 1))), none, some (.long (k42_4 + (Int64.ofInt 1))), none, some (.long k42_6), none, some (.long (pw_gl h328 125 24)), none, some (.long (Int64.ofInt (pw_gm h328 125 25))), none, some (.long (pw_gl h328 125 24)), none, some (.long (Int64.ofInt (pw_gm h328 125 25))), none, some (pw_i k42_16)]) rfl rfl rfl rfl ?_
                      refine pw_ld E (pc' := 163) (st' := [.long k42_6]) rfl (fun _ => rfl) ?_
                      refine pw_ld E (pc' := 164) (st' := [.ref 141, .long k42_6]) rfl (fun _ => rfl) ?_
                      refine pw_getL h328I E (c := 125) (k := 24) (pc' := 167) rfl rfl rfl rfl rfl rfl ?_
                      refine pw_ld E (pc' := 168) (st' := [.long (Int64.ofInt 0), .long (pw_gl h328 125 24), .long k42_6]) rfl (fun _ => rfl) ?_
                      refine pw_lcmp E (pc' := 169) rfl rfl (fun c346 hc346 => ?_)
                      refine pw_if E (pc' := 176) rfl (by decide) (by omega) (by omega) ?_ ?_
                      · intro hc347
                        have hc347 : c346 ≤ (0 : Int) := hc347
                        refine pw_ld E (pc' := 177) (st' := [.long (Int64.ofInt 0), .long k42_6]) rfl (fun _ => rfl) ?_
                        refine pw_ld E (pc' := 178) (st' := [.long (k42_6 + (Int64.ofInt 0))]) rfl (fun _ => rfl) ?_
                        refine pw_lst E (pc' := 180) (ls' := [some (.ref 141), some (pw_i wt), some (.long (k42_2 + (Int64.ofInt 1))), none, some (.long (k42_4 + (Int64.ofInt 1))), none, some (.long (k42_6 + (Int64.ofInt 0))), none, some (.long (pw_gl h328 125 24)), none, some (.long (Int64.ofInt (pw_gm h328 125 25))), none, some (.long (pw_gl h328 125 24)), none, some (.long (Int64.ofInt (pw_gm h328 125 25))), none, some (pw_i k42_16)]) rfl rfl rfl rfl ?_
                        refine pw_inc E (pc' := 183) (ls' := [some (.ref 141), some (pw_i wt), some (.long (k42_2 + (Int64.ofInt 1))), none, some (.long (k42_4 + (Int64.ofInt 1))), none, some (.long (k42_6 + (Int64.ofInt 0))), none, some (.long (pw_gl h328 125 24)), none, some (.long (Int64.ofInt (pw_gm h328 125 25))), none, some (.long (pw_gl h328 125 24)), none, some (.long (Int64.ofInt (pw_gm h328 125 25))), none, some (pw_i (k42_16 + 1))]) rfl rfl rfl rfl ?_
                        refine pw_goto E (pc' := 42) rfl (by decide) ?_
                        exact ih42 _ (by omega) (k42_2 + (Int64.ofInt 1)) (k42_4 + (Int64.ofInt 1)) (k42_6 + (Int64.ofInt 0)) (pw_gl h328 125 24) (pw_gm h328 125 25) (pw_gl h328 125 24) (pw_gm h328 125 25) (k42_16 + 1) h328 h328I h328F (by omega) (by omega) (by omega) (by omega) (by omega) (by omega)  rfl
                      · intro hc348
                        have hc348 : ¬ (c346 ≤ (0 : Int)) := hc348
                        refine pw_ld E (pc' := 173) (st' := [.long (Int64.ofInt 1), .long k42_6]) rfl (fun _ => rfl) ?_
                        refine pw_goto E (pc' := 177) rfl (by decide) ?_
                        refine pw_ld E (pc' := 178) (st' := [.long (k42_6 + (Int64.ofInt 1))]) rfl (fun _ => rfl) ?_
                        refine pw_lst E (pc' := 180) (ls' := [some (.ref 141), some (pw_i wt), some (.long (k42_2 + (Int64.ofInt 1))), none, some (.long (k42_4 + (Int64.ofInt 1))), none, some (.long (k42_6 + (Int64.ofInt 1))), none, some (.long (pw_gl h328 125 24)), none, some (.long (Int64.ofInt (pw_gm h328 125 25))), none, some (.long (pw_gl h328 125 24)), none, some (.long (Int64.ofInt (pw_gm h328 125 25))), none, some (pw_i k42_16)]) rfl rfl rfl rfl ?_
                        refine pw_inc E (pc' := 183) (ls' := [some (.ref 141), some (pw_i wt), some (.long (k42_2 + (Int64.ofInt 1))), none, some (.long (k42_4 + (Int64.ofInt 1))), none, some (.long (k42_6 + (Int64.ofInt 1))), none, some (.long (pw_gl h328 125 24)), none, some (.long (Int64.ofInt (pw_gm h328 125 25))), none, some (.long (pw_gl h328 125 24)), none, some (.long (Int64.ofInt (pw_gm h328 125 25))), none, some (pw_i (k42_16 + 1))]) rfl rfl rfl rfl ?_
                        refine pw_goto E (pc' := 42) rfl (by decide) ?_
                        exact ih42 _ (by omega) (k42_2 + (Int64.ofInt 1)) (k42_4 + (Int64.ofInt 1)) (k42_6 + (Int64.ofInt 1)) (pw_gl h328 125 24) (pw_gm h328 125 25) (pw_gl h328 125 24) (pw_gm h328 125 25) (k42_16 + 1) h328 h328I h328F (by omega) (by omega) (by omega) (by omega) (by omega) (by omega)  rfl
                  · intro hc349
                    have hc349 : ¬ (c337 = (0 : Int)) := hc349
                    refine pw_ld E (pc' := 109) (st' := [.ref 141]) rfl (fun _ => rfl) ?_
                    refine pw_getL h328I E (c := 125) (k := 24) (pc' := 112) rfl rfl rfl rfl rfl rfl ?_
                    refine pw_ld E (pc' := 114) (st' := [.long (Int64.ofInt k42_14), .long (pw_gl h328 125 24)]) rfl (fun _ => rfl) ?_
                    refine pw_ld E (pc' := 115) (st' := [.long ((pw_gl h328 125 24) * (Int64.ofInt k42_14))]) rfl (fun _ => rfl) ?_
                    refine pw_ld E (pc' := 117) (st' := [.long k42_12, .long ((pw_gl h328 125 24) * (Int64.ofInt k42_14))]) rfl (fun _ => rfl) ?_
                    refine pw_ld E (pc' := 118) (st' := [.ref 141, .long k42_12, .long ((pw_gl h328 125 24) * (Int64.ofInt k42_14))]) rfl (fun _ => rfl) ?_
                    refine pw_getM h328I E (c := 125) (k := 25) (pc' := 121) rfl rfl rfl rfl rfl rfl (fun hf350a hf350b => ?_)
                    refine pw_ld E (pc' := 122) (st' := [.long (k42_12 * (Int64.ofInt (pw_gm h328 125 25))), .long ((pw_gl h328 125 24) * (Int64.ofInt k42_14))]) rfl (fun _ => rfl) ?_
                    refine pw_lcmp E (pc' := 123) rfl rfl (fun c351 hc351 => ?_)
                    refine pw_if E (pc' := 138) rfl (by decide) (by omega) (by omega) ?_ ?_
                    · intro hc352
                      have hc352 : c351 ≤ (0 : Int) := hc352
                      refine pw_ld E (pc' := 139) (st' := [.long k42_2]) rfl (fun _ => rfl) ?_
                      refine pw_ld E (pc' := 140) (st' := [.long (Int64.ofInt 1), .long k42_2]) rfl (fun _ => rfl) ?_
                      refine pw_ld E (pc' := 141) (st' := [.long (k42_2 + (Int64.ofInt 1))]) rfl (fun _ => rfl) ?_
                      refine pw_lstn E (pc' := 142) (ls' := [some (.ref 141), some (pw_i wt), some (.long (k42_2 + (Int64.ofInt 1))), none, some (.long k42_4), none, some (.long k42_6), none, some (.long (pw_gl h328 125 24)), none, some (.long (Int64.ofInt (pw_gm h328 125 25))), none, some (.long k42_12), none, some (.long (Int64.ofInt k42_14)), none, some (pw_i k42_16)]) rfl rfl rfl rfl ?_
                      refine pw_ld E (pc' := 144) (st' := [.long k42_4]) rfl (fun _ => rfl) ?_
                      refine pw_ld E (pc' := 145) (st' := [.ref 141, .long k42_4]) rfl (fun _ => rfl) ?_
                      refine pw_getL h328I E (c := 125) (k := 24) (pc' := 148) rfl rfl rfl rfl rfl rfl ?_
                      refine pw_ld E (pc' := 149) (st' := [.long (Int64.ofInt 0), .long (pw_gl h328 125 24), .long k42_4]) rfl (fun _ => rfl) ?_
                      refine pw_lcmp E (pc' := 150) rfl rfl (fun c353 hc353 => ?_)
                      refine pw_if E (pc' := 157) rfl (by decide) (by omega) (by omega) ?_ ?_
                      · intro hc354
                        have hc354 : (0 : Int) ≤ c353 := hc354
                        refine pw_ld E (pc' := 158) (st' := [.long (Int64.ofInt 0), .long k42_4]) rfl (fun _ => rfl) ?_
                        refine pw_ld E (pc' := 159) (st' := [.long (k42_4 + (Int64.ofInt 0))]) rfl (fun _ => rfl) ?_
                        refine pw_lst E (pc' := 161) (ls' := [some (.ref 141), some (pw_i wt), some (.long (k42_2 + (Int64.ofInt 1))), none, some (.long (k42_4 + (Int64.ofInt 0))), none, some (.long k42_6), none, some (.long (pw_gl h328 125 24)), none, some (.long (Int64.ofInt (pw_gm h328 125 25))), none, some (.long k42_12), none, some (.long (Int64.ofInt k42_14)), none, some (pw_i k42_16)]) rfl rfl rfl rfl ?_
                        refine pw_ld E (pc' := 163) (st' := [.long k42_6]) rfl (fun _ => rfl) ?_
                        refine pw_ld E (pc' := 164) (st' := [.ref 141, .long k42_6]) rfl (fun _ => rfl) ?_
                        refine pw_getL h328I E (c := 125) (k := 24) (pc' := 167) rfl rfl rfl rfl rfl rfl ?_
                        refine pw_ld E (pc' := 168) (st' := [.long (Int64.ofInt 0), .long (pw_gl h328 125 24), .long k42_6]) rfl (fun _ => rfl) ?_
                        refine pw_lcmp E (pc' := 169) rfl rfl (fun c355 hc355 => ?_)
                        refine pw_if E (pc' := 176) rfl (by decide) (by omega) (by omega) ?_ ?_
                        · intro hc356
                          have hc356 : c355 ≤ (0 : Int) := hc356
                          refine pw_ld E (pc' := 177) (st' := [.long (Int64.ofInt 0), .long k42_6]) rfl (fun _ => rfl) ?_
                          refine pw_ld E (pc' := 178) (st' := [.long (k42_6 + (Int64.ofInt 0))]) rfl (fun _ => rfl) ?_
                          refine pw_lst E (pc' := 180) (ls' := [some (.ref 141), some (pw_i wt), some (.long (k42_2 + (Int64.ofInt 1))), none, some (.long (k42_4 + (Int64.ofInt 0))), none, some (.long (k42_6 + (Int64.ofInt 0))), none, some (.long (pw_gl h328 125 24)), none, some (.long (Int64.ofInt (pw_gm h328 125 25))), none, some (.long k42_12), none, some (.long (Int64.ofInt k42_14)), none, some (pw_i k42_16)]) rfl rfl rfl rfl ?_
                          refine pw_inc E (pc' := 183) (ls' := [some (.ref 141), some (pw_i wt), some (.long (k42_2 + (Int64.ofInt 1))), none, some (.long (k42_4 + (Int64.ofInt 0))), none, some (.long (k42_6 + (Int64.ofInt 0))), none, some (.long (pw_gl h328 125 24)), none, some (.long (Int64.ofInt (pw_gm h328 125 25))), none, some (.long k42_12), none, some (.long (Int64.ofInt k42_14)), none, some (pw_i (k42_16 + 1))]) rfl rfl rfl rfl ?_
                          refine pw_goto E (pc' := 42) rfl (by decide) ?_
                          exact ih42 _ (by omega) (k42_2 + (Int64.ofInt 1)) (k42_4 + (Int64.ofInt 0)) (k42_6 + (Int64.ofInt 0)) (pw_gl h328 125 24) (pw_gm h328 125 25) (k42_12) (k42_14) (k42_16 + 1) h328 h328I h328F (by omega) (by omega) (by omega) (by omega) (by omega) (by omega)  rfl
                        · intro hc357
                          have hc357 : ¬ (c355 ≤ (0 : Int)) := hc357
                          refine pw_ld E (pc' := 173) (st' := [.long (Int64.ofInt 1), .long k42_6]) rfl (fun _ => rfl) ?_
                          refine pw_goto E (pc' := 177) rfl (by decide) ?_
                          refine pw_ld E (pc' := 178) (st' := [.long (k42_6 + (Int64.ofInt 1))]) rfl (fun _ => rfl) ?_
                          refine pw_lst E (pc' := 180) (ls' := [some (.ref 141), some (pw_i wt), some (.long (k42_2 + (Int64.ofInt 1))), none, some (.long (k42_4 + (Int64.ofInt 0))), none, some (.long (k42_6 + (Int64.ofInt 1))), none, some (.long (pw_gl h328 125 24)), none, some (.long (Int64.ofInt (pw_gm h328 125 25))), none, some (.long k42_12), none, some (.long (Int64.ofInt k42_14)), none, some (pw_i k42_16)]) rfl rfl rfl rfl ?_
                          refine pw_inc E (pc' := 183) (ls' := [some (.ref 141), some (pw_i wt), some (.long (k42_2 + (Int64.ofInt 1))), none, some (.long (k42_4 + (Int64.ofInt 0))), none, some (.long (k42_6 + (Int64.ofInt 1))), none, some (.long (pw_gl h328 125 24)), none, some (.long (Int64.ofInt (pw_gm h328 125 25))), none, some (.long k42_12), none, some (.long (Int64.ofInt k42_14)), none, some (pw_i (k42_16 + 1))]) rfl rfl rfl rfl ?_
                          refine pw_goto E (pc' := 42) rfl (by decide) ?_
                          exact ih42 _ (by omega) (k42_2 + (Int64.ofInt 1)) (k42_4 + (Int64.ofInt 0)) (k42_6 + (Int64.ofInt 1)) (pw_gl h328 125 24) (pw_gm h328 125 25) (k42_12) (k42_14) (k42_16 + 1) h328 h328I h328F (by omega) (by omega) (by omega) (by omega) (by omega) (by omega)  rfl
                      · intro hc358
                        have hc358 : ¬ ((0 : Int) ≤ c353) := hc358
                        refine pw_ld E (pc' := 154) (st' := [.long (Int64.ofInt 1), .long k42_4]) rfl (fun _ => rfl) ?_
                        refine pw_goto E (pc' := 158) rfl (by decide) ?_
                        refine pw_ld E (pc' := 159) (st' := [.long (k42_4 + (Int64.ofInt 1))]) rfl (fun _ => rfl) ?_
                        refine pw_lst E (pc' := 161) (ls' := [some (.ref 141), some (pw_i wt), some (.long (k42_2 + (Int64.ofInt 1))), none, some (.long (k42_4 + (Int64.ofInt 1))), none, some (.long k42_6), none, some (.long (pw_gl h328 125 24)), none, some (.long (Int64.ofInt (pw_gm h328 125 25))), none, some (.long k42_12), none, some (.long (Int64.ofInt k42_14)), none, some (pw_i k42_16)]) rfl rfl rfl rfl ?_
                        refine pw_ld E (pc' := 163) (st' := [.long k42_6]) rfl (fun _ => rfl) ?_
                        refine pw_ld E (pc' := 164) (st' := [.ref 141, .long k42_6]) rfl (fun _ => rfl) ?_
                        refine pw_getL h328I E (c := 125) (k := 24) (pc' := 167) rfl rfl rfl rfl rfl rfl ?_
                        refine pw_ld E (pc' := 168) (st' := [.long (Int64.ofInt 0), .long (pw_gl h328 125 24), .long k42_6]) rfl (fun _ => rfl) ?_
                        refine pw_lcmp E (pc' := 169) rfl rfl (fun c359 hc359 => ?_)
                        refine pw_if E (pc' := 176) rfl (by decide) (by omega) (by omega) ?_ ?_
                        · intro hc360
                          have hc360 : c359 ≤ (0 : Int) := hc360
                          refine pw_ld E (pc' := 177) (st' := [.long (Int64.ofInt 0), .long k42_6]) rfl (fun _ => rfl) ?_
                          refine pw_ld E (pc' := 178) (st' := [.long (k42_6 + (Int64.ofInt 0))]) rfl (fun _ => rfl) ?_
                          refine pw_lst E (pc' := 180) (ls' := [some (.ref 141), some (pw_i wt), some (.long (k42_2 + (Int64.ofInt 1))), none, some (.long (k42_4 + (Int64.ofInt 1))), none, some (.long (k42_6 + (Int64.ofInt 0))), none, some (.long (pw_gl h328 125 24)), none, some (.long (Int64.ofInt (pw_gm h328 125 25))), none, some (.long k42_12), none, some (.long (Int64.ofInt k42_14)), none, some (pw_i k42_16)]) rfl rfl rfl rfl ?_
                          refine pw_inc E (pc' := 183) (ls' := [some (.ref 141), some (pw_i wt), some (.long (k42_2 + (Int64.ofInt 1))), none, some (.long (k42_4 + (Int64.ofInt 1))), none, some (.long (k42_6 + (Int64.ofInt 0))), none, some (.long (pw_gl h328 125 24)), none, some (.long (Int64.ofInt (pw_gm h328 125 25))), none, some (.long k42_12), none, some (.long (Int64.ofInt k42_14)), none, some (pw_i (k42_16 + 1))]) rfl rfl rfl rfl ?_
                          refine pw_goto E (pc' := 42) rfl (by decide) ?_
                          exact ih42 _ (by omega) (k42_2 + (Int64.ofInt 1)) (k42_4 + (Int64.ofInt 1)) (k42_6 + (Int64.ofInt 0)) (pw_gl h328 125 24) (pw_gm h328 125 25) (k42_12) (k42_14) (k42_16 + 1) h328 h328I h328F (by omega) (by omega) (by omega) (by omega) (by omega) (by omega)  rfl
                        · intro hc361
                          have hc361 : ¬ (c359 ≤ (0 : Int)) := hc361
                          refine pw_ld E (pc' := 173) (st' := [.long (Int64.ofInt 1), .long k42_6]) rfl (fun _ => rfl) ?_
                          refine pw_goto E (pc' := 177) rfl (by decide) ?_
                          refine pw_ld E (pc' := 178) (st' := [.long (k42_6 + (Int64.ofInt 1))]) rfl (fun _ => rfl) ?_
                          refine pw_lst E (pc' := 180) (ls' := [some (.ref 141), some (pw_i wt), some (.long (k42_2 + (Int64.ofInt 1))), none, some (.long (k42_4 + (Int64.ofInt 1))), none, some (.long (k42_6 + (Int64.ofInt 1))), none, some (.long (pw_gl h328 125 24)), none, some (.long (Int64.ofInt (pw_gm h328 125 25))), none, some (.long k42_12), none, some (.long (Int64.ofInt k42_14)), none, some (pw_i k42_16)]) rfl rfl rfl rfl ?_
                          refine pw_inc E (pc' := 183) (ls' := [some (.ref 141), some (pw_i wt), some (.long (k42_2 + (Int64.ofInt 1))), none, some (.long (k42_4 + (Int64.ofInt 1))), none, some (.long (k42_6 + (Int64.ofInt 1))), none, some (.long (pw_gl h328 125 24)), none, some (.long (Int64.ofInt (pw_gm h328 125 25))), none, some (.long k42_12), none, some (.long (Int64.ofInt k42_14)), none, some (pw_i (k42_16 + 1))]) rfl rfl rfl rfl ?_
                          refine pw_goto E (pc' := 42) rfl (by decide) ?_
                          exact ih42 _ (by omega) (k42_2 + (Int64.ofInt 1)) (k42_4 + (Int64.ofInt 1)) (k42_6 + (Int64.ofInt 1)) (pw_gl h328 125 24) (pw_gm h328 125 25) (k42_12) (k42_14) (k42_16 + 1) h328 h328I h328F (by omega) (by omega) (by omega) (by omega) (by omega) (by omega)  rfl
                    · intro hc362
                      have hc362 : ¬ (c351 ≤ (0 : Int)) := hc362
                      refine pw_ld E (pc' := 127) (st' := [.ref 141]) rfl (fun _ => rfl) ?_
                      refine pw_getL h328I E (c := 125) (k := 24) (pc' := 130) rfl rfl rfl rfl rfl rfl ?_
                      refine pw_lst E (pc' := 132) (ls' := [some (.ref 141), some (pw_i wt), some (.long k42_2), none, some (.long k42_4), none, some (.long k42_6), none, some (.long (pw_gl h328 125 24)), none, some (.long (Int64.ofInt (pw_gm h328 125 25))), none, some (.long (pw_gl h328 125 24)), none, some (.long (Int64.ofInt k42_14)), none, some (pw_i k42_16)]) rfl rfl rfl rfl ?_
                      refine pw_ld E (pc' := 133) (st' := [.ref 141]) rfl (fun _ => rfl) ?_
                      refine pw_getM h328I E (c := 125) (k := 25) (pc' := 136) rfl rfl rfl rfl rfl rfl (fun hf363a hf363b => ?_)
                      refine pw_lst E (pc' := 138) (ls' := [some (.ref 141), some (pw_i wt), some (.long k42_2), none, some (.long k42_4), none, some (.long k42_6), none, some (.long (pw_gl h328 125 24)), none, some (.long (Int64.ofInt (pw_gm h328 125 25))), none, some (.long (pw_gl h328 125 24)), none, some (.long (Int64.ofInt (pw_gm h328 125 25))), none, some (pw_i k42_16)]) rfl rfl rfl rfl ?_
                      refine pw_ld E (pc' := 139) (st' := [.long k42_2]) rfl (fun _ => rfl) ?_
                      refine pw_ld E (pc' := 140) (st' := [.long (Int64.ofInt 1), .long k42_2]) rfl (fun _ => rfl) ?_
                      refine pw_ld E (pc' := 141) (st' := [.long (k42_2 + (Int64.ofInt 1))]) rfl (fun _ => rfl) ?_
                      refine pw_lstn E (pc' := 142) (ls' := [some (.ref 141), some (pw_i wt), some (.long (k42_2 + (Int64.ofInt 1))), none, some (.long k42_4), none, some (.long k42_6), none, some (.long (pw_gl h328 125 24)), none, some (.long (Int64.ofInt (pw_gm h328 125 25))), none, some (.long (pw_gl h328 125 24)), none, some (.long (Int64.ofInt (pw_gm h328 125 25))), none, some (pw_i k42_16)]) rfl rfl rfl rfl ?_
                      refine pw_ld E (pc' := 144) (st' := [.long k42_4]) rfl (fun _ => rfl) ?_
                      refine pw_ld E (pc' := 145) (st' := [.ref 141, .long k42_4]) rfl (fun _ => rfl) ?_
                      refine pw_getL h328I E (c := 125) (k := 24) (pc' := 148) rfl rfl rfl rfl rfl rfl ?_
                      refine pw_ld E (pc' := 149) (st' := [.long (Int64.ofInt 0), .long (pw_gl h328 125 24), .long k42_4]) rfl (fun _ => rfl) ?_
                      refine pw_lcmp E (pc' := 150) rfl rfl (fun c364 hc364 => ?_)
                      refine pw_if E (pc' := 157) rfl (by decide) (by omega) (by omega) ?_ ?_
                      · intro hc365
                        have hc365 : (0 : Int) ≤ c364 := hc365
                        refine pw_ld E (pc' := 158) (st' := [.long (Int64.ofInt 0), .long k42_4]) rfl (fun _ => rfl) ?_
                        refine pw_ld E (pc' := 159) (st' := [.long (k42_4 + (Int64.ofInt 0))]) rfl (fun _ => rfl) ?_
                        refine pw_lst E (pc' := 161) (ls' := [some (.ref 141), some (pw_i wt), some (.long (k42_2 + (Int64.ofInt 1))), none, some (.long (k42_4 + (Int64.ofInt 0))), none, some (.long k42_6), none, some (.long (pw_gl h328 125 24)), none, some (.long (Int64.ofInt (pw_gm h328 125 25))), none, some (.long (pw_gl h328 125 24)), none, some (.long (Int64.ofInt (pw_gm h328 125 25))), none, some (pw_i k42_16)]) rfl rfl rfl rfl ?_
                        refine pw_ld E (pc' := 163) (st' := [.long k42_6]) rfl (fun _ => rfl) ?_
                        refine pw_ld E (pc' := 164) (st' := [.ref 141, .long k42_6]) rfl (fun _ => rfl) ?_
                        refine pw_getL h328I E (c := 125) (k := 24) (pc' := 167) rfl rfl rfl rfl rfl rfl ?_
                        refine pw_ld E (pc' := 168) (st' := [.long (Int64.ofInt 0), .long (pw_gl h328 125 24), .long k42_6]) rfl (fun _ => rfl) ?_
                        refine pw_lcmp E (pc' := 169) rfl rfl (fun c366 hc366 => ?_)
                        refine pw_if E (pc' := 176) rfl (by decide) (by omega) (by omega) ?_ ?_
                        · intro hc367
                          have hc367 : c366 ≤ (0 : Int) := hc367
                          refine pw_ld E (pc' := 177) (st' := [.long (Int64.ofInt 0), .long k42_6]) rfl (fun _ => rfl) ?_
                          refine pw_ld E (pc' := 178) (st' := [.long (k42_6 + (Int64.ofInt 0))]) rfl (fun _ => rfl) ?_
                          refine pw_lst E (pc' := 180) (ls' := [some (.ref 141), some (pw_i wt), some (.long (k42_2 + (Int64.ofInt 1))), none, some (.long (k42_4 + (Int64.ofInt 0))), none, some (.long (k42_6 + (Int64.ofInt 0))), none, some (.long (pw_gl h328 125 24)), none, some (.long (Int64.ofInt (pw_gm h328 125 25))), none, some (.long (pw_gl h328 125 24)), none, some (.long (Int64.ofInt (pw_gm h328 125 25))), none, some (pw_i k42_16)]) rfl rfl rfl rfl ?_
                          refine pw_inc E (pc' := 183) (ls' := [some (.ref 141), some (pw_i wt), some (.long (k42_2 + (Int64.ofInt 1))), none, some (.long (k42_4 + (Int64.ofInt 0))), none, some (.long (k42_6 + (Int64.ofInt 0))), none, some (.long (pw_gl h328 125 24)), none, some (.long (Int64.ofInt (pw_gm h328 125 25))), none, some (.long (pw_gl h328 125 24)), none, some (.long (Int64.ofInt (pw_gm h328 125 25))), none, some (pw_i (k42_16 + 1))]) rfl rfl rfl rfl ?_
                          refine pw_goto E (pc' := 42) rfl (by decide) ?_
                          exact ih42 _ (by omega) (k42_2 + (Int64.ofInt 1)) (k42_4 + (Int64.ofInt 0)) (k42_6 + (Int64.ofInt 0)) (pw_gl h328 125 24) (pw_gm h328 125 25) (pw_gl h328 125 24) (pw_gm h328 125 25) (k42_16 + 1) h328 h328I h328F (by omega) (by omega) (by omega) (by omega) (by omega) (by omega)  rfl
                        · intro hc368
                          have hc368 : ¬ (c366 ≤ (0 : Int)) := hc368
                          refine pw_ld E (pc' := 173) (st' := [.long (Int64.ofInt 1), .long k42_6]) rfl (fun _ => rfl) ?_
                          refine pw_goto E (pc' := 177) rfl (by decide) ?_
                          refine pw_ld E (pc' := 178) (st' := [.long (k42_6 + (Int64.ofInt 1))]) rfl (fun _ => rfl) ?_
                          refine pw_lst E (pc' := 180) (ls' := [some (.ref 141), some (pw_i wt), some (.long (k42_2 + (Int64.ofInt 1))), none, some (.long (k42_4 + (Int64.ofInt 0))), none, some (.long (k42_6 + (Int64.ofInt 1))), none, some (.long (pw_gl h328 125 24)), none, some (.long (Int64.ofInt (pw_gm h328 125 25))), none, some (.long (pw_gl h328 125 24)), none, some (.long (Int64.ofInt (pw_gm h328 125 25))), none, some (pw_i k42_16)]) rfl rfl rfl rfl ?_
                          refine pw_inc E (pc' := 183) (ls' := [some (.ref 141), some (pw_i wt), some (.long (k42_2 + (Int64.ofInt 1))), none, some (.long (k42_4 + (Int64.ofInt 0))), none, some (.long (k42_6 + (Int64.ofInt 1))), none, some (.long (pw_gl h328 125 24)), none, some (.long (Int64.ofInt (pw_gm h328 125 25))), none, some (.long (pw_gl h328 125 24)), none, some (.long (Int64.ofInt (pw_gm h328 125 25))), none, some (pw_i (k42_16 + 1))]) rfl rfl rfl rfl ?_
                          refine pw_goto E (pc' := 42) rfl (by decide) ?_
                          exact ih42 _ (by omega) (k42_2 + (Int64.ofInt 1)) (k42_4 + (Int64.ofInt 0)) (k42_6 + (Int64.ofInt 1)) (pw_gl h328 125 24) (pw_gm h328 125 25) (pw_gl h328 125 24) (pw_gm h328 125 25) (k42_16 + 1) h328 h328I h328F (by omega) (by omega) (by omega) (by omega) (by omega) (by omega)  rfl
                      · intro hc369
                        have hc369 : ¬ ((0 : Int) ≤ c364) := hc369
                        refine pw_ld E (pc' := 154) (st' := [.long (Int64.ofInt 1), .long k42_4]) rfl (fun _ => rfl) ?_
                        refine pw_goto E (pc' := 158) rfl (by decide) ?_
                        refine pw_ld E (pc' := 159) (st' := [.long (k42_4 + (Int64.ofInt 1))]) rfl (fun _ => rfl) ?_
                        refine pw_lst E (pc' := 161) (ls' := [some (.ref 141), some (pw_i wt), some (.long (k42_2 + (Int64.ofInt 1))), none, some (.long (k42_4 + (Int64.ofInt 1))), none, some (.long k42_6), none, some (.long (pw_gl h328 125 24)), none, some (.long (Int64.ofInt (pw_gm h328 125 25))), none, some (.long (pw_gl h328 125 24)), none, some (.long (Int64.ofInt (pw_gm h328 125 25))), none, some (pw_i k42_16)]) rfl rfl rfl rfl ?_
                        refine pw_ld E (pc' := 163) (st' := [.long k42_6]) rfl (fun _ => rfl) ?_
                        refine pw_ld E (pc' := 164) (st' := [.ref 141, .long k42_6]) rfl (fun _ => rfl) ?_
                        refine pw_getL h328I E (c := 125) (k := 24) (pc' := 167) rfl rfl rfl rfl rfl rfl ?_
                        refine pw_ld E (pc' := 168) (st' := [.long (Int64.ofInt 0), .long (pw_gl h328 125 24), .long k42_6]) rfl (fun _ => rfl) ?_
                        refine pw_lcmp E (pc' := 169) rfl rfl (fun c370 hc370 => ?_)
                        refine pw_if E (pc' := 176) rfl (by decide) (by omega) (by omega) ?_ ?_
                        · intro hc371
                          have hc371 : c370 ≤ (0 : Int) := hc371
                          refine pw_ld E (pc' := 177) (st' := [.long (Int64.ofInt 0), .long k42_6]) rfl (fun _ => rfl) ?_
                          refine pw_ld E (pc' := 178) (st' := [.long (k42_6 + (Int64.ofInt 0))]) rfl (fun _ => rfl) ?_
                          refine pw_lst E (pc' := 180) (ls' := [some (.ref 141), some (pw_i wt), some (.long (k42_2 + (Int64.ofInt 1))), none, some (.long (k42_4 + (Int64.ofInt 1))), none, some (.long (k42_6 + (Int64.ofInt 0))), none, some (.long (pw_gl h328 125 24)), none, some (.long (Int64.ofInt (pw_gm h328 125 25))), none, some (.long (pw_gl h328 125 24)), none, some (.long (Int64.ofInt (pw_gm h328 125 25))), none, some (pw_i k42_16)]) rfl rfl rfl rfl ?_
                          refine pw_inc E (pc' := 183) (ls' := [some (.ref 141), some (pw_i wt), some (.long (k42_2 + (Int64.ofInt 1))), none, some (.long (k42_4 + (Int64.ofInt 1))), none, some (.long (k42_6 + (Int64.ofInt 0))), none, some (.long (pw_gl h328 125 24)), none, some (.long (Int64.ofInt (pw_gm h328 125 25))), none, some (.long (pw_gl h328 125 24)), none, some (.long (Int64.ofInt (pw_gm h328 125 25))), none, some (pw_i (k42_16 + 1))]) rfl rfl rfl rfl ?_
                          refine pw_goto E (pc' := 42) rfl (by decide) ?_
                          exact ih42 _ (by omega) (k42_2 + (Int64.ofInt 1)) (k42_4 + (Int64.ofInt 1)) (k42_6 + (Int64.ofInt 0)) (pw_gl h328 125 24) (pw_gm h328 125 25) (pw_gl h328 125 24) (pw_gm h328 125 25) (k42_16 + 1) h328 h328I h328F (by omega) (by omega) (by omega) (by omega) (by omega) (by omega)  rfl
                        · intro hc372
                          have hc372 : ¬ (c370 ≤ (0 : Int)) := hc372
                          refine pw_ld E (pc' := 173) (st' := [.long (Int64.ofInt 1), .long k42_6]) rfl (fun _ => rfl) ?_
                          refine pw_goto E (pc' := 177) rfl (by decide) ?_
                          refine pw_ld E (pc' := 178) (st' := [.long (k42_6 + (Int64.ofInt 1))]) rfl (fun _ => rfl) ?_
                          refine pw_lst E (pc' := 180) (ls' := [some (.ref 141), some (pw_i wt), some (.long (k42_2 + (Int64.ofInt 1))), none, some (.long (k42_4 + (Int64.ofInt 1))), none, some (.long (k42_6 + (Int64.ofInt 1))), none, some (.long (pw_gl h328 125 24)), none, some (.long (Int64.ofInt (pw_gm h328 125 25))), none, some (.long (pw_gl h328 125 24)), none, some (.long (Int64.ofInt (pw_gm h328 125 25))), none, some (pw_i k42_16)]) rfl rfl rfl rfl ?_
                          refine pw_inc E (pc' := 183) (ls' := [some (.ref 141), some (pw_i wt), some (.long (k42_2 + (Int64.ofInt 1))), none, some (.long (k42_4 + (Int64.ofInt 1))), none, some (.long (k42_6 + (Int64.ofInt 1))), none, some (.long (pw_gl h328 125 24)), none, some (.long (Int64.ofInt (pw_gm h328 125 25))), none, some (.long (pw_gl h328 125 24)), none, some (.long (Int64.ofInt (pw_gm h328 125 25))), none, some (pw_i (k42_16 + 1))]) rfl rfl rfl rfl ?_
                          refine pw_goto E (pc' := 42) rfl (by decide) ?_
                          exact ih42 _ (by omega) (k42_2 + (Int64.ofInt 1)) (k42_4 + (Int64.ofInt 1)) (k42_6 + (Int64.ofInt 1)) (pw_gl h328 125 24) (pw_gm h328 125 25) (pw_gl h328 125 24) (pw_gm h328 125 25) (k42_16 + 1) h328 h328I h328F (by omega) (by omega) (by omega) (by omega) (by omega) (by omega)  rfl
                · intro hc373
                  have hc373 : ¬ (c334 = (0 : Int)) := hc373
                  refine pw_ld E (pc' := 73) (st' := [.ref 141]) rfl (fun _ => rfl) ?_
                  refine pw_getL h328I E (c := 125) (k := 24) (pc' := 76) rfl rfl rfl rfl rfl rfl ?_
                  refine pw_ld E (pc' := 78) (st' := [.long (Int64.ofInt k42_10), .long (pw_gl h328 125 24)]) rfl (fun _ => rfl) ?_
                  refine pw_ld E (pc' := 79) (st' := [.long ((pw_gl h328 125 24) * (Int64.ofInt k42_10))]) rfl (fun _ => rfl) ?_
                  refine pw_ld E (pc' := 81) (st' := [.long k42_8, .long ((pw_gl h328 125 24) * (Int64.ofInt k42_10))]) rfl (fun _ => rfl) ?_
                  refine pw_ld E (pc' := 82) (st' := [.ref 141, .long k42_8, .long ((pw_gl h328 125 24) * (Int64.ofInt k42_10))]) rfl (fun _ => rfl) ?_
                  refine pw_getM h328I E (c := 125) (k := 25) (pc' := 85) rfl rfl rfl rfl rfl rfl (fun hf374a hf374b => ?_)
                  refine pw_ld E (pc' := 86) (st' := [.long (k42_8 * (Int64.ofInt (pw_gm h328 125 25))), .long ((pw_gl h328 125 24) * (Int64.ofInt k42_10))]) rfl (fun _ => rfl) ?_
                  refine pw_lcmp E (pc' := 87) rfl rfl (fun c375 hc375 => ?_)
                  refine pw_if E (pc' := 102) rfl (by decide) (by omega) (by omega) ?_ ?_
                  · intro hc376
                    have hc376 : (0 : Int) ≤ c375 := hc376
                    refine pw_ld E (pc' := 103) (st' := [.long k42_2]) rfl (fun _ => rfl) ?_
                    refine pw_ld E (pc' := 104) (st' := [.long (Int64.ofInt 0), .long k42_2]) rfl (fun _ => rfl) ?_
                    refine pw_lcmp E (pc' := 105) rfl rfl (fun c377 hc377 => ?_)
                    refine pw_if E (pc' := 126) rfl (by decide) (by omega) (by omega) ?_ ?_
                    · intro hc378
                      have hc378 : c377 = (0 : Int) := hc378
                      refine pw_ld E (pc' := 127) (st' := [.ref 141]) rfl (fun _ => rfl) ?_
                      refine pw_getL h328I E (c := 125) (k := 24) (pc' := 130) rfl rfl rfl rfl rfl rfl ?_
                      refine pw_lst E (pc' := 132) (ls' := [some (.ref 141), some (pw_i wt), some (.long k42_2), none, some (.long k42_4), none, some (.long k42_6), none, some (.long k42_8), none, some (.long (Int64.ofInt k42_10)), none, some (.long (pw_gl h328 125 24)), none, some (.long (Int64.ofInt k42_14)), none, some (pw_i k42_16)]) rfl rfl rfl rfl ?_
                      refine pw_ld E (pc' := 133) (st' := [.ref 141]) rfl (fun _ => rfl) ?_
                      refine pw_getM h328I E (c := 125) (k := 25) (pc' := 136) rfl rfl rfl rfl rfl rfl (fun hf379a hf379b => ?_)
                      refine pw_lst E (pc' := 138) (ls' := [some (.ref 141), some (pw_i wt), some (.long k42_2), none, some (.long k42_4), none, some (.long k42_6), none, some (.long k42_8), none, some (.long (Int64.ofInt k42_10)), none, some (.long (pw_gl h328 125 24)), none, some (.long (Int64.ofInt (pw_gm h328 125 25))), none, some (pw_i k42_16)]) rfl rfl rfl rfl ?_
                      refine pw_ld E (pc' := 139) (st' := [.long k42_2]) rfl (fun _ => rfl) ?_
                      refine pw_ld E (pc' := 140) (st' := [.long (Int64.ofInt 1), .long k42_2]) rfl (fun _ => rfl) ?_
                      refine pw_ld E (pc' := 141) (st' := [.long (k42_2 + (Int64.ofInt 1))]) rfl (fun _ => rfl) ?_
                      refine pw_lstn E (pc' := 142) (ls' := [some (.ref 141), some (pw_i wt), some (.long (k42_2 + (Int64.ofInt 1))), none, some (.long k42_4), none, some (.long k42_6), none, some (.long k42_8), none, some (.long (Int64.ofInt k42_10)), none, some (.long (pw_gl h328 125 24)), none, some (.long (Int64.ofInt (pw_gm h328 125 25))), none, some (pw_i k42_16)]) rfl rfl rfl rfl ?_
                      refine pw_ld E (pc' := 144) (st' := [.long k42_4]) rfl (fun _ => rfl) ?_
                      refine pw_ld E (pc' := 145) (st' := [.ref 141, .long k42_4]) rfl (fun _ => rfl) ?_
                      refine pw_getL h328I E (c := 125) (k := 24) (pc' := 148) rfl rfl rfl rfl rfl rfl ?_
                      refine pw_ld E (pc' := 149) (st' := [.long (Int64.ofInt 0), .long (pw_gl h328 125 24), .long k42_4]) rfl (fun _ => rfl) ?_
                      refine pw_lcmp E (pc' := 150) rfl rfl (fun c380 hc380 => ?_)
                      refine pw_if E (pc' := 157) rfl (by decide) (by omega) (by omega) ?_ ?_
                      · intro hc381
                        have hc381 : (0 : Int) ≤ c380 := hc381
                        refine pw_ld E (pc' := 158) (st' := [.long (Int64.ofInt 0), .long k42_4]) rfl (fun _ => rfl) ?_
                        refine pw_ld E (pc' := 159) (st' := [.long (k42_4 + (Int64.ofInt 0))]) rfl (fun _ => rfl) ?_
                        refine pw_lst E (pc' := 161) (ls' := [some (.ref 141), some (pw_i wt), some (.long (k42_2 + (Int64.ofInt 1))), none, some (.long (k42_4 + (Int64.ofInt 0))), none, some (.long k42_6), none, some (.long k42_8), none, some (.long (Int64.ofInt k42_10)), none, some (.long (pw_gl h328 125 24)), none, some (.long (Int64.ofInt (pw_gm h328 125 25))), none, some (pw_i k42_16)]) rfl rfl rfl rfl ?_
                        refine pw_ld E (pc' := 163) (st' := [.long k42_6]) rfl (fun _ => rfl) ?_
                        refine pw_ld E (pc' := 164) (st' := [.ref 141, .long k42_6]) rfl (fun _ => rfl) ?_
                        refine pw_getL h328I E (c := 125) (k := 24) (pc' := 167) rfl rfl rfl rfl rfl rfl ?_
                        refine pw_ld E (pc' := 168) (st' := [.long (Int64.ofInt 0), .long (pw_gl h328 125 24), .long k42_6]) rfl (fun _ => rfl) ?_
                        refine pw_lcmp E (pc' := 169) rfl rfl (fun c382 hc382 => ?_)
                        refine pw_if E (pc' := 176) rfl (by decide) (by omega) (by omega) ?_ ?_
                        · intro hc383
                          have hc383 : c382 ≤ (0 : Int) := hc383
                          refine pw_ld E (pc' := 177) (st' := [.long (Int64.ofInt 0), .long k42_6]) rfl (fun _ => rfl) ?_
                          refine pw_ld E (pc' := 178) (st' := [.long (k42_6 + (Int64.ofInt 0))]) rfl (fun _ => rfl) ?_
                          refine pw_lst E (pc' := 180) (ls' := [some (.ref 141), some (pw_i wt), some (.long (k42_2 + (Int64.ofInt 1))), none, some (.long (k42_4 + (Int64.ofInt 0))), none, some (.long (k42_6 + (Int64.ofInt 0))), none, some (.long k42_8), none, some (.long (Int64.ofInt k42_10)), none, some (.long (pw_gl h328 125 24)), none, some (.long (Int64.ofInt (pw_gm h328 125 25))), none, some (pw_i k42_16)]) rfl rfl rfl rfl ?_
                          refine pw_inc E (pc' := 183) (ls' := [some (.ref 141), some (pw_i wt), some (.long (k42_2 + (Int64.ofInt 1))), none, some (.long (k42_4 + (Int64.ofInt 0))), none, some (.long (k42_6 + (Int64.ofInt 0))), none, some (.long k42_8), none, some (.long (Int64.ofInt k42_10)), none, some (.long (pw_gl h328 125 24)), none, some (.long (Int64.ofInt (pw_gm h328 125 25))), none, some (pw_i (k42_16 + 1))]) rfl rfl rfl rfl ?_
                          refine pw_goto E (pc' := 42) rfl (by decide) ?_
                          exact ih42 _ (by omega) (k42_2 + (Int64.ofInt 1)) (k42_4 + (Int64.ofInt 0)) (k42_6 + (Int64.ofInt 0)) (k42_8) (k42_10) (pw_gl h328 125 24) (pw_gm h328 125 25) (k42_16 + 1) h328 h328I h328F (by omega) (by omega) (by omega) (by omega) (by omega) (by omega)  rfl
                        · intro hc384
                          have hc384 : ¬ (c382 ≤ (0 : Int)) := hc384
                          refine pw_ld E (pc' := 173) (st' := [.long (Int64.ofInt 1), .long k42_6]) rfl (fun _ => rfl) ?_
                          refine pw_goto E (pc' := 177) rfl (by decide) ?_
                          refine pw_ld E (pc' := 178) (st' := [.long (k42_6 + (Int64.ofInt 1))]) rfl (fun _ => rfl) ?_
                          refine pw_lst E (pc' := 180) (ls' := [some (.ref 141), some (pw_i wt), some (.long (k42_2 + (Int64.ofInt 1))), none, some (.long (k42_4 + (Int64.ofInt 0))), none, some (.long (k42_6 + (Int64.ofInt 1))), none, some (.long k42_8), none, some (.long (Int64.ofInt k42_10)), none, some (.long (pw_gl h328 125 24)), none, some (.long (Int64.ofInt (pw_gm h328 125 25))), none, some (pw_i k42_16)]) rfl rfl rfl rfl ?_
                          refine pw_inc E (pc' := 183) (ls' := [some (.ref 141), some (pw_i wt), some (.long (k42_2 + (Int64.ofInt 1))), none, some (.long (k42_4 + (Int64.ofInt 0))), none, some (.long (k42_6 + (Int64.ofInt 1))), none, some (.long k42_8), none, some (.long (Int64.ofInt k42_10)), none, some (.long (pw_gl h328 125 24)), none, some (.long (Int64.ofInt (pw_gm h328 125 25))), none, some (pw_i (k42_16 + 1))]) rfl rfl rfl rfl ?_
                          refine pw_goto E (pc' := 42) rfl (by decide) ?_
                          exact ih42 _ (by omega) (k42_2 + (Int64.ofInt 1)) (k42_4 + (Int64.ofInt 0)) (k42_6 + (Int64.ofInt 1)) (k42_8) (k42_10) (pw_gl h328 125 24) (pw_gm h328 125 25) (k42_16 + 1) h328 h328I h328F (by omega) (by omega) (by omega) (by omega) (by omega) (by omega)  rfl
                      · intro hc385
                        have hc385 : ¬ ((0 : Int) ≤ c380) := hc385
                        refine pw_ld E (pc' := 154) (st' := [.long (Int64.ofInt 1), .long k42_4]) rfl (fun _ => rfl) ?_
                        refine pw_goto E (pc' := 158) rfl (by decide) ?_
                        refine pw_ld E (pc' := 159) (st' := [.long (k42_4 + (Int64.ofInt 1))]) rfl (fun _ => rfl) ?_
                        refine pw_lst E (pc' := 161) (ls' := [some (.ref 141), some (pw_i wt), some (.long (k42_2 + (Int64.ofInt 1))), none, some (.long (k42_4 + (Int64.ofInt 1))), none, some (.long k42_6), none, some (.long k42_8), none, some (.long (Int64.ofInt k42_10)), none, some (.long (pw_gl h328 125 24)), none, some (.long (Int64.ofInt (pw_gm h328 125 25))), none, some (pw_i k42_16)]) rfl rfl rfl rfl ?_
                        refine pw_ld E (pc' := 163) (st' := [.long k42_6]) rfl (fun _ => rfl) ?_
                        refine pw_ld E (pc' := 164) (st' := [.ref 141, .long k42_6]) rfl (fun _ => rfl) ?_
                        refine pw_getL h328I E (c := 125) (k := 24) (pc' := 167) rfl rfl rfl rfl rfl rfl ?_
                        refine pw_ld E (pc' := 168) (st' := [.long (Int64.ofInt 0), .long (pw_gl h328 125 24), .long k42_6]) rfl (fun _ => rfl) ?_
                        refine pw_lcmp E (pc' := 169) rfl rfl (fun c386 hc386 => ?_)
                        refine pw_if E (pc' := 176) rfl (by decide) (by omega) (by omega) ?_ ?_
                        · intro hc387
                          have hc387 : c386 ≤ (0 : Int) := hc387
                          refine pw_ld E (pc' := 177) (st' := [.long (Int64.ofInt 0), .long k42_6]) rfl (fun _ => rfl) ?_
                          refine pw_ld E (pc' := 178) (st' := [.long (k42_6 + (Int64.ofInt 0))]) rfl (fun _ => rfl) ?_
                          refine pw_lst E (pc' := 180) (ls' := [some (.ref 141), some (pw_i wt), some (.long (k42_2 + (Int64.ofInt 1))), none, some (.long (k42_4 + (Int64.ofInt 1))), none, some (.long (k42_6 + (Int64.ofInt 0))), none, some (.long k42_8), none, some (.long (Int64.ofInt k42_10)), none, some (.long (pw_gl h328 125 24)), none, some (.long (Int64.ofInt (pw_gm h328 125 25))), none, some (pw_i k42_16)]) rfl rfl rfl rfl ?_
                          refine pw_inc E (pc' := 183) (ls' := [some (.ref 141), some (pw_i wt), some (.long (k42_2 + (Int64.ofInt 1))), none, some (.long (k42_4 + (Int64.ofInt 1))), none, some (.long (k42_6 + (Int64.ofInt 0))), none, some (.long k42_8), none, some (.long (Int64.ofInt k42_10)), none, some (.long (pw_gl h328 125 24)), none, some (.long (Int64.ofInt (pw_gm h328 125 25))), none, some (pw_i (k42_16 + 1))]) rfl rfl rfl rfl ?_
                          refine pw_goto E (pc' := 42) rfl (by decide) ?_
                          exact ih42 _ (by omega) (k42_2 + (Int64.ofInt 1)) (k42_4 + (Int64.ofInt 1)) (k42_6 + (Int64.ofInt 0)) (k42_8) (k42_10) (pw_gl h328 125 24) (pw_gm h328 125 25) (k42_16 + 1) h328 h328I h328F (by omega) (by omega) (by omega) (by omega) (by omega) (by omega)  rfl
                        · intro hc388
                          have hc388 : ¬ (c386 ≤ (0 : Int)) := hc388
                          refine pw_ld E (pc' := 173) (st' := [.long (Int64.ofInt 1), .long k42_6]) rfl (fun _ => rfl) ?_
                          refine pw_goto E (pc' := 177) rfl (by decide) ?_
                          refine pw_ld E (pc' := 178) (st' := [.long (k42_6 + (Int64.ofInt 1))]) rfl (fun _ => rfl) ?_
                          refine pw_lst E (pc' := 180) (ls' := [some (.ref 141), some (pw_i wt), some (.long (k42_2 + (Int64.ofInt 1))), none, some (.long (k42_4 + (Int64.ofInt 1))), none, some (.long (k42_6 + (Int64.ofInt 1))), none, some (.long k42_8), none, some (.long (Int64.ofInt k42_10)), none, some (.long (pw_gl h328 125 24)), none, some (.long (Int64.ofInt (pw_gm h328 125 25))), none, some (pw_i k42_16)]) rfl rfl rfl rfl ?_
                          refine pw_inc E (pc' := 183) (ls' := [some (.ref 141), some (pw_i wt), some (.long (k42_2 + (Int64.ofInt 1))), none, some (.long (k42_4 + (Int64.ofInt 1))), none, some (.long (k42_6 + (Int64.ofInt 1))), none, some (.long k42_8), none, some (.long (Int64.ofInt k42_10)), none, some (.long (pw_gl h328 125 24)), none, some (.long (Int64.ofInt (pw_gm h328 125 25))), none, some (pw_i (k42_16 + 1))]) rfl rfl rfl rfl ?_
                          refine pw_goto E (pc' := 42) rfl (by decide) ?_
                          exact ih42 _ (by omega) (k42_2 + (Int64.ofInt 1)) (k42_4 + (Int64.ofInt 1)) (k42_6 + (Int64.ofInt 1)) (k42_8) (k42_10) (pw_gl h328 125 24) (pw_gm h328 125 25) (k42_16 + 1) h328 h328I h328F (by omega) (by omega) (by omega) (by omega) (by omega) (by omega)  rfl
                    · intro hc389
                      have hc389 : ¬ (c377 = (0 : Int)) := hc389
                      refine pw_ld E (pc' := 109) (st' := [.ref 141]) rfl (fun _ => rfl) ?_
                      refine pw_getL h328I E (c := 125) (k := 24) (pc' := 112) rfl rfl rfl rfl rfl rfl ?_
                      refine pw_ld E (pc' := 114) (st' := [.long (Int64.ofInt k42_14), .long (pw_gl h328 125 24)]) rfl (fun _ => rfl) ?_
                      refine pw_ld E (pc' := 115) (st' := [.long ((pw_gl h328 125 24) * (Int64.ofInt k42_14))]) rfl (fun _ => rfl) ?_
                      refine pw_ld E (pc' := 117) (st' := [.long k42_12, .long ((pw_gl h328 125 24) * (Int64.ofInt k42_14))]) rfl (fun _ => rfl) ?_
                      refine pw_ld E (pc' := 118) (st' := [.ref 141, .long k42_12, .long ((pw_gl h328 125 24) * (Int64.ofInt k42_14))]) rfl (fun _ => rfl) ?_
                      refine pw_getM h328I E (c := 125) (k := 25) (pc' := 121) rfl rfl rfl rfl rfl rfl (fun hf390a hf390b => ?_)
                      refine pw_ld E (pc' := 122) (st' := [.long (k42_12 * (Int64.ofInt (pw_gm h328 125 25))), .long ((pw_gl h328 125 24) * (Int64.ofInt k42_14))]) rfl (fun _ => rfl) ?_
                      refine pw_lcmp E (pc' := 123) rfl rfl (fun c391 hc391 => ?_)
                      refine pw_if E (pc' := 138) rfl (by decide) (by omega) (by omega) ?_ ?_
                      · intro hc392
                        have hc392 : c391 ≤ (0 : Int) := hc392
                        refine pw_ld E (pc' := 139) (st' := [.long k42_2]) rfl (fun _ => rfl) ?_
                        refine pw_ld E (pc' := 140) (st' := [.long (Int64.ofInt 1), .long k42_2]) rfl (fun _ => rfl) ?_
                        refine pw_ld E (pc' := 141) (st' := [.long (k42_2 + (Int64.ofInt 1))]) rfl (fun _ => rfl) ?_
                        refine pw_lstn E (pc' := 142) (ls' := [some (.ref 141), some (pw_i wt), some (.long (k42_2 + (Int64.ofInt 1))), none, some (.long k42_4), none, some (.long k42_6), none, some (.long k42_8), none, some (.long (Int64.ofInt k42_10)), none, some (.long k42_12), none, some (.long (Int64.ofInt k42_14)), none, some (pw_i k42_16)]) rfl rfl rfl rfl ?_
                        refine pw_ld E (pc' := 144) (st' := [.long k42_4]) rfl (fun _ => rfl) ?_
                        refine pw_ld E (pc' := 145) (st' := [.ref 141, .long k42_4]) rfl (fun _ => rfl) ?_
                        refine pw_getL h328I E (c := 125) (k := 24) (pc' := 148) rfl rfl rfl rfl rfl rfl ?_
                        refine pw_ld E (pc' := 149) (st' := [.long (Int64.ofInt 0), .long (pw_gl h328 125 24), .long k42_4]) rfl (fun _ => rfl) ?_
                        refine pw_lcmp E (pc' := 150) rfl rfl (fun c393 hc393 => ?_)
                        refine pw_if E (pc' := 157) rfl (by decide) (by omega) (by omega) ?_ ?_
                        · intro hc394
                          have hc394 : (0 : Int) ≤ c393 := hc394
                          refine pw_ld E (pc' := 158) (st' := [.long (Int64.ofInt 0), .long k42_4]) rfl (fun _ => rfl) ?_
                          refine pw_ld E (pc' := 159) (st' := [.long (k42_4 + (Int64.ofInt 0))]) rfl (fun _ => rfl) ?_
                          refine pw_lst E (pc' := 161) (ls' := [some (.ref 141), some (pw_i wt), some (.long (k42_2 + (Int64.ofInt 1))), none, some (.long (k42_4 + (Int64.ofInt 0))), none, some (.long k42_6), none, some (.long k42_8), none, some (.long (Int64.ofInt k42_10)), none, some (.long k42_12), none, some (.long (Int64.ofInt k42_14)), none, some (pw_i k42_16)]) rfl rfl rfl rfl ?_
                          refine pw_ld E (pc' := 163) (st' := [.long k42_6]) rfl (fun _ => rfl) ?_
                          refine pw_ld E (pc' := 164) (st' := [.ref 141, .long k42_6]) rfl (fun _ => rfl) ?_
                          refine pw_getL h328I E (c := 125) (k := 24) (pc' := 167) rfl rfl rfl rfl rfl rfl ?_
                          refine pw_ld E (pc' := 168) (st' := [.long (Int64.ofInt 0), .long (pw_gl h328 125 24), .long k42_6]) rfl (fun _ => rfl) ?_
                          refine pw_lcmp E (pc' := 169) rfl rfl (fun c395 hc395 => ?_)
                          refine pw_if E (pc' := 176) rfl (by decide) (by omega) (by omega) ?_ ?_
                          · intro hc396
                            have hc396 : c395 ≤ (0 : Int) := hc396
                            refine pw_ld E (pc' := 177) (st' := [.long (Int64.ofInt 0), .long k42_6]) rfl (fun _ => rfl) ?_
                            refine pw_ld E (pc' := 178) (st' := [.long (k42_6 + (Int64.ofInt 0))]) rfl (fun _ => rfl) ?_
                            refine pw_lst E (pc' := 180) (ls' := [some (.ref 141), some (pw_i wt), some (.long (k42_2 + (Int64.ofInt 1))), none, some (.long (k42_4 + (Int64.ofInt 0))), none, some (.long (k42_6 + (Int64.ofInt 0))), none, some (.long k42_8), none, some (.long (Int64.ofInt k42_10)), none, some (.long k42_12), none, some (.long (Int64.ofInt k42_14)), none, some (pw_i k42_16)]) rfl rfl rfl rfl ?_
                            refine pw_inc E (pc' := 183) (ls' := [some (.ref 141), some (pw_i wt), some (.long (k42_2 + (Int64.ofInt 1))), none, some (.long (k42_4 + (Int64.ofInt 0))), none, some (.long (k42_6 + (Int64.ofInt 0))), none, some (.long k42_8), none, some (.long (Int64.ofInt k42_10)), none, some (.long k42_12), none, some (.long (Int64.ofInt k42_14)), none, some (pw_i (k42_16 + 1))]) rfl rfl rfl rfl ?_
                            refine pw_goto E (pc' := 42) rfl (by decide) ?_
                            exact ih42 _ (by omega) (k42_2 + (Int64.ofInt 1)) (k42_4 + (Int64.ofInt 0)) (k42_6 + (Int64.ofInt 0)) (k42_8) (k42_10) (k42_12) (k42_14) (k42_16 + 1) h328 h328I h328F (by omega) (by omega) (by omega) (by omega) (by omega) (by omega)  rfl
                          · intro hc397
                            have hc397 : ¬ (c395 ≤ (0 : Int)) := hc397
                            refine pw_ld E (pc' := 173) (st' := [.long (Int64.ofInt 1), .long k42_6]) rfl (fun _ => rfl) ?_
                            refine pw_goto E (pc' := 177) rfl (by decide) ?_
                            refine pw_ld E (pc' := 178) (st' := [.long (k42_6 + (Int64.ofInt 1))]) rfl (fun _ => rfl) ?_
                            refine pw_lst E (pc' := 180) (ls' := [some (.ref 141), some (pw_i wt), some (.long (k42_2 + (Int64.ofInt 1))), none, some (.long (k42_4 + (Int64.ofInt 0))), none, some (.long (k42_6 + (Int64.ofInt 1))), none, some (.long k42_8), none, some (.long (Int64.ofInt k42_10)), none, some (.long k42_12), none, some (.long (Int64.ofInt k42_14)), none, some (pw_i k42_16)]) rfl rfl rfl rfl ?_
                            refine pw_inc E (pc' := 183) (ls' := [some (.ref 141), some (pw_i wt), some (.long (k42_2 + (Int64.ofInt 1))), none, some (.long (k42_4 + (Int64.ofInt 0))), none, some (.long (k42_6 + (Int64.ofInt 1))), none, some (.long k42_8), none, some (.long (Int64.ofInt k42_10)), none, some (.long k42_12), none, some (.long (Int64.ofInt k42_14)), none, some (pw_i (k42_16 + 1))]) rfl rfl rfl rfl ?_
                            refine pw_goto E (pc' := 42) rfl (by decide) ?_
                            exact ih42 _ (by omega) (k42_2 + (Int64.ofInt 1)) (k42_4 + (Int64.ofInt 0)) (k42_6 + (Int64.ofInt 1)) (k42_8) (k42_10) (k42_12) (k42_14) (k42_16 + 1) h328 h328I h328F (by omega) (by omega) (by omega) (by omega) (by omega) (by omega)  rfl
                        · intro hc398
                          have hc398 : ¬ ((0 : Int) ≤ c393) := hc398
                          refine pw_ld E (pc' := 154) (st' := [.long (Int64.ofInt 1), .long k42_4]) rfl (fun _ => rfl) ?_
                          refine pw_goto E (pc' := 158) rfl (by decide) ?_
                          refine pw_ld E (pc' := 159) (st' := [.long (k42_4 + (Int64.ofInt 1))]) rfl (fun _ => rfl) ?_
                          refine pw_lst E (pc' := 161) (ls' := [some (.ref 141), some (pw_i wt), some (.long (k42_2 + (Int64.ofInt 1))), none, some (.long (k42_4 + (Int64.ofInt 1))), none, some (.long k42_6), none, some (.long k42_8), none, some (.long (Int64.ofInt k42_10)), none, some (.long k42_12), none, some (.long (Int64.ofInt k42_14)), none, some (pw_i k42_16)]) rfl rfl rfl rfl ?_
                          refine pw_ld E (pc' := 163) (st' := [.long k42_6]) rfl (fun _ => rfl) ?_
                          refine pw_ld E (pc' := 164) (st' := [.ref 141, .long k42_6]) rfl (fun _ => rfl) ?_
                          refine pw_getL h328I E (c := 125) (k := 24) (pc' := 167) rfl rfl rfl rfl rfl rfl ?_
                          refine pw_ld E (pc' := 168) (st' := [.long (Int64.ofInt 0), .long (pw_gl h328 125 24), .long k42_6]) rfl (fun _ => rfl) ?_
                          refine pw_lcmp E (pc' := 169) rfl rfl (fun c399 hc399 => ?_)
                          refine pw_if E (pc' := 176) rfl (by decide) (by omega) (by omega) ?_ ?_
                          · intro hc400
                            have hc400 : c399 ≤ (0 : Int) := hc400
                            refine pw_ld E (pc' := 177) (st' := [.long (Int64.ofInt 0), .long k42_6]) rfl (fun _ => rfl) ?_
                            refine pw_ld E (pc' := 178) (st' := [.long (k42_6 + (Int64.ofInt 0))]) rfl (fun _ => rfl) ?_
                            refine pw_lst E (pc' := 180) (ls' := [some (.ref 141), some (pw_i wt), some (.long (k42_2 + (Int64.ofInt 1))), none, some (.long (k42_4 + (Int64.ofInt 1))), none, some (.long (k42_6 + (Int64.ofInt 0))), none, some (.long k42_8), none, some (.long (Int64.ofInt k42_10)), none, some (.long k42_12), none, some (.long (Int64.ofInt k42_14)), none, some (pw_i k42_16)]) rfl rfl rfl rfl ?_
                            refine pw_inc E (pc' := 183) (ls' := [some (.ref 141), some (pw_i wt), some (.long (k42_2 + (Int64.ofInt 1))), none, some (.long (k42_4 + (Int64.ofInt 1))), none, some (.long (k42_6 + (Int64.ofInt 0))), none, some (.long k42_8), none, some (.long (Int64.ofInt k42_10)), none, some (.long k42_12), none, some (.long (Int64.ofInt k42_14)), none, some (pw_i (k42_16 + 1))]) rfl rfl rfl rfl ?_
                            refine pw_goto E (pc' := 42) rfl (by decide) ?_
                            exact ih42 _ (by omega) (k42_2 + (Int64.ofInt 1)) (k42_4 + (Int64.ofInt 1)) (k42_6 + (Int64.ofInt 0)) (k42_8) (k42_10) (k42_12) (k42_14) (k42_16 + 1) h328 h328I h328F (by omega) (by omega) (by omega) (by omega) (by omega) (by omega)  rfl
                          · intro hc401
                            have hc401 : ¬ (c399 ≤ (0 : Int)) := hc401
                            refine pw_ld E (pc' := 173) (st' := [.long (Int64.ofInt 1), .long k42_6]) rfl (fun _ => rfl) ?_
                            refine pw_goto E (pc' := 177) rfl (by decide) ?_
                            refine pw_ld E (pc' := 178) (st' := [.long (k42_6 + (Int64.ofInt 1))]) rfl (fun _ => rfl) ?_
                            refine pw_lst E (pc' := 180) (ls' := [some (.ref 141), some (pw_i wt), some (.long (k42_2 + (Int64.ofInt 1))), none, some (.long (k42_4 + (Int64.ofInt 1))), none, some (.long (k42_6 + (Int64.ofInt 1))), none, some (.long k42_8), none, some (.long (Int64.ofInt k42_10)), none, some (.long k42_12), none, some (.long (Int64.ofInt k42_14)), none, some (pw_i k42_16)]) rfl rfl rfl rfl ?_
                            refine pw_inc E (pc' := 183) (ls' := [some (.ref 141), some (pw_i wt), some (.long (k42_2 + (Int64.ofInt 1))), none, some (.long (k42_4 + (Int64.ofInt 1))), none, some (.long (k42_6 + (Int64.ofInt 1))), none, some (.long k42_8), none, some (.long (Int64.ofInt k42_10)), none, some (.long k42_12), none, some (.long (Int64.ofInt k42_14)), none, some (pw_i (k42_16 + 1))]) rfl rfl rfl rfl ?_
                            refine pw_goto E (pc' := 42) rfl (by decide) ?_
                            exact ih42 _ (by omega) (k42_2 + (Int64.ofInt 1)) (k42_4 + (Int64.ofInt 1)) (k42_6 + (Int64.ofInt 1)) (k42_8) (k42_10) (k42_12) (k42_14) (k42_16 + 1) h328 h328I h328F (by omega) (by omega) (by omega) (by omega) (by omega) (by omega)  rfl
                      · intro hc402
                        have hc402 : ¬ (c391 ≤ (0 : Int)) := hc402
                        refine pw_ld E (pc' := 127) (st' := [.ref 141]) rfl (fun _ => rfl) ?_
                        refine pw_getL h328I E (c := 125) (k := 24) (pc' := 130) rfl rfl rfl rfl rfl rfl ?_
                        refine pw_lst E (pc' := 132) (ls' := [some (.ref 141), some (pw_i wt), some (.long k42_2), none, some (.long k42_4), none, some (.long k42_6), none, some (.long k42_8), none, some (.long (Int64.ofInt k42_10)), none, some (.long (pw_gl h328 125 24)), none, some (.long (Int64.ofInt k42_14)), none, some (pw_i k42_16)]) rfl rfl rfl rfl ?_
                        refine pw_ld E (pc' := 133) (st' := [.ref 141]) rfl (fun _ => rfl) ?_
                        refine pw_getM h328I E (c := 125) (k := 25) (pc' := 136) rfl rfl rfl rfl rfl rfl (fun hf403a hf403b => ?_)
                        refine pw_lst E (pc' := 138) (ls' := [some (.ref 141), some (pw_i wt), some (.long k42_2), none, some (.long k42_4), none, some (.long k42_6), none, some (.long k42_8), none, some (.long (Int64.ofInt k42_10)), none, some (.long (pw_gl h328 125 24)), none, some (.long (Int64.ofInt (pw_gm h328 125 25))), none, some (pw_i k42_16)]) rfl rfl rfl rfl ?_
                        refine pw_ld E (pc' := 139) (st' := [.long k42_2]) rfl (fun _ => rfl) ?_
                        refine pw_ld E (pc' := 140) (st' := [.long (Int64.ofInt 1), .long k42_2]) rfl (fun _ => rfl) ?_
                        refine pw_ld E (pc' := 141) (st' := [.long (k42_2 + (Int64.ofInt 1))]) rfl (fun _ => rfl) ?_
                        refine pw_lstn E (pc' := 142) (ls' := [some (.ref 141), some (pw_i wt), some (.long (k42_2 + (Int64.ofInt 1))), none, some (.long k42_4), none, some (.long k42_6), none, some (.long k42_8), none, some (.long (Int64.ofInt k42_10)), none, some (.long (pw_gl h328 125 24)), none, some (.long (Int64.ofInt (pw_gm h328 125 25))), none, some (pw_i k42_16)]) rfl rfl rfl rfl ?_
                        refine pw_ld E (pc' := 144) (st' := [.long k42_4]) rfl (fun _ => rfl) ?_
                        refine pw_ld E (pc' := 145) (st' := [.ref 141, .long k42_4]) rfl (fun _ => rfl) ?_
                        refine pw_getL h328I E (c := 125) (k := 24) (pc' := 148) rfl rfl rfl rfl rfl rfl ?_
                        refine pw_ld E (pc' := 149) (st' := [.long (Int64.ofInt 0), .long (pw_gl h328 125 24), .long k42_4]) rfl (fun _ => rfl) ?_
                        refine pw_lcmp E (pc' := 150) rfl rfl (fun c404 hc404 => ?_)
                        refine pw_if E (pc' := 157) rfl (by decide) (by omega) (by omega) ?_ ?_
                        · intro hc405
                          have hc405 : (0 : Int) ≤ c404 := hc405
                          refine pw_ld E (pc' := 158) (st' := [.long (Int64.ofInt 0), .long k42_4]) rfl (fun _ => rfl) ?_
                          refine pw_ld E (pc' := 159) (st' := [.long (k42_4 + (Int64.ofInt 0))]) rfl (fun _ => rfl) ?_
                          refine pw_lst E (pc' := 161) (ls' := [some (.ref 141), some (pw_i wt), some (.long (k42_2 + (Int64.ofInt 1))), none, some (.long (k42_4 + (Int64.ofInt 0))), none, some (.long k42_6), none, some (.long k42_8), none, some (.long (Int64.ofInt k42_10)), none, some (.long (pw_gl h328 125 24)), none, some (.long (Int64.ofInt (pw_gm h328 125 25))), none, some (pw_i k42_16)]) rfl rfl rfl rfl ?_
                          refine pw_ld E (pc' := 163) (st' := [.long k42_6]) rfl (fun _ => rfl) ?_
                          refine pw_ld E (pc' := 164) (st' := [.ref 141, .long k42_6]) rfl (fun _ => rfl) ?_
                          refine pw_getL h328I E (c := 125) (k := 24) (pc' := 167) rfl rfl rfl rfl rfl rfl ?_
                          refine pw_ld E (pc' := 168) (st' := [.long (Int64.ofInt 0), .long (pw_gl h328 125 24), .long k42_6]) rfl (fun _ => rfl) ?_
                          refine pw_lcmp E (pc' := 169) rfl rfl (fun c406 hc406 => ?_)
                          refine pw_if E (pc' := 176) rfl (by decide) (by omega) (by omega) ?_ ?_
                          · intro hc407
                            have hc407 : c406 ≤ (0 : Int) := hc407
                            refine pw_ld E (pc' := 177) (st' := [.long (Int64.ofInt 0), .long k42_6]) rfl (fun _ => rfl) ?_
                            refine pw_ld E (pc' := 178) (st' := [.long (k42_6 + (Int64.ofInt 0))]) rfl (fun _ => rfl) ?_
                            refine pw_lst E (pc' := 180) (ls' := [some (.ref 141), some (pw_i wt), some (.long (k42_2 + (Int64.ofInt 1))), none, some (.long (k42_4 + (Int64.ofInt 0))), none, some (.long (k42_6 + (Int64.ofInt 0))), none, some (.long k42_8), none, some (.long (Int64.ofInt k42_10)), none, some (.long (pw_gl h328 125 24)), none, some (.long (Int64.ofInt (pw_gm h328 125 25))), none, some (pw_i k42_16)]) rfl rfl rfl rfl ?_
                            refine pw_inc E (pc' := 183) (ls' := [some (.ref 141), some (pw_i wt), some (.long (k42_2 + (Int64.ofInt 1))), none, some (.long (k42_4 + (Int64.ofInt 0))), none, some (.long (k42_6 + (Int64.ofInt 0))), none, some (.long k42_8), none, some (.long (Int64.ofInt k42_10)), none, some (.long (pw_gl h328 125 24)), none, some (.long (Int64.ofInt (pw_gm h328 125 25))), none, some (pw_i (k42_16 + 1))]) rfl rfl rfl rfl ?_
                            refine pw_goto E (pc' := 42) rfl (by decide) ?_
                            exact ih42 _ (by omega) (k42_2 + (Int64.ofInt 1)) (k42_4 + (Int64.ofInt 0)) (k42_6 + (Int64.ofInt 0)) (k42_8) (k42_10) (pw_gl h328 125 24) (pw_gm h328 125 25) (k42_16 + 1) h328 h328I h328F (by omega) (by omega) (by omega) (by omega) (by omega) (by omega)  rfl
                          · intro hc408
                            have hc408 : ¬ (c406 ≤ (0 : Int)) := hc408
                            refine pw_ld E (pc' := 173) (st' := [.long (Int64.ofInt 1), .long k42_6]) rfl (fun _ => rfl) ?_
                            refine pw_goto E (pc' := 177) rfl (by decide) ?_
                            refine pw_ld E (pc' := 178) (st' := [.long (k42_6 + (Int64.ofInt 1))]) rfl (fun _ => rfl) ?_
                            refine pw_lst E (pc' := 180) (ls' := [some (.ref 141), some (pw_i wt), some (.long (k42_2 + (Int64.ofInt 1))), none, some (.long (k42_4 + (Int64.ofInt 0))), none, some (.long (k42_6 + (Int64.ofInt 1))), none, some (.long k42_8), none, some (.long (Int64.ofInt k42_10)), none, some (.long (pw_gl h328 125 24)), none, some (.long (Int64.ofInt (pw_gm h328 125 25))), none, some (pw_i k42_16)]) rfl rfl rfl rfl ?_
                            refine pw_inc E (pc' := 183) (ls' := [some (.ref 141), some (pw_i wt), some (.long (k42_2 + (Int64.ofInt 1))), none, some (.long (k42_4 + (Int64.ofInt 0))), none, some (.long (k42_6 + (Int64.ofInt 1))), none, some (.long k42_8), none, some (.long (Int64.ofInt k42_10)), none, some (.long (pw_gl h328 125 24)), none, some (.long (Int64.ofInt (pw_gm h328 125 25))), none, some (pw_i (k42_16 + 1))]) rfl rfl rfl rfl ?_
                            refine pw_goto E (pc' := 42) rfl (by decide) ?_
                            exact ih42 _ (by omega) (k42_2 + (Int64.ofInt 1)) (k42_4 + (Int64.ofInt 0)) (k42_6 + (Int64.ofInt 1)) (k42_8) (k42_10) (pw_gl h328 125 24) (pw_gm h328 125 25) (k42_16 + 1) h328 h328I h328F (by omega) (by omega) (by omega) (by omega) (by omega) (by omega)  rfl
                        · intro hc409
                          have hc409 : ¬ ((0 : Int) ≤ c404) := hc409
                          refine pw_ld E (pc' := 154) (st' := [.long (Int64.ofInt 1), .long k42_4]) rfl (fun _ => rfl) ?_
                          refine pw_goto E (pc' := 158) rfl (by decide) ?_
                          refine pw_ld E (pc' := 159) (st' := [.long (k42_4 + (Int64.ofInt 1))]) rfl (fun _ => rfl) ?_
                          refine pw_lst E (pc' := 161) (ls' := [some (.ref 141), some (pw_i wt), some (.long (k42_2 + (Int64.ofInt 1))), none, some (.long (k42_4 + (Int64.ofInt 1))), none, some (.long k42_6), none, some (.long k42_8), none, some (.long (Int64.ofInt k42_10)), none, some (.long (pw_gl h328 125 24)), none, some (.long (Int64.ofInt (pw_gm h328 125 25))), none, some (pw_i k42_16)]) rfl rfl rfl rfl ?_
                          refine pw_ld E (pc' := 163) (st' := [.long k42_6]) rfl (fun _ => rfl) ?_
                          refine pw_ld E (pc' := 164) (st' := [.ref 141, .long k42_6]) rfl (fun _ => rfl) ?_
                          refine pw_getL h328I E (c := 125) (k := 24) (pc' := 167) rfl rfl rfl rfl rfl rfl ?_
                          refine pw_ld E (pc' := 168) (st' := [.long (Int64.ofInt 0), .long (pw_gl h328 125 24), .long k42_6]) rfl (fun _ => rfl) ?_
                          refine pw_lcmp E (pc' := 169) rfl rfl (fun c410 hc410 => ?_)
                          refine pw_if E (pc' := 176) rfl (by decide) (by omega) (by omega) ?_ ?_
                          · intro hc411
                            have hc411 : c410 ≤ (0 : Int) := hc411
                            refine pw_ld E (pc' := 177) (st' := [.long (Int64.ofInt 0), .long k42_6]) rfl (fun _ => rfl) ?_
                            refine pw_ld E (pc' := 178) (st' := [.long (k42_6 + (Int64.ofInt 0))]) rfl (fun _ => rfl) ?_
                            refine pw_lst E (pc' := 180) (ls' := [some (.ref 141), some (pw_i wt), some (.long (k42_2 + (Int64.ofInt 1))), none, some (.long (k42_4 + (Int64.ofInt 1))), none, some (.long (k42_6 + (Int64.ofInt 0))), none, some (.long k42_8), none, some (.long (Int64.ofInt k42_10)), none, some (.long (pw_gl h328 125 24)), none, some (.long (Int64.ofInt (pw_gm h328 125 25))), none, some (pw_i k42_16)]) rfl rfl rfl rfl ?_
                            refine pw_inc E (pc' := 183) (ls' := [some (.ref 141), some (pw_i wt), some (.long (k42_2 + (Int64.ofInt 1))), none, some (.long (k42_4 + (Int64.ofInt 1))), none, some (.long (k42_6 + (Int64.ofInt 0))), none, some (.long k42_8), none, some (.long (Int64.ofInt k42_10)), none, some (.long (pw_gl h328 125 24)), none, some (.long (Int64.ofInt (pw_gm h328 125 25))), none, some (pw_i (k42_16 + 1))]) rfl rfl rfl rfl ?_
                            refine pw_goto E (pc' := 42) rfl (by decide) ?_
                            exact ih42 _ (by omega) (k42_2 + (Int64.ofInt 1)) (k42_4 + (Int64.ofInt 1)) (k42_6 + (Int64.ofInt 0)) (k42_8) (k42_10) (pw_gl h328 125 24) (pw_gm h328 125 25) (k42_16 + 1) h328 h328I h328F (by omega) (by omega) (by omega) (by omega) (by omega) (by omega)  rfl
                          · intro hc412
                            have hc412 : ¬ (c410 ≤ (0 : Int)) := hc412
                            refine pw_ld E (pc' := 173) (st' := [.long (Int64.ofInt 1), .long k42_6]) rfl (fun _ => rfl) ?_
                            refine pw_goto E (pc' := 177) rfl (by decide) ?_
                            refine pw_ld E (pc' := 178) (st' := [.long (k42_6 + (Int64.ofInt 1))]) rfl (fun _ => rfl) ?_
                            refine pw_lst E (pc' := 180) (ls' := [some (.ref 141), some (pw_i wt), some (.long (k42_2 + (Int64.ofInt 1))), none, some (.long (k42_4 + (Int64.ofInt 1))), none, some (.long (k42_6 + (Int64.ofInt 1))), none, some (.long k42_8), none, some (.long (Int64.ofInt k42_10)), none, some (.long (pw_gl h328 125 24)), none, some (.long (Int64.ofInt (pw_gm h328 125 25))), none, some (pw_i k42_16)]) rfl rfl rfl rfl ?_
                            refine pw_inc E (pc' := 183) (ls' := [some (.ref 141), some (pw_i wt), some (.long (k42_2 + (Int64.ofInt 1))), none, some (.long (k42_4 + (Int64.ofInt 1))), none, some (.long (k42_6 + (Int64.ofInt 1))), none, some (.long k42_8), none, some (.long (Int64.ofInt k42_10)), none, some (.long (pw_gl h328 125 24)), none, some (.long (Int64.ofInt (pw_gm h328 125 25))), none, some (pw_i (k42_16 + 1))]) rfl rfl rfl rfl ?_
                            refine pw_goto E (pc' := 42) rfl (by decide) ?_
                            exact ih42 _ (by omega) (k42_2 + (Int64.ofInt 1)) (k42_4 + (Int64.ofInt 1)) (k42_6 + (Int64.ofInt 1)) (k42_8) (k42_10) (pw_gl h328 125 24) (pw_gm h328 125 25) (k42_16 + 1) h328 h328I h328F (by omega) (by omega) (by omega) (by omega) (by omega) (by omega)  rfl
                  · intro hc413
                    have hc413 : ¬ ((0 : Int) ≤ c375) := hc413
                    refine pw_ld E (pc' := 91) (st' := [.ref 141]) rfl (fun _ => rfl) ?_
                    refine pw_getL h328I E (c := 125) (k := 24) (pc' := 94) rfl rfl rfl rfl rfl rfl ?_
                    refine pw_lst E (pc' := 96) (ls' := [some (.ref 141), some (pw_i wt), some (.long k42_2), none, some (.long k42_4), none, some (.long k42_6), none, some (.long (pw_gl h328 125 24)), none, some (.long (Int64.ofInt k42_10)), none, some (.long k42_12), none, some (.long (Int64.ofInt k42_14)), none, some (pw_i k42_16)]) rfl rfl rfl rfl ?_
                    refine pw_ld E (pc' := 97) (st' := [.ref 141]) rfl (fun _ => rfl) ?_
                    refine pw_getM h328I E (c := 125) (k := 25) (pc' := 100) rfl rfl rfl rfl rfl rfl (fun hf414a hf414b => ?_)
                    refine pw_lst E (pc' := 102) (ls' := [some (.ref 141), some (pw_i wt), some (.long k42_2), none, some (.long k42_4), none, some (.long k42_6), none, some (.long (pw_gl h328 125 24)), none, some (.long (Int64.ofInt (pw_gm h328 125 25))), none, some (.long k42_12), none, some (.long (Int64.ofInt k42_14)), none, some (pw_i k42_16)]) rfl rfl rfl rfl ?_
                    refine pw_ld E (pc' := 103) (st' := [.long k42_2]) rfl (fun _ => rfl) ?_
                    refine pw_ld E (pc' := 104) (st' := [.long (Int64.ofInt 0), .long k42_2]) rfl (fun _ => rfl) ?_
                    refine pw_lcmp E (pc' := 105) rfl rfl (fun c415 hc415 => ?_)
                    refine pw_if E (pc' := 126) rfl (by decide) (by omega) (by omega) ?_ ?_
                    · intro hc416
                      have hc416 : c415 = (0 : Int) := hc416
                      refine pw_ld E (pc' := 127) (st' := [.ref 141]) rfl (fun _ => rfl) ?_
                      refine pw_getL h328I E (c := 125) (k := 24) (pc' := 130) rfl rfl rfl rfl rfl rfl ?_
                      refine pw_lst E (pc' := 132) (ls' := [some (.ref 141), some (pw_i wt), some (.long k42_2), none, some (.long k42_4), none, some (.long k42_6), none, some (.long (pw_gl h328 125 24)), none, some (.long (Int64.ofInt (pw_gm h328 125 25))), none, some (.long (pw_gl h328 125 24)), none, some (.long (Int64.ofInt k42_14)), none, some (pw_i k42_16)]) rfl rfl rfl rfl ?_
                      refine pw_ld E (pc' := 133) (st' := [.ref 141]) rfl (fun _ => rfl) ?_
                      refine pw_getM h328I E (c := 125) (k := 25) (pc' := 136) rfl rfl rfl rfl rfl rfl (fun hf417a hf417b => ?_)
                      refine pw_lst E (pc' := 138) (ls' := [some (.ref 141), some (pw_i wt), some (.long k42_2), none, some (.long k42_4), none, some (.long k42_6), none, some (.long (pw_gl h328 125 24)), none, some (.long (Int64.ofInt (pw_gm h328 125 25))), none, some (.long (pw_gl h328 125 24)), none, some (.long (Int64.ofInt (pw_gm h328 125 25))), none, some (pw_i k42_16)]) rfl rfl rfl rfl ?_
                      refine pw_ld E (pc' := 139) (st' := [.long k42_2]) rfl (fun _ => rfl) ?_
                      refine pw_ld E (pc' := 140) (st' := [.long (Int64.ofInt 1), .long k42_2]) rfl (fun _ => rfl) ?_
                      refine pw_ld E (pc' := 141) (st' := [.long (k42_2 + (Int64.ofInt 1))]) rfl (fun _ => rfl) ?_
                      refine pw_lstn E (pc' := 142) (ls' := [some (.ref 141), some (pw_i wt), some (.long (k42_2 + (Int64.ofInt 1))), none, some (.long k42_4), none, some (.long k42_6), none, some (.long (pw_gl h328 125 24)), none, some (.long (Int64.ofInt (pw_gm h328 125 25))), none, some (.long (pw_gl h328 125 24)), none, some (.long (Int64.ofInt (pw_gm h328 125 25))), none, some (pw_i k42_16)]) rfl rfl rfl rfl ?_
                      refine pw_ld E (pc' := 144) (st' := [.long k42_4]) rfl (fun _ => rfl) ?_
                      refine pw_ld E (pc' := 145) (st' := [.ref 141, .long k42_4]) rfl (fun _ => rfl) ?_
                      refine pw_getL h328I E (c := 125) (k := 24) (pc' := 148) rfl rfl rfl rfl rfl rfl ?_
                      refine pw_ld E (pc' := 149) (st' := [.long (Int64.ofInt 0), .long (pw_gl h328 125 24), .long k42_4]) rfl (fun _ => rfl) ?_
                      refine pw_lcmp E (pc' := 150) rfl rfl (fun c418 hc418 => ?_)
                      refine pw_if E (pc' := 157) rfl (by decide) (by omega) (by omega) ?_ ?_
                      · intro hc419
                        have hc419 : (0 : Int) ≤ c418 := hc419
                        refine pw_ld E (pc' := 158) (st' := [.long (Int64.ofInt 0), .long k42_4]) rfl (fun _ => rfl) ?_
                        refine pw_ld E (pc' := 159) (st' := [.long (k42_4 + (Int64.ofInt 0))]) rfl (fun _ => rfl) ?_
                        refine pw_lst E (pc' := 161) (ls' := [some (.ref 141), some (pw_i wt), some (.long (k42_2 + (Int64.ofInt 1))), none, some (.long (k42_4 + (Int64.ofInt 0))), none, some (.long k42_6), none, some (.long (pw_gl h328 125 24)), none, some (.long (Int64.ofInt (pw_gm h328 125 25))), none, some (.long (pw_gl h328 125 24)), none, some (.long (Int64.ofInt (pw_gm h328 125 25))), none, some (pw_i k42_16)]) rfl rfl rfl rfl ?_
                        refine pw_ld E (pc' := 163) (st' := [.long k42_6]) rfl (fun _ => rfl) ?_
                        refine pw_ld E (pc' := 164) (st' := [.ref 141, .long k42_6]) rfl (fun _ => rfl) ?_
                        refine pw_getL h328I E (c := 125) (k := 24) (pc' := 167) rfl rfl rfl rfl rfl rfl ?_
                        refine pw_ld E (pc' := 168) (st' := [.long (Int64.ofInt 0), .long (pw_gl h328 125 24), .long k42_6]) rfl (fun _ => rfl) ?_
                        refine pw_lcmp E (pc' := 169) rfl rfl (fun c420 hc420 => ?_)
                        refine pw_if E (pc' := 176) rfl (by decide) (by omega) (by omega) ?_ ?_
                        · intro hc421
                          have hc421 : c420 ≤ (0 : Int) := hc421
                          refine pw_ld E (pc' := 177) (st' := [.long (Int64.ofInt 0), .long k42_6]) rfl (fun _ => rfl) ?_
                          refine pw_ld E (pc' := 178) (st' := [.long (k42_6 + (Int64.ofInt 0))]) rfl (fun _ => rfl) ?_
                          refine pw_lst E (pc' := 180) (ls' := [some (.ref 141), some (pw_i wt), some (.long (k42_2 + (Int64.ofInt 1))), none, some (.long (k42_4 + (Int64.ofInt 0))), none, some (.long (k42_6 + (Int64.ofInt 0))), none, some (.long (pw_gl h328 125 24)), none, some (.long (Int64.ofInt (pw_gm h328 125 25))), none, some (.long (pw_gl h328 125 24)), none, some (.long (Int64.ofInt (pw_gm h328 125 25))), none, some (pw_i k42_16)]) rfl rfl rfl rfl ?_
                          refine pw_inc E (pc' := 183) (ls' := [some (.ref 141), some (pw_i wt), some (.long (k42_2 + (Int64.ofInt 1))), none, some (.long (k42_4 + (Int64.ofInt 0))), none, some (.long (k42_6 + (Int64.ofInt 0))), none, some (.long (pw_gl h328 125 24)), none, some (.long (Int64.ofInt (pw_gm h328 125 25))), none, some (.long (pw_gl h328 125 24)), none, some (.long (Int64.ofInt (pw_gm h328 125 25))), none, some (pw_i (k42_16 + 1))]) rfl rfl rfl rfl ?_
                          refine pw_goto E (pc' := 42) rfl (by decide) ?_
                          exact ih42 _ (by omega) (k42_2 + (Int64.ofInt 1)) (k42_4 + (Int64.ofInt 0)) (k42_6 + (Int64.ofInt 0)) (pw_gl h328 125 24) (pw_gm h328 125 25) (pw_gl h328 125 24) (pw_gm h328 125 25) (k42_16 + 1) h328 h328I h328F (by omega) (by omega) (by omega) (by omega) (by omega) (by omega)  rfl
                        · intro hc422
                          have hc422 : ¬ (c420 ≤ (0 : Int)) := hc422
                          refine pw_ld E (pc' := 173) (st' := [.long (Int64.ofInt 1), .long k42_6]) rfl (fun _ => rfl) ?_
                          refine pw_goto E (pc' := 177) rfl (by decide) ?_
                          refine pw_ld E (pc' := 178) (st' := [.long (k42_6 + (Int64.ofInt 1))]) rfl (fun _ => rfl) ?_
                          refine pw_lst E (pc' := 180) (ls' := [some (.ref 141), some (pw_i wt), some (.long (k42_2 + (Int64.ofInt 1))), none, some (.long (k42_4 + (Int64.ofInt 0))), none, some (.long (k42_6 + (Int64.ofInt 1))), none, some (.long (pw_gl h328 125 24)), none, some (.long (Int64.ofInt (pw_gm h328 125 25))), none, some (.long (pw_gl h328 125 24)), none, some (.long (Int64.ofInt (pw_gm h328 125 25))), none, some (pw_i k42_16)]) rfl rfl rfl rfl ?_
                          refine pw_inc E (pc' := 183) (ls' := [some (.ref 141), some (pw_i wt), some (.long (k42_2 + (Int64.ofInt 1))), none, some (.long (k42_4 + (Int64.ofInt 0))), none, some (.long (k42_6 + (Int64.ofInt 1))), none, some (.long (pw_gl h328 125 24)), none, some (.long (Int64.ofInt (pw_gm h328 125 25))), none, some (.long (pw_gl h328 125 24)), none, some (.long (Int64.ofInt (pw_gm h328 125 25))), none, some (pw_i (k42_16 + 1))]) rfl rfl rfl rfl ?_
                          refine pw_goto E (pc' := 42) rfl (by decide) ?_
                          exact ih42 _ (by omega) (k42_2 + (Int64.ofInt 1)) (k42_4 + (Int64.ofInt 0)) (k42_6 + (Int64.ofInt 1)) (pw_gl h328 125 24) (pw_gm h328 125 25) (pw_gl h328 125 24) (pw_gm h328 125 25) (k42_16 + 1) h328 h328I h328F (by omega) (by omega) (by omega) (by omega) (by omega) (by omega)  rfl
                      · intro hc423
                        have hc423 : ¬ ((0 : Int) ≤ c418) := hc423
                        refine pw_ld E (pc' := 154) (st' := [.long (Int64.ofInt 1), .long k42_4]) rfl (fun _ => rfl) ?_
                        refine pw_goto E (pc' := 158) rfl (by decide) ?_
                        refine pw_ld E (pc' := 159) (st' := [.long (k42_4 + (Int64.ofInt 1))]) rfl (fun _ => rfl) ?_
                        refine pw_lst E (pc' := 161) (ls' := [some (.ref 141), some (pw_i wt), some (.long (k42_2 + (Int64.ofInt 1))), none, some (.long (k42_4 + (Int64.ofInt 1))), none, some (.long k42_6), none, some (.long (pw_gl h328 125 24)), none, some (.long (Int64.ofInt (pw_gm h328 125 25))), none, some (.long (pw_gl h328 125 24)), none, some (.long (Int64.ofInt (pw_gm h328 125 25))), none, some (pw_i k42_16)]) rfl rfl rfl rfl ?_
                        refine pw_ld E (pc' := 163) (st' := [.long k42_6]) rfl (fun _ => rfl) ?_
                        refine pw_ld E (pc' := 164) (st' := [.ref 141, .long k42_6]) rfl (fun _ => rfl) ?_
                        refine pw_getL h328I E (c := 125) (k := 24) (pc' := 167) rfl rfl rfl rfl rfl rfl ?_
                        refine pw_ld E (pc' := 168) (st' := [.long (Int64.ofInt 0), .long (pw_gl h328 125 24), .long k42_6]) rfl (fun _ => rfl) ?_
                        refine pw_lcmp E (pc' := 169) rfl rfl (fun c424 hc424 => ?_)
                        refine pw_if E (pc' := 176) rfl (by decide) (by omega) (by omega) ?_ ?_
                        · intro hc425
                          have hc425 : c424 ≤ (0 : Int) := hc425
                          refine pw_ld E (pc' := 177) (st' := [.long (Int64.ofInt 0), .long k42_6]) rfl (fun _ => rfl) ?_
                          refine pw_ld E (pc' := 178) (st' := [.long (k42_6 + (Int64.ofInt 0))]) rfl (fun _ => rfl) ?_
                          refine pw_lst E (pc' := 180) (ls' := [some (.ref 141), some (pw_i wt), some (.long (k42_2 + (Int64.ofInt 1))), none, some (.long (k42_4 + (Int64.ofInt 1))), none, some (.long (k42_6 + (Int64.ofInt 0))), none, some (.long (pw_gl h328 125 24)), none, some (.long (Int64.ofInt (pw_gm h328 125 25))), none, some (.long (pw_gl h328 125 24)), none, some (.long (Int64.ofInt (pw_gm h328 125 25))), none, some (pw_i k42_16)]) rfl rfl rfl rfl ?_
                          refine pw_inc E (pc' := 183) (ls' := [some (.ref 141), some (pw_i wt), some (.long (k42_2 + (Int64.ofInt 1))), none, some (.long (k42_4 + (Int64.ofInt 1))), none, some (.long (k42_6 + (Int64.ofInt 0))), none, some (.long (pw_gl h328 125 24)), none, some (.long (Int64.ofInt (pw_gm h328 125 25))), none, some (.long (pw_gl h328 125 24)), none, some (.long (Int64.ofInt (pw_gm h328 125 25))), none, some (pw_i (k42_16 + 1))]) rfl rfl rfl rfl ?_
                          refine pw_goto E (pc' := 42) rfl (by decide) ?_
                          exact ih42 _ (by omega) (k42_2 + (Int64.ofInt 1)) (k42_4 + (Int64.ofInt 1)) (k42_6 + (Int64.ofInt 0)) (pw_gl h328 125 24) (pw_gm h328 125 25) (pw_gl h328 125 24) (pw_gm h328 125 25) (k42_16 + 1) h328 h328I h328F (by omega) (by omega) (by omega) (by omega) (by omega) (by omega)  rfl
                        · intro hc426
                          have hc426 : ¬ (c424 ≤ (0 : Int)) := hc426
                          refine pw_ld E (pc' := 173) (st' := [.long (Int64.ofInt 1), .long k42_6]) rfl (fun _ => rfl) ?_
                          refine pw_goto E (pc' := 177) rfl (by decide) ?_
                          refine pw_ld E (pc' := 178) (st' := [.long (k42_6 + (Int64.ofInt 1))]) rfl (fun _ => rfl) ?_
                          refine pw_lst E (pc' := 180) (ls' := [some (.ref 141), some (pw_i wt), some (.long (k42_2 + (Int64.ofInt 1))), none, some (.long (k42_4 + (Int64.ofInt 1))), none, some (.long (k42_6 + (Int64.ofInt 1))), none, some (.long (pw_gl h328 125 24)), none, some (.long (Int64.ofInt (pw_gm h328 125 25))), none, some (.long (pw_gl h328 125 24)), none, some (.long (Int64.ofInt (pw_gm h328 125 25))), none, some (pw_i k42_16)]) rfl rfl rfl rfl ?_
                          refine pw_inc E (pc' := 183) (ls' := [some (.ref 141), some (pw_i wt), some (.long (k42_2 + (Int64.ofInt 1))), none, some (.long (k42_4 + (Int64.ofInt 1))), none, some (.long (k42_6 + (Int64.ofInt 1))), none, some (.long (pw_gl h328 125 24)), none, some (.long (Int64.ofInt (pw_gm h328 125 25))), none, some (.long (pw_gl h328 125 24)), none, some (.long (Int64.ofInt (pw_gm h328 125 25))), none, some (pw_i (k42_16 + 1))]) rfl rfl rfl rfl ?_
                          refine pw_goto E (pc' := 42) rfl (by decide) ?_
                          exact ih42 _ (by omega) (k42_2 + (Int64.ofInt 1)) (k42_4 + (Int64.ofInt 1)) (k42_6 + (Int64.ofInt 1)) (pw_gl h328 125 24) (pw_gm h328 125 25) (pw_gl h328 125 24) (pw_gm h328 125 25) (k42_16 + 1) h328 h328I h328F (by omega) (by omega) (by omega) (by omega) (by omega) (by omega)  rfl
                    · intro hc427
                      have hc427 : ¬ (c415 = (0 : Int)) := hc427
                      refine pw_ld E (pc' := 109) (st' := [.ref 141]) rfl (fun _ => rfl) ?_
                      refine pw_getL h328I E (c := 125) (k := 24) (pc' := 112) rfl rfl rfl rfl rfl rfl ?_
                      refine pw_ld E (pc' := 114) (st' := [.long (Int64.ofInt k42_14), .long (pw_gl h328 125 24)]) rfl (fun _ => rfl) ?_
                      refine pw_ld E (pc' := 115) (st' := [.long ((pw_gl h328 125 24) * (Int64.ofInt k42_14))]) rfl (fun _ => rfl) ?_
                      refine pw_ld E (pc' := 117) (st' := [.long k42_12, .long ((pw_gl h328 125 24) * (Int64.ofInt k42_14))]) rfl (fun _ => rfl) ?_
                      refine pw_ld E (pc' := 118) (st' := [.ref 141, .long k42_12, .long ((pw_gl h328 125 24) * (Int64.ofInt k42_14))]) rfl (fun _ => rfl) ?_
                      refine pw_getM h328I E (c := 125) (k := 25) (pc' := 121) rfl rfl rfl rfl rfl rfl (fun hf428a hf428b => ?_)
                      refine pw_ld E (pc' := 122) (st' := [.long (k42_12 * (Int64.ofInt (pw_gm h328 125 25))), .long ((pw_gl h328 125 24) * (Int64.ofInt k42_14))]) rfl (fun _ => rfl) ?_
                      refine pw_lcmp E (pc' := 123) rfl rfl (fun c429 hc429 => ?_)
                      refine pw_if E (pc' := 138) rfl (by decide) (by omega) (by omega) ?_ ?_
                      · intro hc430
                        have hc430 : c429 ≤ (0 : Int) := hc430
                        refine pw_ld E (pc' := 139) (st' := [.long k42_2]) rfl (fun _ => rfl) ?_
                        refine pw_ld E (pc' := 140) (st' := [.long (Int64.ofInt 1), .long k42_2]) rfl (fun _ => rfl) ?_
                        refine pw_ld E (pc' := 141) (st' := [.long (k42_2 + (Int64.ofInt 1))]) rfl (fun _ => rfl) ?_
                        refine pw_lstn E (pc' := 142) (ls' := [some (.ref 141), some (pw_i wt), some (.long (k42_2 + (Int64.ofInt 1))), none, some (.long k42_4), none, some (.long k42_6), none, some (.long (pw_gl h328 125 24)), none, some (.long (Int64.ofInt (pw_gm h328 125 25))), none, some (.long k42_12), none, some (.long (Int64.ofInt k42_14)), none, some (pw_i k42_16)]) rfl rfl rfl rfl ?_
                        refine pw_ld E (pc' := 144) (st' := [.long k42_4]) rfl (fun _ => rfl) ?_
                        refine pw_ld E (pc' := 145) (st' := [.ref 141, .long k42_4]) rfl (fun _ => rfl) ?_
                        refine pw_getL h328I E (c := 125) (k := 24) (pc' := 148) rfl rfl rfl rfl rfl rfl ?_
                        refine pw_ld E (pc' := 149) (st' := [.long (Int64.ofInt 0), .long (pw_gl h328 125 24), .long k42_4]) rfl (fun _ => rfl) ?_
                        refine pw_lcmp E (pc' := 150) rfl rfl (fun c431 hc431 => ?_)
                        refine pw_if E (pc' := 157) rfl (by decide) (by omega) (by omega) ?_ ?_
                        · intro hc432
                          have hc432 : (0 : Int) ≤ c431 := hc432
                          refine pw_ld E (pc' := 158) (st' := [.long (Int64.ofInt 0), .long k42_4]) rfl (fun _ => rfl) ?_
                          refine pw_ld E (pc' := 159) (st' := [.long (k42_4 + (Int64.ofInt 0))]) rfl (fun _ => rfl) ?_
                          refine pw_lst E (pc' := 161) (ls' := [some (.ref 141), some (pw_i wt), some (.long (k42_2 + (Int64.ofInt 1))), none, some (.long (k42_4 + (Int64.ofInt 0))), none, some (.long k42_6), none, some (.long (pw_gl h328 125 24)), none, some (.long (Int64.ofInt (pw_gm h328 125 25))), none, some (.long k42_12), none, some (.long (Int64.ofInt k42_14)), none, some (pw_i k42_16)]) rfl rfl rfl rfl ?_
                          refine pw_ld E (pc' := 163) (st' := [.long k42_6]) rfl (fun _ => rfl) ?_
                          refine pw_ld E (pc' := 164) (st' := [.ref 141, .long k42_6]) rfl (fun _ => rfl) ?_
                          refine pw_getL h328I E (c := 125) (k := 24) (pc' := 167) rfl rfl rfl rfl rfl rfl ?_
                          refine pw_ld E (pc' := 168) (st' := [.long (Int64.ofInt 0), .long (pw_gl h328 125 24), .long k42_6]) rfl (fun _ => rfl) ?_
                          refine pw_lcmp E (pc' := 169) rfl rfl (fun c433 hc433 => ?_)
                          refine pw_if E (pc' := 176) rfl (by decide) (by omega) (by omega) ?_ ?_
                          · intro hc434
                            have hc434 : c433 ≤ (0 : Int) := hc434
                            refine pw_ld E (pc' := 177) (st' := [.long (Int64.ofInt 0), .long k42_6]) rfl (fun _ => rfl) ?_
                            refine pw_ld E (pc' := 178) (st' := [.long (k42_6 + (Int64.ofInt 0))]) rfl (fun _ => rfl) ?_
                            refine pw_lst E (pc' := 180) (ls' := [some (.ref 141), some (pw_i wt), some (.long (k42_2 + (Int64.ofInt 1))), none, some (.long (k42_4 + (Int64.ofInt 0))), none, some (.long (k42_6 + (Int64.ofInt 0))), none, some (.long (pw_gl h328 125 24)), none, some (.long (Int64.ofInt (pw_gm h328 125 25))), none, some (.long k42_12), none, some (.long (Int64.ofInt k42_14)), none, some (pw_i k42_16)]) rfl rfl rfl rfl ?_
                            refine pw_inc E (pc' := 183) (ls' := [some (.ref 141), some (pw_i wt), some (.long (k42_2 + (Int64.ofInt 1))), none, some (.long (k42_4 + (Int64.ofInt 0))), none, some (.long (k42_6 + (Int64.ofInt 0))), none, some (.long (pw_gl h328 125 24)), none, some (.long (Int64.ofInt (pw_gm h328 125 25))), none, some (.long k42_12), none, some (.long (Int64.ofInt k42_14)), none, some (pw_i (k42_16 + 1))]) rfl rfl rfl rfl ?_
                            refine pw_goto E (pc' := 42) rfl (by decide) ?_
                            exact ih42 _ (by omega) (k42_2 + (Int64.ofInt 1)) (k42_4 + (Int64.ofInt 0)) (k42_6 + (Int64.ofInt 0)) (pw_gl h328 125 24) (pw_gm h328 125 25) (k42_12) (k42_14) (k42_16 + 1) h328 h328I h328F (by omega) (by omega) (by omega) (by omega) (by omega) (by omega)  rfl
                          · intro hc435
                            have hc435 : ¬ (c433 ≤ (0 : Int)) := hc435
                            refine pw_ld E (pc' := 173) (st' := [.long (Int64.ofInt 1), .long k42_6]) rfl (fun _ => rfl) ?_
                            refine pw_goto E (pc' := 177) rfl (by decide) ?_
                            refine pw_ld E (pc' := 178) (st' := [.long (k42_6 + (Int64.ofInt 1))]) rfl (fun _ => rfl) ?_
                            refine pw_lst E (pc' := 180) (ls' := [some (.ref 141), some (pw_i wt), some (.long (k42_2 + (Int64.ofInt 1))), none, some (.long (k42_4 + (Int64.ofInt 0))), none, some (.long (k42_6 + (Int64.ofInt 1))), none, some (.long (pw_gl h328 125 24)), none, some (.long (Int64.ofInt (pw_gm h328 125 25))), none, some (.long k42_12), none, some (.long (Int64.ofInt k42_14)), none, some (pw_i k42_16)]) rfl rfl rfl rfl ?_
                            refine pw_inc E (pc' := 183) (ls' := [some (.ref 141), some (pw_i wt), some (.long (k42_2 + (Int64.ofInt 1))), none, some (.long (k42_4 + (Int64.ofInt 0))), none, some (.long (k42_6 + (Int64.ofInt 1))), none, some (.long (pw_gl h328 125 24)), none, some (.long (Int64.ofInt (pw_gm h328 125 25))), none, some (.long k42_12), none, some (.long (Int64.ofInt k42_14)), none, some (pw_i (k42_16 + 1))]) rfl rfl rfl rfl ?_
                            refine pw_goto E (pc' := 42) rfl (by decide) ?_
                            exact ih42 _ (by omega) (k42_2 + (Int64.ofInt 1)) (k42_4 + (Int64.ofInt 0)) (k42_6 + (Int64.ofInt 1)) (pw_gl h328 125 24) (pw_gm h328 125 25) (k42_12) (k42_14) (k42_16 + 1) h328 h328I h328F (by omega) (by omega) (by omega) (by omega) (by omega) (by omega)  rfl
                        · intro hc436
                          have hc436 : ¬ ((0 : Int) ≤ c431) := hc436
                          refine pw_ld E (pc' := 154) (st' := [.long (Int64.ofInt 1), .long k42_4]) rfl (fun _ => rfl) ?_
                          refine pw_goto E (pc' := 158) rfl (by decide) ?_
                          refine pw_ld E (pc' := 159) (st' := [.long (k42_4 + (Int64.ofInt 1))]) rfl (fun _ => rfl) ?_
                          refine pw_lst E (pc' := 161) (ls' := [some (.ref 141), some (pw_i wt), some (.long (k42_2 + (Int64.ofInt 1))), none, some (.long (k42_4 + (Int64.ofInt 1))), none, some (.long k42_6), none, some (.long (pw_gl h328 125 24)), none, some (.long (Int64.ofInt (pw_gm h328 125 25))), none, some (.long k42_12), none, some (.long (Int64.ofInt k42_14)), none, some (pw_i k42_16)]) rfl rfl rfl rfl ?_
                          refine pw_ld E (pc' := 163) (st' := [.long k42_6]) rfl (fun _ => rfl) ?_
                          refine pw_ld E (pc' := 164) (st' := [.ref 141, .long k42_6]) rfl (fun _ => rfl) ?_
                          refine pw_getL h328I E (c := 125) (k := 24) (pc' := 167) rfl rfl rfl rfl rfl rfl ?_
                          refine pw_ld E (pc' := 168) (st' := [.long (Int64.ofInt 0), .long (pw_gl h328 125 24), .long k42_6]) rfl (fun _ => rfl) ?_
                          refine pw_lcmp E (pc' := 169) rfl rfl (fun c437 hc437 => ?_)
                          refine pw_if E (pc' := 176) rfl (by decide) (by omega) (by omega) ?_ ?_
                          · intro hc438
                            have hc438 : c437 ≤ (0 : Int) := hc438
                            refine pw_ld E (pc' := 177) (st' := [.long (Int64.ofInt 0), .long k42_6]) rfl (fun _ => rfl) ?_
                            refine pw_ld E (pc' := 178) (st' := [.long (k42_6 + (Int64.ofInt 0))]) rfl (fun _ => rfl) ?_
                            refine pw_lst E (pc' := 180) (ls' := [some (.ref 141), some (pw_i wt), some (.long (k42_2 + (Int64.ofInt 1))), none, some (.long (k42_4 + (Int64.ofInt 1))), none, some (.long (k42_6 + (Int64.ofInt 0))), none, some (.long (pw_gl h328 125 24)), none, some (.long (Int64.ofInt (pw_gm h328 125 25))), none, some (.long k42_12), none, some (.long (Int64.ofInt k42_14)), none, some (pw_i k42_16)]) rfl rfl rfl rfl ?_
                            refine pw_inc E (pc' := 183) (ls' := [some (.ref 141), some (pw_i wt), some (.long (k42_2 + (Int64.ofInt 1))), none, some (.long (k42_4 + (Int64.ofInt 1))), none, some (.long (k42_6 + (Int64.ofInt 0))), none, some (.long (pw_gl h328 125 24)), none, some (.long (Int64.ofInt (pw_gm h328 125 25))), none, some (.long k42_12), none, some (.long (Int64.ofInt k42_14)), none, some (pw_i (k42_16 + 1))]) rfl rfl rfl rfl ?_
                            refine pw_goto E (pc' := 42) rfl (by decide) ?_
                            exact ih42 _ (by omega) (k42_2 + (Int64.ofInt 1)) (k42_4 + (Int64.ofInt 1)) (k42_6 + (Int64.ofInt 0)) (pw_gl h328 125 24) (pw_gm h328 125 25) (k42_12) (k42_14) (k42_16 + 1) h328 h328I h328F (by omega) (by omega) (by omega) (by omega) (by omega) (by omega)  rfl
                          · intro hc439
                            have hc439 : ¬ (c437 ≤ (0 : Int)) := hc439
                            refine pw_ld E (pc' := 173) (st' := [.long (Int64.ofInt 1), .long k42_6]) rfl (fun _ => rfl) ?_
                            refine pw_goto E (pc' := 177) rfl (by decide) ?_
                            refine pw_ld E (pc' := 178) (st' := [.long (k42_6 + (Int64.ofInt 1))]) rfl (fun _ => rfl) ?_
                            refine pw_lst E (pc' := 180) (ls' := [some (.ref 141), some (pw_i wt), some (.long (k42_2 + (Int64.ofInt 1))), none, some (.long (k42_4 + (Int64.ofInt 1))), none, some (.long (k42_6 + (Int64.ofInt 1))), none, some (.long (pw_gl h328 125 24)), none, some (.long (Int64.ofInt (pw_gm h328 125 25))), none, some (.long k42_12), none, some (.long (Int64.ofInt k42_14)), none, some (pw_i k42_16)]) rfl rfl rfl rfl ?_
                            refine pw_inc E (pc' := 183) (ls' := [some (.ref 141), some (pw_i wt), some (.long (k42_2 + (Int64.ofInt 1))), none, some (.long (k42_4 + (Int64.ofInt 1))), none, some (.long (k42_6 + (Int64.ofInt 1))), none, some (.long (pw_gl h328 125 24)), none, some (.long (Int64.ofInt (pw_gm h328 125 25))), none, some (.long k42_12), none, some (.long (Int64.ofInt k42_14)), none, some (pw_i (k42_16 + 1))]) rfl rfl rfl rfl ?_
                            refine pw_goto E (pc' := 42) rfl (by decide) ?_
                            exact ih42 _ (by omega) (k42_2 + (Int64.ofInt 1)) (k42_4 + (Int64.ofInt 1)) (k42_6 + (Int64.ofInt 1)) (pw_gl h328 125 24) (pw_gm h328 125 25) (k42_12) (k42_14) (k42_16 + 1) h328 h328I h328F (by omega) (by omega) (by omega) (by omega) (by omega) (by omega)  rfl
                      · intro hc440
                        have hc440 : ¬ (c429 ≤ (0 : Int)) := hc440
                        refine pw_ld E (pc' := 127) (st' := [.ref 141]) rfl (fun _ => rfl) ?_
                        refine pw_getL h328I E (c := 125) (k := 24) (pc' := 130) rfl rfl rfl rfl rfl rfl ?_
                        refine pw_lst E (pc' := 132) (ls' := [some (.ref 141), some (pw_i wt), some (.long k42_2), none, some (.long k42_4), none, some (.long k42_6), none, some (.long (pw_gl h328 125 24)), none, some (.long (Int64.ofInt (pw_gm h328 125 25))), none, some (.long (pw_gl h328 125 24)), none, some (.long (Int64.ofInt k42_14)), none, some (pw_i k42_16)]) rfl rfl rfl rfl ?_
                        refine pw_ld E (pc' := 133) (st' := [.ref 141]) rfl (fun _ => rfl) ?_
                        refine pw_getM h328I E (c := 125) (k := 25) (pc' := 136) rfl rfl rfl rfl rfl rfl (fun hf441a hf441b => ?_)
                        refine pw_lst E (pc' := 138) (ls' := [some (.ref 141), some (pw_i wt), some (.long k42_2), none, some (.long k42_4), none, some (.long k42_6), none, some (.long (pw_gl h328 125 24)), none, some (.long (Int64.ofInt (pw_gm h328 125 25))), none, some (.long (pw_gl h328 125 24)), none, some (.long (Int64.ofInt (pw_gm h328 125 25))), none, some (pw_i k42_16)]) rfl rfl rfl rfl ?_
                        refine pw_ld E (pc' := 139) (st' := [.long k42_2]) rfl (fun _ => rfl) ?_
                        refine pw_ld E (pc' := 140) (st' := [.long (Int64.ofInt 1), .long k42_2]) rfl (fun _ => rfl) ?_
                        refine pw_ld E (pc' := 141) (st' := [.long (k42_2 + (Int64.ofInt 1))]) rfl (fun _ => rfl) ?_
                        refine pw_lstn E (pc' := 142) (ls' := [some (.ref 141), some (pw_i wt), some (.long (k42_2 + (Int64.ofInt 1))), none, some (.long k42_4), none, some (.long k42_6), none, some (.long (pw_gl h328 125 24)), none, some (.long (Int64.ofInt (pw_gm h328 125 25))), none, some (.long (pw_gl h328 125 24)), none, some (.long (Int64.ofInt (pw_gm h328 125 25))), none, some (pw_i k42_16)]) rfl rfl rfl rfl ?_
                        refine pw_ld E (pc' := 144) (st' := [.long k42_4]) rfl (fun _ => rfl) ?_
                        refine pw_ld E (pc' := 145) (st' := [.ref 141, .long k42_4]) rfl (fun _ => rfl) ?_
                        refine pw_getL h328I E (c := 125) (k := 24) (pc' := 148) rfl rfl rfl rfl rfl rfl ?_
                        refine pw_ld E (pc' := 149) (st' := [.long (Int64.ofInt 0), .long (pw_gl h328 125 24), .long k42_4]) rfl (fun _ => rfl) ?_
                        refine pw_lcmp E (pc' := 150) rfl rfl (fun c442 hc442 => ?_)
                        refine pw_if E (pc' := 157) rfl (by decide) (by omega) (by omega) ?_ ?_
                        · intro hc443
                          have hc443 : (0 : Int) ≤ c442 := hc443
                          refine pw_ld E (pc' := 158) (st' := [.long (Int64.ofInt 0), .long k42_4]) rfl (fun _ => rfl) ?_
                          refine pw_ld E (pc' := 159) (st' := [.long (k42_4 + (Int64.ofInt 0))]) rfl (fun _ => rfl) ?_
                          refine pw_lst E (pc' := 161) (ls' := [some (.ref 141), some (pw_i wt), some (.long (k42_2 + (Int64.ofInt 1))), none, some (.long (k42_4 + (Int64.ofInt 0))), none, some (.long k42_6), none, some (.long (pw_gl h328 125 24)), none, some (.long (Int64.ofInt (pw_gm h328 125 25))), none, some (.long (pw_gl h328 125 24)), none, some (.long (Int64.ofInt (pw_gm h328 125 25))), none, some (pw_i k42_16)]) rfl rfl rfl rfl ?_
                          refine pw_ld E (pc' := 163) (st' := [.long k42_6]) rfl (fun _ => rfl) ?_
                          refine pw_ld E (pc' := 164) (st' := [.ref 141, .long k42_6]) rfl (fun _ => rfl) ?_
                          refine pw_getL h328I E (c := 125) (k := 24) (pc' := 167) rfl rfl rfl rfl rfl rfl ?_
                          refine pw_ld E (pc' := 168) (st' := [.long (Int64.ofInt 0), .long (pw_gl h328 125 24), .long k42_6]) rfl (fun _ => rfl) ?_
                          refine pw_lcmp E (pc' := 169) rfl rfl (fun c444 hc444 => ?_)
                          refine pw_if E (pc' := 176) rfl (by decide) (by omega) (by omega) ?_ ?_
                          · intro hc445
                            have hc445 : c444 ≤ (0 : Int) := hc445
                            refine pw_ld E (pc' := 177) (st' := [.long (Int64.ofInt 0), .long k42_6]) rfl (fun _ => rfl) ?_
                            refine pw_ld E (pc' := 178) (st' := [.long (k42_6 + (Int64.ofInt 0))]) rfl (fun _ => rfl) ?_
                            refine pw_lst E (pc' := 180) (ls' := [some (.ref 141), some (pw_i wt), some (.long (k42_2 + (Int64.ofInt 1))), none, some (.long (k42_4 + (Int64.ofInt 0))), none, some (.long (k42_6 + (Int64.ofInt 0))), none, some (.long (pw_gl h328 125 24)), none, some (.long (Int64.ofInt (pw_gm h328 125 25))), none, some (.long (pw_gl h328 125 24)), none, some (.long (Int64.ofInt (pw_gm h328 125 25))), none, some (pw_i k42_16)]) rfl rfl rfl rfl ?_
                            refine pw_inc E (pc' := 183) (ls' := [some (.ref 141), some (pw_i wt), some (.long (k42_2 + (Int64.ofInt 1))), none, some (.long (k42_4 + (Int64.ofInt 0))), none, some (.long (k42_6 + (Int64.ofInt 0))), none, some (.long (pw_gl h328 125 24)), none, some (.long (Int64.ofInt (pw_gm h328 125 25))), none, some (.long (pw_gl h328 125 24)), none, some (.long (Int64.ofInt (pw_gm h328 125 25))), none, some (pw_i (k42_16 + 1))]) rfl rfl rfl rfl ?_
                            refine pw_goto E (pc' := 42) rfl (by decide) ?_
                            exact ih42 _ (by omega) (k42_2 + (Int64.ofInt 1)) (k42_4 + (Int64.ofInt 0)) (k42_6 + (Int64.ofInt 0)) (pw_gl h328 125 24) (pw_gm h328 125 25) (pw_gl h328 125 24) (pw_gm h328 125 25) (k42_16 + 1) h328 h328I h328F (by omega) (by omega) (by omega) (by omega) (by omega) (by omega)  rfl
                          · intro hc446
                            have hc446 : ¬ (c444 ≤ (0 : Int)) := hc446
                            refine pw_ld E (pc' := 173) (st' := [.long (Int64.ofInt 1), .long k42_6]) rfl (fun _ => rfl) ?_
                            refine pw_goto E (pc' := 177) rfl (by decide) ?_
                            refine pw_ld E (pc' := 178) (st' := [.long (k42_6 + (Int64.ofInt 1))]) rfl (fun _ => rfl) ?_
                            refine pw_lst E (pc' := 180) (ls' := [some (.ref 141), some (pw_i wt), some (.long (k42_2 + (Int64.ofInt 1))), none, some (.long (k42_4 + (Int64.ofInt 0))), none, some (.long (k42_6 + (Int64.ofInt 1))), none, some (.long (pw_gl h328 125 24)), none, some (.long (Int64.ofInt (pw_gm h328 125 25))), none, some (.long (pw_gl h328 125 24)), none, some (.long (Int64.ofInt (pw_gm h328 125 25))), none, some (pw_i k42_16)]) rfl rfl rfl rfl ?_
                            refine pw_inc E (pc' := 183) (ls' := [some (.ref 141), some (pw_i wt), some (.long (k42_2 + (Int64.ofInt 1))), none, some (.long (k42_4 + (Int64.ofInt 0))), none, some (.long (k42_6 + (Int64.ofInt 1))), none, some (.long (pw_gl h328 125 24)), none, some (.long (Int64.ofInt (pw_gm h328 125 25))), none, some (.long (pw_gl h328 125 24)), none, some (.long (Int64.ofInt (pw_gm h328 125 25))), none, some (pw_i (k42_16 + 1))]) rfl rfl rfl rfl ?_
                            refine pw_goto E (pc' := 42) rfl (by decide) ?_
                            exact ih42 _ (by omega) (k42_2 + (Int64.ofInt 1)) (k42_4 + (Int64.ofInt 0)) (k42_6 + (Int64.ofInt 1)) (pw_gl h328 125 24) (pw_gm h328 125 25) (pw_gl h328 125 24) (pw_gm h328 125 25) (k42_16 + 1) h328 h328I h328F (by omega) (by omega) (by omega) (by omega) (by omega) (by omega)  rfl
                        · intro hc447
                          have hc447 : ¬ ((0 : Int) ≤ c442) := hc447
                          refine pw_ld E (pc' := 154) (st' := [.long (Int64.ofInt 1), .long k42_4]) rfl (fun _ => rfl) ?_
                          refine pw_goto E (pc' := 158) rfl (by decide) ?_
                          refine pw_ld E (pc' := 159) (st' := [.long (k42_4 + (Int64.ofInt 1))]) rfl (fun _ => rfl) ?_
                          refine pw_lst E (pc' := 161) (ls' := [some (.ref 141), some (pw_i wt), some (.long (k42_2 + (Int64.ofInt 1))), none, some (.long (k42_4 + (Int64.ofInt 1))), none, some (.long k42_6), none, some (.long (pw_gl h328 125 24)), none, some (.long (Int64.ofInt (pw_gm h328 125 25))), none, some (.long (pw_gl h328 125 24)), none, some (.long (Int64.ofInt (pw_gm h328 125 25))), none, some (pw_i k42_16)]) rfl rfl rfl rfl ?_
                          refine pw_ld E (pc' := 163) (st' := [.long k42_6]) rfl (fun _ => rfl) ?_
                          refine pw_ld E (pc' := 164) (st' := [.ref 141, .long k42_6]) rfl (fun _ => rfl) ?_
                          refine pw_getL h328I E (c := 125) (k := 24) (pc' := 167) rfl rfl rfl rfl rfl rfl ?_
                          refine pw_ld E (pc' := 168) (st' := [.long (Int64.ofInt 0), .long (pw_gl h328 125 24), .long k42_6]) rfl (fun _ => rfl) ?_
                          refine pw_lcmp E (pc' := 169) rfl rfl (fun c448 hc448 => ?_)
                          refine pw_if E (pc' := 176) rfl (by decide) (by omega) (by omega) ?_ ?_
                          · intro hc449
                            have hc449 : c448 ≤ (0 : Int) := hc449
                            refine pw_ld E (pc' := 177) (st' := [.long (Int64.ofInt 0), .long k42_6]) rfl (fun _ => rfl) ?_
                            refine pw_ld E (pc' := 178) (st' := [.long (k42_6 + (Int64.ofInt 0))]) rfl (fun _ => rfl) ?_
                            refine pw_lst E (pc' := 180) (ls' := [some (.ref 141), some (pw_i wt), some (.long (k42_2 + (Int64.ofInt 1))), none, some (.long (k42_4 + (Int64.ofInt 1))), none, some (.long (k42_6 + (Int64.ofInt 0))), none, some (.long (pw_gl h328 125 24)), none, some (.long (Int64.ofInt (pw_gm h328 125 25))), none, some (.long (pw_gl h328 125 24)), none, some (.long (Int64.ofInt (pw_gm h328 125 25))), none, some (pw_i k42_16)]) rfl rfl rfl rfl ?_
                            refine pw_inc E (pc' := 183) (ls' := [some (.ref 141), some (pw_i wt), some (.long (k42_2 + (Int64.ofInt 1))), none, some (.long (k42_4 + (Int64.ofInt 1))), none, some (.long (k42_6 + (Int64.ofInt 0))), none, some (.long (pw_gl h328 125 24)), none, some (.long (Int64.ofInt (pw_gm h328 125 25))), none, some (.long (pw_gl h328 125 24)), none, some (.long (Int64.ofInt (pw_gm h328 125 25))), none, some (pw_i (k42_16 + 1))]) rfl rfl rfl rfl ?_
                            refine pw_goto E (pc' := 42) rfl (by decide) ?_
                            exact ih42 _ (by omega) (k42_2 + (Int64.ofInt 1)) (k42_4 + (Int64.ofInt 1)) (k42_6 + (Int64.ofInt 0)) (pw_gl h328 125 24) (pw_gm h328 125 25) (pw_gl h328 125 24) (pw_gm h328 125 25) (k42_16 + 1) h328 h328I h328F (by omega) (by omega) (by omega) (by omega) (by omega) (by omega)  rfl
                          · intro hc450
                            have hc450 : ¬ (c448 ≤ (0 : Int)) := hc450
                            refine pw_ld E (pc' := 173) (st' := [.long (Int64.ofInt 1), .long k42_6]) rfl (fun _ => rfl) ?_
                            refine pw_goto E (pc' := 177) rfl (by decide) ?_
                            refine pw_ld E (pc' := 178) (st' := [.long (k42_6 + (Int64.ofInt 1))]) rfl (fun _ => rfl) ?_
                            refine pw_lst E (pc' := 180) (ls' := [some (.ref 141), some (pw_i wt), some (.long (k42_2 + (Int64.ofInt 1))), none, some (.long (k42_4 + (Int64.ofInt 1))), none, some (.long (k42_6 + (Int64.ofInt 1))), none, some (.long (pw_gl h328 125 24)), none, some (.long (Int64.ofInt (pw_gm h328 125 25))), none, some (.long (pw_gl h328 125 24)), none, some (.long (Int64.ofInt (pw_gm h328 125 25))), none, some (pw_i k42_16)]) rfl rfl rfl rfl ?_
                            refine pw_inc E (pc' := 183) (ls' := [some (.ref 141), some (pw_i wt), some (.long (k42_2 + (Int64.ofInt 1))), none, some (.long (k42_4 + (Int64.ofInt 1))), none, some (.long (k42_6 + (Int64.ofInt 1))), none, some (.long (pw_gl h328 125 24)), none, some (.long (Int64.ofInt (pw_gm h328 125 25))), none, some (.long (pw_gl h328 125 24)), none, some (.long (Int64.ofInt (pw_gm h328 125 25))), none, some (pw_i (k42_16 + 1))]) rfl rfl rfl rfl ?_
                            refine pw_goto E (pc' := 42) rfl (by decide) ?_
                            exact ih42 _ (by omega) (k42_2 + (Int64.ofInt 1)) (k42_4 + (Int64.ofInt 1)) (k42_6 + (Int64.ofInt 1)) (pw_gl h328 125 24) (pw_gm h328 125 25) (pw_gl h328 125 24) (pw_gm h328 125 25) (k42_16 + 1) h328 h328I h328F (by omega) (by omega) (by omega) (by omega) (by omega) (by omega)  rfl
            · have hb451 : x330 = 0 := by omega
              refine pw_if E (pc' := 180) rfl (by decide) (by omega) (by omega) ?_ ?_
              · intro hc452
                have hc452 : x330 = (0 : Int) := hc452
                refine pw_inc E (pc' := 183) (ls' := [some (.ref 141), some (pw_i wt), some (.long k42_2), none, some (.long k42_4), none, some (.long k42_6), none, some (.long k42_8), none, some (.long (Int64.ofInt k42_10)), none, some (.long k42_12), none, some (.long (Int64.ofInt k42_14)), none, some (pw_i (k42_16 + 1))]) rfl rfl rfl rfl ?_
                refine pw_goto E (pc' := 42) rfl (by decide) ?_
                exact ih42 _ (by omega) (k42_2) (k42_4) (k42_6) (k42_8) (k42_10) (k42_12) (k42_14) (k42_16 + 1) h328 h328I h328F (by omega) (by omega) (by omega) (by omega) (by omega) (by omega)  rfl
              · intro hc453
                have hc453 : ¬ (x330 = (0 : Int)) := hc453
                exfalso; omega
      exact L42 _ (Int64.ofInt 0) (Int64.ofInt 0) (Int64.ofInt 0) (Int64.ofInt 0) (1) (Int64.ofInt 0) (1) (0) h225 h225I h225F (by omega) (by omega) (by omega) (by omega) (by omega) (by omega)  rfl
    · intro hc454
      have hc454 : ¬ (x3 = (0 : Int)) := hc454
      exfalso; omega
