/-! contracts (printed by wip/tool/pwspec.py) -/
set_option maxHeartbeats 4000000 in
theorem cm_164 {X : List (Nat × List Value)} {d : Nat} {h : pm_H} (hd : 3 ≤ d) (I : pw_I h) (mo : Int) (hmo1 : (-2147483648) ≤ mo) (hmo2 : mo ≤ 2147483647) (wt : Int) (hwt1 : (-2147483648) ≤ wt) (hwt2 : wt ≤ 2147483647) : pw X d h 164 0 [some (.ref 16), some (pw_i mo), some (pw_i wt), none, none, none, none, none] [] (fun h' v => h = h' ∧ ∃ a : Int, v = .inl (some (pw_i a)) ∧ (-2147483648) ≤ a ∧ a ≤ 2147483647) := by
  have E : pm_ent 164 = some (3, 8, 11, 0, pmc_164) := rfl
  refine pw_ld E (pc' := 1) (st' := [pw_i mo]) rfl (fun _ => rfl) ?_
  refine pw_call (m' := 125) (As := [pw_i mo]) (rest := []) (ls'' := [some (pw_i mo)]) (Nat.le_trans (by decide) hd) E rfl (fun _ => pw_iS rfl rfl rfl) (rfl : pm_ent 125 = some (1, 1, 11, 1, pmc_125)) rfl rfl (cm_125 (pw_dp hd (by decide)) I (mo) (by omega) (by omega)) ?_
  rintro u2 v1 ⟨rfl, x3, rfl, hx3a, hx3b, hx3r⟩
  refine ⟨_, rfl, ?_⟩
  show pw X d h 164 4 [some (.ref 16), some (pw_i mo), some (pw_i wt), none, none, none, none, none] [pw_i x3] _
  change (x3 = 1 ∧ 0 ≤ mo ∧ mo ≤ 11) ∨ (x3 = 0 ∧ ¬ (0 ≤ mo ∧ mo ≤ 11)) at hx3r
  rcases (by omega : x3 = 1 ∨ x3 = 0) with hb4 | hb4
  · skip
    refine pw_if E (pc' := 16) rfl (by decide) (by omega) (by omega) ?_ ?_
    · intro hc5
      change x3 = (0 : Int) at hc5
      exfalso; omega
    · intro hc6
      change ¬ (x3 = (0 : Int)) at hc6
      refine pw_ld E (pc' := 8) (st' := [pw_i wt]) rfl (fun _ => rfl) ?_
      refine pw_ld E (pc' := 9) (st' := [pw_i 0, pw_i wt]) rfl (fun _ => rfl) ?_
      refine pw_ld E (pc' := 10) (st' := [pw_i 2, pw_i 0, pw_i wt]) rfl (fun _ => rfl) ?_
      refine pw_call (m' := 121) (As := [pw_i wt, pw_i 0, pw_i 2]) (rest := []) (ls'' := [some (pw_i wt), some (pw_i 0), some (pw_i 2)]) (Nat.le_trans (by decide) hd) E rfl (fun _ => pw_iS rfl rfl rfl) (rfl : pm_ent 121 = some (3, 3, 11, 1, pmc_121)) rfl rfl (cm_121 (pw_dp hd (by decide)) I (wt) (by omega) (by omega) (0) (by omega) (by omega) (2) (by omega) (by omega)) ?_
      rintro u8 v7 ⟨rfl, x9, rfl, hx9a, hx9b, hx9r⟩
      refine ⟨_, rfl, ?_⟩
      show pw X d h 164 13 [some (.ref 16), some (pw_i mo), some (pw_i wt), none, none, none, none, none] [pw_i x9] _
      change (x9 = 1 ∧ 0 ≤ wt ∧ wt ≤ 2) ∨ (x9 = 0 ∧ ¬ (0 ≤ wt ∧ wt ≤ 2)) at hx9r
      rcases (by omega : x9 = 1 ∨ x9 = 0) with hb10 | hb10
      · skip
        refine pw_if E (pc' := 18) rfl (by decide) (by omega) (by omega) ?_ ?_
        · intro hc11
          change x9 ≠ (0 : Int) at hc11
          refine pw_ld E (pc' := 19) (st' := [pw_i 0]) rfl (fun _ => rfl) ?_
          refine pw_istn E (pc' := 20) (ls' := [some (.ref 16), some (pw_i mo), some (pw_i wt), some (pw_i 0), none, none, none, none]) rfl rfl rfl rfl ?_
          refine pw_ld E (pc' := 21) (st' := [pw_i 0]) rfl (fun _ => rfl) ?_
          refine pw_ist E (pc' := 23) (ls' := [some (.ref 16), some (pw_i mo), some (pw_i wt), some (pw_i 0), some (pw_i 0), none, none, none]) rfl rfl rfl rfl ?_
          refine pw_ld E (pc' := 24) (st' := [pw_i 0]) rfl (fun _ => rfl) ?_
          refine pw_ist E (pc' := 26) (ls' := [some (.ref 16), some (pw_i mo), some (pw_i wt), some (pw_i 0), some (pw_i 0), some (pw_i 0), none, none]) rfl rfl rfl rfl ?_
          refine pw_ld E (pc' := 27) (st' := [pw_i 0]) rfl (fun _ => rfl) ?_
          refine pw_ist E (pc' := 29) (ls' := [some (.ref 16), some (pw_i mo), some (pw_i wt), some (pw_i 0), some (pw_i 0), some (pw_i 0), some (pw_i 0), none]) rfl rfl rfl rfl ?_
          have L29 : ∀ (n29 : Nat) (k29_3 : Int) (k29_4 : Int) (k29_5 : Int) (k29_6 : Int) (k29_7 : Option Value), 0 ≤ k29_3 → k29_3 ≤ 24 → (-2147483648) ≤ k29_4 → k29_4 ≤ 2147483647 → (-2147483648) ≤ k29_5 → k29_5 ≤ 2147483647 → 0 ≤ k29_6 → k29_6 ≤ 24 → k29_3 + 0 ≤ k29_6 + 0 → (24 - k29_6).toNat = n29 → pw X d h 164 29 [some (.ref 16), some (pw_i mo), some (pw_i wt), some (pw_i k29_3), some (pw_i k29_4), some (pw_i k29_5), some (pw_i k29_6), k29_7] [] (fun h' v => h = h' ∧ ∃ a : Int, v = .inl (some (pw_i a)) ∧ (-2147483648) ≤ a ∧ a ≤ 2147483647) := by
            intro n29
            induction n29 using Nat.strongRecOn with
            | ind n29 ih29 =>
              intro k29_3 k29_4 k29_5 k29_6 k29_7 k29_3a k29_3b k29_4a k29_4b k29_5a k29_5b k29_6a k29_6b hx29_0 hm29
              refine pw_ld E (pc' := 31) (st' := [pw_i k29_6]) rfl (fun _ => rfl) ?_
              refine pw_bip E (pc' := 33) rfl rfl (by decide) ?_
              refine pw_if2 E (pc' := 141) rfl (by decide) (by omega) (by omega) (by decide) (by decide) ?_ ?_
              · intro hc12
                change (24 : Int) ≤ k29_6 at hc12
                refine pw_ld E (pc' := 142) (st' := [pw_i wt]) rfl (fun _ => rfl) ?_
                refine pw_if E (pc' := 147) rfl (by decide) (by omega) (by omega) ?_ ?_
                · intro hc13
                  change wt ≠ (0 : Int) at hc13
                  refine pw_ld E (pc' := 148) (st' := [pw_i wt]) rfl (fun _ => rfl) ?_
                  refine pw_ld E (pc' := 149) (st' := [pw_i 1, pw_i wt]) rfl (fun _ => rfl) ?_
                  refine pw_if2 E (pc' := 157) rfl (by decide) (by omega) (by omega) (by decide) (by decide) ?_ ?_
                  · intro hc14
                    change wt ≠ (1 : Int) at hc14
                    refine pw_ld E (pc' := 159) (st' := [pw_i k29_5]) rfl (fun _ => rfl) ?_
                    refine pw_iret E rfl ?_
                    exact ⟨rfl, ⟨_, rfl, by omega, by omega⟩⟩
                  · intro hc15
                    change ¬ (wt ≠ (1 : Int)) at hc15
                    refine pw_ld E (pc' := 154) (st' := [pw_i k29_4]) rfl (fun _ => rfl) ?_
                    refine pw_goto E (pc' := 159) rfl (by decide) ?_
                    refine pw_iret E rfl ?_
                    exact ⟨rfl, ⟨_, rfl, by omega, by omega⟩⟩
                · intro hc16
                  change ¬ (wt ≠ (0 : Int)) at hc16
                  refine pw_ld E (pc' := 146) (st' := [pw_i k29_3]) rfl (fun _ => rfl) ?_
                  refine pw_iret E rfl ?_
                  exact ⟨rfl, ⟨_, rfl, by omega, by omega⟩⟩
              · intro hc17
                change ¬ ((24 : Int) ≤ k29_6) at hc17
                refine pw_ld E (pc' := 37) (st' := [.ref 16]) rfl (fun _ => rfl) ?_
                refine pw_getR (b := 17) I E (c := 0) (k := 0) (pc' := 40) rfl rfl rfl rfl rfl rfl rfl ?_
                refine pw_ld E (pc' := 42) (st' := [pw_i k29_6, .ref 17]) rfl (fun _ => rfl) ?_
                obtain ⟨f18l, f18h, -⟩ := pw_obj (c := 1) I rfl
                refine pw_call (m' := 59) (As := [.ref 17, pw_i k29_6]) (rest := []) (ls'' := [some (.ref 17), some (pw_i k29_6)]) (Nat.le_trans (by decide) hd) E rfl (fun _ => pw_iV rfl rfl rfl rfl (pw_cellI f18h rfl)) (rfl : pm_ent 59 = some (2, 2, 6, 1, pmc_59)) rfl rfl (cm_59 (pw_dp hd (by decide)) I (k29_6) (by omega) (by omega)) ?_
                rintro u20 v19 ⟨rfl, x21, rfl, hx21a, hx21b, hx21r⟩
                refine ⟨_, rfl, ?_⟩
                show pw X d h 164 45 [some (.ref 16), some (pw_i mo), some (pw_i wt), some (pw_i k29_3), some (pw_i k29_4), some (pw_i k29_5), some (pw_i k29_6), k29_7] [pw_i x21] _
                change x21 = pw_g h 2 k29_6.toNat at hx21r
                rcases (by omega : x21 = 1 ∨ x21 = 0) with hb22 | hb22
                · skip
                  refine pw_if E (pc' := 135) rfl (by decide) (by omega) (by omega) ?_ ?_
                  · intro hc23
                    change x21 = (0 : Int) at hc23
                    exfalso; omega
                  · intro hc24
                    change ¬ (x21 = (0 : Int)) at hc24
                    refine pw_ld E (pc' := 49) (st' := [.ref 16]) rfl (fun _ => rfl) ?_
                    refine pw_getR (b := 26) I E (c := 0) (k := 2) (pc' := 52) rfl rfl rfl rfl rfl rfl rfl ?_
                    refine pw_ld E (pc' := 54) (st' := [pw_i k29_6, .ref 26]) rfl (fun _ => rfl) ?_
                    refine pw_ld E (pc' := 55) (st' := [pw_i mo, pw_i k29_6, .ref 26]) rfl (fun _ => rfl) ?_
                    obtain ⟨f25l, f25h, -⟩ := pw_obj (c := 10) I rfl
                    refine pw_call (m' := 19) (As := [.ref 26, pw_i k29_6, pw_i mo]) (rest := []) (ls'' := [some (.ref 26), some (pw_i k29_6), some (pw_i mo)]) (Nat.le_trans (by decide) hd) E rfl (fun _ => pw_iV rfl rfl rfl rfl (pw_cellI f25h rfl)) (rfl : pm_ent 19 = some (3, 3, 2, 1, pmc_19)) rfl rfl (cm_19 (pw_dp hd (by decide)) I 10 (by unfold pw_Lg; omega) (k29_6) (by omega) (by omega) (mo) (by omega) (by omega)) ?_
                    rintro u27 v26 ⟨rfl, x28, rfl, hx28a, hx28b⟩
                    refine ⟨_, rfl, ?_⟩
                    show pw X d h 164 58 [some (.ref 16), some (pw_i mo), some (pw_i wt), some (pw_i k29_3), some (pw_i k29_4), some (pw_i k29_5), some (pw_i k29_6), k29_7] [pw_i x28] _
                    refine pw_if E (pc' := 135) rfl (by decide) (by omega) (by omega) ?_ ?_
                    · intro hc29
                      change x28 ≠ (0 : Int) at hc29
                      refine pw_inc E (pc' := 138) (ls' := [some (.ref 16), some (pw_i mo), some (pw_i wt), some (pw_i k29_3), some (pw_i k29_4), some (pw_i k29_5), some (pw_i (k29_6 + 1)), k29_7]) rfl rfl rfl rfl ?_
                      refine pw_goto E (pc' := 29) rfl (by decide) ?_
                      exact ih29 _ (by omega) (k29_3) (k29_4) (k29_5) (k29_6 + 1) k29_7  (by omega) (by omega) (by omega) (by omega) (by omega) (by omega) (by omega) (by omega) (by omega) rfl
                    · intro hc30
                      change ¬ (x28 ≠ (0 : Int)) at hc30
                      refine pw_ld E (pc' := 62) (st' := [.ref 16]) rfl (fun _ => rfl) ?_
                      refine pw_getR (b := 28) I E (c := 0) (k := 3) (pc' := 65) rfl rfl rfl rfl rfl rfl rfl ?_
                      refine pw_ld E (pc' := 67) (st' := [pw_i k29_6, .ref 28]) rfl (fun _ => rfl) ?_
                      refine pw_ld E (pc' := 68) (st' := [pw_i mo, pw_i k29_6, .ref 28]) rfl (fun _ => rfl) ?_
                      obtain ⟨f31l, f31h, -⟩ := pw_obj (c := 12) I rfl
                      refine pw_call (m' := 19) (As := [.ref 28, pw_i k29_6, pw_i mo]) (rest := []) (ls'' := [some (.ref 28), some (pw_i k29_6), some (pw_i mo)]) (Nat.le_trans (by decide) hd) E rfl (fun _ => pw_iV rfl rfl rfl rfl (pw_cellI f31h rfl)) (rfl : pm_ent 19 = some (3, 3, 2, 1, pmc_19)) rfl rfl (cm_19 (pw_dp hd (by decide)) I 12 (by unfold pw_Lg; omega) (k29_6) (by omega) (by omega) (mo) (by omega) (by omega)) ?_
                      rintro u33 v32 ⟨rfl, x34, rfl, hx34a, hx34b⟩
                      refine ⟨_, rfl, ?_⟩
                      show pw X d h 164 71 [some (.ref 16), some (pw_i mo), some (pw_i wt), some (pw_i k29_3), some (pw_i k29_4), some (pw_i k29_5), some (pw_i k29_6), k29_7] [pw_i x34] _
                      refine pw_if E (pc' := 135) rfl (by decide) (by omega) (by omega) ?_ ?_
                      · intro hc35
                        change x34 ≠ (0 : Int) at hc35
                        refine pw_inc E (pc' := 138) (ls' := [some (.ref 16), some (pw_i mo), some (pw_i wt), some (pw_i k29_3), some (pw_i k29_4), some (pw_i k29_5), some (pw_i (k29_6 + 1)), k29_7]) rfl rfl rfl rfl ?_
                        refine pw_goto E (pc' := 29) rfl (by decide) ?_
                        exact ih29 _ (by omega) (k29_3) (k29_4) (k29_5) (k29_6 + 1) k29_7  (by omega) (by omega) (by omega) (by omega) (by omega) (by omega) (by omega) (by omega) (by omega) rfl
                      · intro hc36
                        change ¬ (x34 ≠ (0 : Int)) at hc36
                        refine pw_ld E (pc' := 75) (st' := [.ref 16]) rfl (fun _ => rfl) ?_
                        refine pw_getR (b := 26) I E (c := 0) (k := 2) (pc' := 78) rfl rfl rfl rfl rfl rfl rfl ?_
                        refine pw_ld E (pc' := 80) (st' := [pw_i k29_6, .ref 26]) rfl (fun _ => rfl) ?_
                        refine pw_ld E (pc' := 81) (st' := [pw_i mo, pw_i k29_6, .ref 26]) rfl (fun _ => rfl) ?_
                        refine pw_ld E (pc' := 82) (st' := [.ref 16, pw_i mo, pw_i k29_6, .ref 26]) rfl (fun _ => rfl) ?_
                        refine pw_getI2 I E (c := 0) (k := 6) (pc' := 85) rfl rfl rfl rfl rfl rfl (fun hf37a hf37b => ?_)
                        obtain ⟨f38l, f38h, -⟩ := pw_obj (c := 10) I rfl
                        refine pw_call (m' := 20) (As := [.ref 26, pw_i k29_6, pw_i mo, pw_i (pw_g h 0 6)]) (rest := []) (ls'' := [some (.ref 26), some (pw_i k29_6), some (pw_i mo), some (pw_i (pw_g h 0 6))]) (Nat.le_trans (by decide) hd) E rfl (fun _ => pw_iV rfl rfl rfl rfl (pw_cellI f38h rfl)) (rfl : pm_ent 20 = some (4, 4, 2, 0, pmc_20)) rfl rfl (cm_20 (pw_dp hd (by decide)) I 10 (by unfold pw_Lg; omega) (k29_6) (by omega) (by omega) (mo) (by omega) (by omega) (pw_g h 0 6) (by omega) (by omega)) ?_
                        rintro u40 v39 ⟨rfl, x41, rfl, hx41a, hx41b⟩
                        refine ⟨_, rfl, ?_⟩
                        show pw X d h 164 88 [some (.ref 16), some (pw_i mo), some (pw_i wt), some (pw_i k29_3), some (pw_i k29_4), some (pw_i k29_5), some (pw_i k29_6), k29_7] [pw_i x41] _
                        refine pw_ld E (pc' := 89) (st' := [.ref 16, pw_i x41]) rfl (fun _ => rfl) ?_
                        refine pw_getR (b := 28) I E (c := 0) (k := 3) (pc' := 92) rfl rfl rfl rfl rfl rfl rfl ?_
                        refine pw_ld E (pc' := 94) (st' := [pw_i k29_6, .ref 28, pw_i x41]) rfl (fun _ => rfl) ?_
                        refine pw_ld E (pc' := 95) (st' := [pw_i mo, pw_i k29_6, .ref 28, pw_i x41]) rfl (fun _ => rfl) ?_
                        refine pw_ld E (pc' := 96) (st' := [.ref 16, pw_i mo, pw_i k29_6, .ref 28, pw_i x41]) rfl (fun _ => rfl) ?_
                        refine pw_getI2 I E (c := 0) (k := 6) (pc' := 99) rfl rfl rfl rfl rfl rfl (fun hf42a hf42b => ?_)
                        obtain ⟨f43l, f43h, -⟩ := pw_obj (c := 12) I rfl
                        refine pw_call (m' := 20) (As := [.ref 28, pw_i k29_6, pw_i mo, pw_i (pw_g h 0 6)]) (rest := [pw_i x41]) (ls'' := [some (.ref 28), some (pw_i k29_6), some (pw_i mo), some (pw_i (pw_g h 0 6))]) (Nat.le_trans (by decide) hd) E rfl (fun _ => pw_iV rfl rfl rfl rfl (pw_cellI f43h rfl)) (rfl : pm_ent 20 = some (4, 4, 2, 0, pmc_20)) rfl rfl (cm_20 (pw_dp hd (by decide)) I 12 (by unfold pw_Lg; omega) (k29_6) (by omega) (by omega) (mo) (by omega) (by omega) (pw_g h 0 6) (by omega) (by omega)) ?_
                        rintro u45 v44 ⟨rfl, x46, rfl, hx46a, hx46b⟩
                        refine ⟨_, rfl, ?_⟩
                        show pw X d h 164 102 [some (.ref 16), some (pw_i mo), some (pw_i wt), some (pw_i k29_3), some (pw_i k29_4), some (pw_i k29_5), some (pw_i k29_6), k29_7] [pw_i x46, pw_i x41] _
                        refine pw_sub E (pc' := 103) rfl rfl ?_
                        refine pw_nm (fun x47 hx47a hx47b => ?_)
                        refine pw_abs E rfl rfl rfl (fun x48 hx48a hx48b hx48c hx48d => ?_)
                        refine pw_ist E (pc' := 108) (ls' := [some (.ref 16), some (pw_i mo), some (pw_i wt), some (pw_i k29_3), some (pw_i k29_4), some (pw_i k29_5), some (pw_i k29_6), some (pw_i x48)]) rfl rfl rfl rfl ?_
                        refine pw_inc E (pc' := 111) (ls' := [some (.ref 16), some (pw_i mo), some (pw_i wt), some (pw_i (k29_3 + 1)), some (pw_i k29_4), some (pw_i k29_5), some (pw_i k29_6), some (pw_i x48)]) rfl rfl rfl rfl ?_
                        refine pw_ld E (pc' := 113) (st' := [pw_i k29_4]) rfl (fun _ => rfl) ?_
                        refine pw_ld E (pc' := 115) (st' := [pw_i x48, pw_i k29_4]) rfl (fun _ => rfl) ?_
                        refine pw_if E (pc' := 122) rfl (by decide) (by omega) (by omega) ?_ ?_
                        · intro hc49
                          change x48 = (0 : Int) at hc49
                          refine pw_ld E (pc' := 123) (st' := [pw_i 0, pw_i k29_4]) rfl (fun _ => rfl) ?_
                          refine pw_add E (pc' := 124) rfl rfl ?_
                          refine pw_ist E (pc' := 126) (ls' := [some (.ref 16), some (pw_i mo), some (pw_i wt), some (pw_i (k29_3 + 1)), some (pw_i (k29_4 + 0)), some (pw_i k29_5), some (pw_i k29_6), some (pw_i x48)]) rfl rfl rfl rfl ?_
                          refine pw_ld E (pc' := 128) (st' := [pw_i k29_5]) rfl (fun _ => rfl) ?_
                          refine pw_ld E (pc' := 130) (st' := [pw_i x48, pw_i k29_5]) rfl (fun _ => rfl) ?_
                          refine pw_max E rfl rfl (by omega) (by omega) (by omega) (by omega) rfl ?_
                          refine pw_ist E (pc' := 135) (ls' := [some (.ref 16), some (pw_i mo), some (pw_i wt), some (pw_i (k29_3 + 1)), some (pw_i (k29_4 + 0)), some (pw_i (max k29_5 x48)), some (pw_i k29_6), some (pw_i x48)]) rfl rfl rfl rfl ?_
                          refine pw_inc E (pc' := 138) (ls' := [some (.ref 16), some (pw_i mo), some (pw_i wt), some (pw_i (k29_3 + 1)), some (pw_i (k29_4 + 0)), some (pw_i (max k29_5 x48)), some (pw_i (k29_6 + 1)), some (pw_i x48)]) rfl rfl rfl rfl ?_
                          refine pw_goto E (pc' := 29) rfl (by decide) ?_
                          exact ih29 _ (by omega) (k29_3 + 1) (k29_4 + 0) (max k29_5 x48) (k29_6 + 1) (some (pw_i x48))  (by omega) (by omega) (by omega) (by omega) (by omega) (by omega) (by omega) (by omega) (by omega) rfl
                        · intro hc50
                          change ¬ (x48 = (0 : Int)) at hc50
                          refine pw_ld E (pc' := 119) (st' := [pw_i 1, pw_i k29_4]) rfl (fun _ => rfl) ?_
                          refine pw_goto E (pc' := 123) rfl (by decide) ?_
                          refine pw_add E (pc' := 124) rfl rfl ?_
                          refine pw_nm (fun x51 hx51a hx51b => ?_)
                          refine pw_ist E (pc' := 126) (ls' := [some (.ref 16), some (pw_i mo), some (pw_i wt), some (pw_i (k29_3 + 1)), some (pw_i x51), some (pw_i k29_5), some (pw_i k29_6), some (pw_i x48)]) rfl rfl rfl rfl ?_
                          refine pw_ld E (pc' := 128) (st' := [pw_i k29_5]) rfl (fun _ => rfl) ?_
                          refine pw_ld E (pc' := 130) (st' := [pw_i x48, pw_i k29_5]) rfl (fun _ => rfl) ?_
                          refine pw_max E rfl rfl (by omega) (by omega) (by omega) (by omega) rfl ?_
                          refine pw_ist E (pc' := 135) (ls' := [some (.ref 16), some (pw_i mo), some (pw_i wt), some (pw_i (k29_3 + 1)), some (pw_i x51), some (pw_i (max k29_5 x48)), some (pw_i k29_6), some (pw_i x48)]) rfl rfl rfl rfl ?_
                          refine pw_inc E (pc' := 138) (ls' := [some (.ref 16), some (pw_i mo), some (pw_i wt), some (pw_i (k29_3 + 1)), some (pw_i x51), some (pw_i (max k29_5 x48)), some (pw_i (k29_6 + 1)), some (pw_i x48)]) rfl rfl rfl rfl ?_
                          refine pw_goto E (pc' := 29) rfl (by decide) ?_
                          exact ih29 _ (by omega) (k29_3 + 1) (x51) (max k29_5 x48) (k29_6 + 1) (some (pw_i x48))  (by omega) (by omega) (by omega) (by omega) (by omega) (by omega) (by omega) (by omega) (by omega) rfl
                · skip
                  refine pw_if E (pc' := 135) rfl (by decide) (by omega) (by omega) ?_ ?_
                  · intro hc53
                    change x21 = (0 : Int) at hc53
                    refine pw_inc E (pc' := 138) (ls' := [some (.ref 16), some (pw_i mo), some (pw_i wt), some (pw_i k29_3), some (pw_i k29_4), some (pw_i k29_5), some (pw_i (k29_6 + 1)), k29_7]) rfl rfl rfl rfl ?_
                    refine pw_goto E (pc' := 29) rfl (by decide) ?_
                    exact ih29 _ (by omega) (k29_3) (k29_4) (k29_5) (k29_6 + 1) k29_7  (by omega) (by omega) (by omega) (by omega) (by omega) (by omega) (by omega) (by omega) (by omega) rfl
                  · intro hc54
                    change ¬ (x21 = (0 : Int)) at hc54
                    exfalso; omega
          exact L29 _ (0) (0) (0) (0) (none)  (by omega) (by omega) (by omega) (by omega) (by omega) (by omega) (by omega) (by omega) (by omega) rfl
        · intro hc55
          change ¬ (x9 ≠ (0 : Int)) at hc55
          exfalso; omega
      · skip
        refine pw_if E (pc' := 18) rfl (by decide) (by omega) (by omega) ?_ ?_
        · intro hc57
          change x9 ≠ (0 : Int) at hc57
          exfalso; omega
        · intro hc58
          change ¬ (x9 ≠ (0 : Int)) at hc58
          refine pw_ld E (pc' := 17) (st' := [pw_i ((-1))]) rfl (fun _ => rfl) ?_
          refine pw_iret E rfl ?_
          exact ⟨rfl, ⟨_, rfl, by omega, by omega⟩⟩
  · skip
    refine pw_if E (pc' := 16) rfl (by decide) (by omega) (by omega) ?_ ?_
    · intro hc60
      change x3 = (0 : Int) at hc60
      refine pw_ld E (pc' := 17) (st' := [pw_i ((-1))]) rfl (fun _ => rfl) ?_
      refine pw_iret E rfl ?_
      exact ⟨rfl, ⟨_, rfl, by omega, by omega⟩⟩
    · intro hc61
      change ¬ (x3 = (0 : Int)) at hc61
      exfalso; omega
set_option maxHeartbeats 4000000 in
theorem cm_166 {X : List (Nat × List Value)} {d : Nat} {h : pm_H} (hd : 3 ≤ d) (I : pw_I h) (mo : Int) (hmo1 : 1 ≤ mo) (hmo2 : mo ≤ 11) : pw X d h 166 0 [some (.ref 16), some (pw_i mo), none, none, none, none, none] [] (fun h' v => h = h' ∧ ∃ a : Int, v = .inl (some (pw_i a)) ∧ (-2147483648) ≤ a ∧ a ≤ 2147483647) := by
  have E : pm_ent 166 = some (2, 7, 11, 0, pmc_166) := rfl
  refine pw_ld E (pc' := 1) (st' := [.ref 16]) rfl (fun _ => rfl) ?_
  refine pw_getR (b := 23) I E (c := 0) (k := 1) (pc' := 4) rfl rfl rfl rfl rfl rfl rfl ?_
  refine pw_ld E (pc' := 5) (st' := [pw_i 0, .ref 23]) rfl (fun _ => rfl) ?_
  refine pw_ld E (pc' := 6) (st' := [pw_i mo, pw_i 0, .ref 23]) rfl (fun _ => rfl) ?_
  obtain ⟨f1l, f1h, -⟩ := pw_obj (c := 7) I rfl
  refine pw_call (m' := 4) (As := [.ref 23, pw_i 0, pw_i mo]) (rest := []) (ls'' := [some (.ref 23), some (pw_i 0), some (pw_i mo)]) (Nat.le_trans (by decide) hd) E rfl (fun _ => pw_iV rfl rfl rfl rfl (pw_cellI f1h rfl)) (rfl : pm_ent 4 = some (3, 3, 0, 0, pmc_4)) rfl rfl (cm_4 (pw_dp hd (by decide)) I (0) (by omega) (by omega) (mo) (by omega) (by omega)) ?_
  rintro u3 v2 ⟨rfl, x4, rfl, hx4a, hx4b⟩
  refine ⟨_, rfl, ?_⟩
  show pw X d h 166 9 [some (.ref 16), some (pw_i mo), none, none, none, none, none] [pw_i x4] _
  refine pw_ld E (pc' := 10) (st' := [.ref 16, pw_i x4]) rfl (fun _ => rfl) ?_
  refine pw_getR (b := 23) I E (c := 0) (k := 1) (pc' := 13) rfl rfl rfl rfl rfl rfl rfl ?_
  refine pw_ld E (pc' := 14) (st' := [pw_i 1, .ref 23, pw_i x4]) rfl (fun _ => rfl) ?_
  refine pw_ld E (pc' := 15) (st' := [pw_i mo, pw_i 1, .ref 23, pw_i x4]) rfl (fun _ => rfl) ?_
  obtain ⟨f5l, f5h, -⟩ := pw_obj (c := 7) I rfl
  refine pw_call (m' := 4) (As := [.ref 23, pw_i 1, pw_i mo]) (rest := [pw_i x4]) (ls'' := [some (.ref 23), some (pw_i 1), some (pw_i mo)]) (Nat.le_trans (by decide) hd) E rfl (fun _ => pw_iV rfl rfl rfl rfl (pw_cellI f5h rfl)) (rfl : pm_ent 4 = some (3, 3, 0, 0, pmc_4)) rfl rfl (cm_4 (pw_dp hd (by decide)) I (1) (by omega) (by omega) (mo) (by omega) (by omega)) ?_
  rintro u7 v6 ⟨rfl, x8, rfl, hx8a, hx8b⟩
  refine ⟨_, rfl, ?_⟩
  show pw X d h 166 18 [some (.ref 16), some (pw_i mo), none, none, none, none, none] [pw_i x8, pw_i x4] _
  refine pw_sub E (pc' := 19) rfl rfl ?_
  refine pw_istn E (pc' := 20) (ls' := [some (.ref 16), some (pw_i mo), some (pw_i (x4 - x8)), none, none, none, none]) rfl rfl rfl rfl ?_
  refine pw_ld E (pc' := 21) (st' := [pw_i (x4 - x8)]) rfl (fun _ => rfl) ?_
  refine pw_if E (pc' := 26) rfl (by decide) (by omega) (by omega) ?_ ?_
  · intro hc9
    change x4 - x8 ≠ (0 : Int) at hc9
    refine pw_ld E (pc' := 27) (st' := [pw_i (x4 - x8)]) rfl (fun _ => rfl) ?_
    refine pw_if E (pc' := 34) rfl (by decide) (by omega) (by omega) ?_ ?_
    · intro hc10
      change x4 - x8 ≤ (0 : Int) at hc10
      refine pw_ld E (pc' := 35) (st' := [pw_i 1]) rfl (fun _ => rfl) ?_
      refine pw_istn E (pc' := 36) (ls' := [some (.ref 16), some (pw_i mo), some (pw_i (x4 - x8)), some (pw_i 1), none, none, none]) rfl rfl rfl rfl ?_
      refine pw_ld E (pc' := 37) (st' := [pw_i 0]) rfl (fun _ => rfl) ?_
      refine pw_ist E (pc' := 39) (ls' := [some (.ref 16), some (pw_i mo), some (pw_i (x4 - x8)), some (pw_i 1), some (pw_i 0), none, none]) rfl rfl rfl rfl ?_
      refine pw_ld E (pc' := 40) (st' := [pw_i 0]) rfl (fun _ => rfl) ?_
      refine pw_ist E (pc' := 42) (ls' := [some (.ref 16), some (pw_i mo), some (pw_i (x4 - x8)), some (pw_i 1), some (pw_i 0), some (pw_i 0), none]) rfl rfl rfl rfl ?_
      refine pw_ld E (pc' := 43) (st' := [pw_i 0]) rfl (fun _ => rfl) ?_
      refine pw_ist E (pc' := 45) (ls' := [some (.ref 16), some (pw_i mo), some (pw_i (x4 - x8)), some (pw_i 1), some (pw_i 0), some (pw_i 0), some (pw_i 0)]) rfl rfl rfl rfl ?_
      have L45 : ∀ (n45 : Nat) (k45_4 : Int) (k45_5 : Int) (k45_6 : Int), 0 ≤ k45_4 → k45_4 ≤ 24 → 0 ≤ k45_5 → k45_5 ≤ 24 → 0 ≤ k45_6 → k45_6 ≤ 24 → k45_4 + 0 ≤ k45_6 + 0 → k45_5 + 0 ≤ k45_6 + 0 → (24 - k45_6).toNat = n45 → pw X d h 166 45 [some (.ref 16), some (pw_i mo), some (pw_i (x4 - x8)), some (pw_i 1), some (pw_i k45_4), some (pw_i k45_5), some (pw_i k45_6)] [] (fun h' v => h = h' ∧ ∃ a : Int, v = .inl (some (pw_i a)) ∧ (-2147483648) ≤ a ∧ a ≤ 2147483647) := by
        intro n45
        induction n45 using Nat.strongRecOn with
        | ind n45 ih45 =>
          intro k45_4 k45_5 k45_6 k45_4a k45_4b k45_5a k45_5b k45_6a k45_6b hx45_0 hx45_1 hm45
          refine pw_ld E (pc' := 47) (st' := [pw_i k45_6]) rfl (fun _ => rfl) ?_
          refine pw_bip E (pc' := 49) rfl rfl (by decide) ?_
          refine pw_if2 E (pc' := 118) rfl (by decide) (by omega) (by omega) (by decide) (by decide) ?_ ?_
          · intro hc11
            change (24 : Int) ≤ k45_6 at hc11
            refine pw_ld E (pc' := 120) (st' := [pw_i k45_4]) rfl (fun _ => rfl) ?_
            refine pw_ld E (pc' := 122) (st' := [pw_i k45_5, pw_i k45_4]) rfl (fun _ => rfl) ?_
            refine pw_mul E (pc' := 123) rfl rfl ?_
            refine pw_nm (fun x12 hx12a hx12b => ?_)
            refine pw_iret E rfl ?_
            exact ⟨rfl, ⟨_, rfl, by omega, by omega⟩⟩
          · intro hc13
            change ¬ ((24 : Int) ≤ k45_6) at hc13
            refine pw_ld E (pc' := 53) (st' := [.ref 16]) rfl (fun _ => rfl) ?_
            refine pw_getR (b := 17) I E (c := 0) (k := 0) (pc' := 56) rfl rfl rfl rfl rfl rfl rfl ?_
            refine pw_ld E (pc' := 58) (st' := [pw_i k45_6, .ref 17]) rfl (fun _ => rfl) ?_
            obtain ⟨f14l, f14h, -⟩ := pw_obj (c := 1) I rfl
            refine pw_call (m' := 59) (As := [.ref 17, pw_i k45_6]) (rest := []) (ls'' := [some (.ref 17), some (pw_i k45_6)]) (Nat.le_trans (by decide) hd) E rfl (fun _ => pw_iV rfl rfl rfl rfl (pw_cellI f14h rfl)) (rfl : pm_ent 59 = some (2, 2, 6, 1, pmc_59)) rfl rfl (cm_59 (pw_dp hd (by decide)) I (k45_6) (by omega) (by omega)) ?_
            rintro u16 v15 ⟨rfl, x17, rfl, hx17a, hx17b, hx17r⟩
            refine ⟨_, rfl, ?_⟩
            show pw X d h 166 61 [some (.ref 16), some (pw_i mo), some (pw_i (x4 - x8)), some (pw_i 1), some (pw_i k45_4), some (pw_i k45_5), some (pw_i k45_6)] [pw_i x17] _
            change x17 = pw_g h 2 k45_6.toNat at hx17r
            rcases (by omega : x17 = 1 ∨ x17 = 0) with hb18 | hb18
            · skip
              refine pw_if E (pc' := 112) rfl (by decide) (by omega) (by omega) ?_ ?_
              · intro hc19
                change x17 = (0 : Int) at hc19
                exfalso; omega
              · intro hc20
                change ¬ (x17 = (0 : Int)) at hc20
                refine pw_ld E (pc' := 65) (st' := [.ref 16]) rfl (fun _ => rfl) ?_
                refine pw_getR (b := 26) I E (c := 0) (k := 2) (pc' := 68) rfl rfl rfl rfl rfl rfl rfl ?_
                refine pw_ld E (pc' := 70) (st' := [pw_i k45_6, .ref 26]) rfl (fun _ => rfl) ?_
                refine pw_ld E (pc' := 71) (st' := [pw_i mo, pw_i k45_6, .ref 26]) rfl (fun _ => rfl) ?_
                refine pw_ld E (pc' := 72) (st' := [pw_i 1, pw_i mo, pw_i k45_6, .ref 26]) rfl (fun _ => rfl) ?_
                refine pw_sub E (pc' := 73) rfl rfl ?_
                refine pw_ld E (pc' := 74) (st' := [pw_i mo, pw_i (mo - 1), pw_i k45_6, .ref 26]) rfl (fun _ => rfl) ?_
                obtain ⟨f21l, f21h, -⟩ := pw_obj (c := 10) I rfl
                refine pw_call (m' := 23) (As := [.ref 26, pw_i k45_6, pw_i (mo - 1), pw_i mo]) (rest := []) (ls'' := [some (.ref 26), some (pw_i k45_6), some (pw_i (mo - 1)), some (pw_i mo)]) (Nat.le_trans (by decide) hd) E rfl (fun _ => pw_iV rfl rfl rfl rfl (pw_cellI f21h rfl)) (rfl : pm_ent 23 = some (4, 4, 2, 1, pmc_23)) rfl rfl (cm_23 (pw_dp hd (by decide)) I 10 (by unfold pw_Lg; omega) (k45_6) (by omega) (by omega) (mo - 1) (by omega) (by omega) (mo) (by omega) (by omega)) ?_
                rintro u23 v22 ⟨rfl, x24, rfl, hx24a, hx24b⟩
                refine ⟨_, rfl, ?_⟩
                show pw X d h 166 77 [some (.ref 16), some (pw_i mo), some (pw_i (x4 - x8)), some (pw_i 1), some (pw_i k45_4), some (pw_i k45_5), some (pw_i k45_6)] [pw_i x24] _
                refine pw_if E (pc' := 112) rfl (by decide) (by omega) (by omega) ?_ ?_
                · intro hc25
                  change x24 = (0 : Int) at hc25
                  refine pw_inc E (pc' := 115) (ls' := [some (.ref 16), some (pw_i mo), some (pw_i (x4 - x8)), some (pw_i 1), some (pw_i k45_4), some (pw_i k45_5), some (pw_i (k45_6 + 1))]) rfl rfl rfl rfl ?_
                  refine pw_goto E (pc' := 45) rfl (by decide) ?_
                  exact ih45 _ (by omega) (k45_4) (k45_5) (k45_6 + 1)  (by omega) (by omega) (by omega) (by omega) (by omega) (by omega) (by omega) (by omega) rfl
                · intro hc26
                  change ¬ (x24 = (0 : Int)) at hc26
                  refine pw_ld E (pc' := 81) (st' := [.ref 16]) rfl (fun _ => rfl) ?_
                  refine pw_getR (b := 17) I E (c := 0) (k := 0) (pc' := 84) rfl rfl rfl rfl rfl rfl rfl ?_
                  refine pw_ld E (pc' := 86) (st' := [pw_i k45_6, .ref 17]) rfl (fun _ => rfl) ?_
                  obtain ⟨f27l, f27h, -⟩ := pw_obj (c := 1) I rfl
                  refine pw_call (m' := 60) (As := [.ref 17, pw_i k45_6]) (rest := []) (ls'' := [some (.ref 17), some (pw_i k45_6)]) (Nat.le_trans (by decide) hd) E rfl (fun _ => pw_iV rfl rfl rfl rfl (pw_cellI f27h rfl)) (rfl : pm_ent 60 = some (2, 2, 6, 0, pmc_60)) rfl rfl (cm_60 (pw_dp hd (by decide)) I (k45_6) (by omega) (by omega)) ?_
                  rintro u29 v28 ⟨rfl, x30, rfl, hx30a, hx30b, hx30r⟩
                  refine ⟨_, rfl, ?_⟩
                  show pw X d h 166 89 [some (.ref 16), some (pw_i mo), some (pw_i (x4 - x8)), some (pw_i 1), some (pw_i k45_4), some (pw_i k45_5), some (pw_i k45_6)] [pw_i x30] _
                  change x30 = pw_g h 4 k45_6.toNat at hx30r
                  refine pw_ld E (pc' := 90) (st' := [pw_i 1, pw_i x30]) rfl (fun _ => rfl) ?_
                  refine pw_if2 E (pc' := 99) rfl (by decide) (by omega) (by omega) (by decide) (by decide) ?_ ?_
                  · intro hc31
                    change x30 = (1 : Int) at hc31
                    refine pw_ld E (pc' := 100) (st' := [.ref 16]) rfl (fun _ => rfl) ?_
                    refine pw_ld E (pc' := 102) (st' := [pw_i k45_6, .ref 16]) rfl (fun _ => rfl) ?_
                    refine pw_ld E (pc' := 103) (st' := [pw_i mo, pw_i k45_6, .ref 16]) rfl (fun _ => rfl) ?_
                    obtain ⟨f32l, f32h, -⟩ := pw_obj (c := 0) I rfl
                    refine pw_call (m' := 159) (As := [.ref 16, pw_i k45_6, pw_i mo]) (rest := []) (ls'' := [some (.ref 16), some (pw_i k45_6), some (pw_i mo)]) (Nat.le_trans (by decide) hd) E rfl (fun _ => pw_iV rfl rfl rfl rfl (pw_cellI f32h rfl)) (rfl : pm_ent 159 = some (3, 3, 11, 1, pmc_159)) rfl rfl (cm_159 (pw_dp hd (by decide)) I (k45_6) (by omega) (by omega) (mo) (by omega) (by omega)) ?_
                    rintro u34 v33 ⟨rfl, x35, rfl, hx35a, hx35b⟩
                    refine ⟨_, rfl, ?_⟩
                    show pw X d h 166 106 [some (.ref 16), some (pw_i mo), some (pw_i (x4 - x8)), some (pw_i 1), some (pw_i k45_4), some (pw_i k45_5), some (pw_i k45_6)] [pw_i x35] _
                    refine pw_if E (pc' := 112) rfl (by decide) (by omega) (by omega) ?_ ?_
                    · intro hc36
                      change x35 = (0 : Int) at hc36
                      refine pw_inc E (pc' := 115) (ls' := [some (.ref 16), some (pw_i mo), some (pw_i (x4 - x8)), some (pw_i 1), some (pw_i k45_4), some (pw_i k45_5), some (pw_i (k45_6 + 1))]) rfl rfl rfl rfl ?_
                      refine pw_goto E (pc' := 45) rfl (by decide) ?_
                      exact ih45 _ (by omega) (k45_4) (k45_5) (k45_6 + 1)  (by omega) (by omega) (by omega) (by omega) (by omega) (by omega) (by omega) (by omega) rfl
                    · intro hc37
                      change ¬ (x35 = (0 : Int)) at hc37
                      refine pw_inc E (pc' := 112) (ls' := [some (.ref 16), some (pw_i mo), some (pw_i (x4 - x8)), some (pw_i 1), some (pw_i (k45_4 + 1)), some (pw_i k45_5), some (pw_i k45_6)]) rfl rfl rfl rfl ?_
                      refine pw_inc E (pc' := 115) (ls' := [some (.ref 16), some (pw_i mo), some (pw_i (x4 - x8)), some (pw_i 1), some (pw_i (k45_4 + 1)), some (pw_i k45_5), some (pw_i (k45_6 + 1))]) rfl rfl rfl rfl ?_
                      refine pw_goto E (pc' := 45) rfl (by decide) ?_
                      exact ih45 _ (by omega) (k45_4 + 1) (k45_5) (k45_6 + 1)  (by omega) (by omega) (by omega) (by omega) (by omega) (by omega) (by omega) (by omega) rfl
                  · intro hc38
                    change ¬ (x30 = (1 : Int)) at hc38
                    refine pw_inc E (pc' := 96) (ls' := [some (.ref 16), some (pw_i mo), some (pw_i (x4 - x8)), some (pw_i 1), some (pw_i k45_4), some (pw_i (k45_5 + 1)), some (pw_i k45_6)]) rfl rfl rfl rfl ?_
                    refine pw_goto E (pc' := 112) rfl (by decide) ?_
                    refine pw_inc E (pc' := 115) (ls' := [some (.ref 16), some (pw_i mo), some (pw_i (x4 - x8)), some (pw_i 1), some (pw_i k45_4), some (pw_i (k45_5 + 1)), some (pw_i (k45_6 + 1))]) rfl rfl rfl rfl ?_
                    refine pw_goto E (pc' := 45) rfl (by decide) ?_
                    exact ih45 _ (by omega) (k45_4) (k45_5 + 1) (k45_6 + 1)  (by omega) (by omega) (by omega) (by omega) (by omega) (by omega) (by omega) (by omega) rfl
            · skip
              refine pw_if E (pc' := 112) rfl (by decide) (by omega) (by omega) ?_ ?_
              · intro hc40
                change x17 = (0 : Int) at hc40
                refine pw_inc E (pc' := 115) (ls' := [some (.ref 16), some (pw_i mo), some (pw_i (x4 - x8)), some (pw_i 1), some (pw_i k45_4), some (pw_i k45_5), some (pw_i (k45_6 + 1))]) rfl rfl rfl rfl ?_
                refine pw_goto E (pc' := 45) rfl (by decide) ?_
                exact ih45 _ (by omega) (k45_4) (k45_5) (k45_6 + 1)  (by omega) (by omega) (by omega) (by omega) (by omega) (by omega) (by omega) (by omega) rfl
              · intro hc41
                change ¬ (x17 = (0 : Int)) at hc41
                exfalso; omega
      exact L45 _ (0) (0) (0)  (by omega) (by omega) (by omega) (by omega) (by omega) (by omega) (by omega) (by omega) rfl
    · intro hc42
      change ¬ (x4 - x8 ≤ (0 : Int)) at hc42
      refine pw_ld E (pc' := 31) (st' := [pw_i 0]) rfl (fun _ => rfl) ?_
      refine pw_goto E (pc' := 35) rfl (by decide) ?_
      refine pw_istn E (pc' := 36) (ls' := [some (.ref 16), some (pw_i mo), some (pw_i (x4 - x8)), some (pw_i 0), none, none, none]) rfl rfl rfl rfl ?_
      refine pw_ld E (pc' := 37) (st' := [pw_i 0]) rfl (fun _ => rfl) ?_
      refine pw_ist E (pc' := 39) (ls' := [some (.ref 16), some (pw_i mo), some (pw_i (x4 - x8)), some (pw_i 0), some (pw_i 0), none, none]) rfl rfl rfl rfl ?_
      refine pw_ld E (pc' := 40) (st' := [pw_i 0]) rfl (fun _ => rfl) ?_
      refine pw_ist E (pc' := 42) (ls' := [some (.ref 16), some (pw_i mo), some (pw_i (x4 - x8)), some (pw_i 0), some (pw_i 0), some (pw_i 0), none]) rfl rfl rfl rfl ?_
      refine pw_ld E (pc' := 43) (st' := [pw_i 0]) rfl (fun _ => rfl) ?_
      refine pw_ist E (pc' := 45) (ls' := [some (.ref 16), some (pw_i mo), some (pw_i (x4 - x8)), some (pw_i 0), some (pw_i 0), some (pw_i 0), some (pw_i 0)]) rfl rfl rfl rfl ?_
      have L45 : ∀ (n45 : Nat) (k45_4 : Int) (k45_5 : Int) (k45_6 : Int), 0 ≤ k45_4 → k45_4 ≤ 24 → 0 ≤ k45_5 → k45_5 ≤ 24 → 0 ≤ k45_6 → k45_6 ≤ 24 → k45_4 + 0 ≤ k45_6 + 0 → k45_5 + 0 ≤ k45_6 + 0 → (24 - k45_6).toNat = n45 → pw X d h 166 45 [some (.ref 16), some (pw_i mo), some (pw_i (x4 - x8)), some (pw_i 0), some (pw_i k45_4), some (pw_i k45_5), some (pw_i k45_6)] [] (fun h' v => h = h' ∧ ∃ a : Int, v = .inl (some (pw_i a)) ∧ (-2147483648) ≤ a ∧ a ≤ 2147483647) := by
        intro n45
        induction n45 using Nat.strongRecOn with
        | ind n45 ih45 =>
          intro k45_4 k45_5 k45_6 k45_4a k45_4b k45_5a k45_5b k45_6a k45_6b hx45_0 hx45_1 hm45
          refine pw_ld E (pc' := 47) (st' := [pw_i k45_6]) rfl (fun _ => rfl) ?_
          refine pw_bip E (pc' := 49) rfl rfl (by decide) ?_
          refine pw_if2 E (pc' := 118) rfl (by decide) (by omega) (by omega) (by decide) (by decide) ?_ ?_
          · intro hc43
            change (24 : Int) ≤ k45_6 at hc43
            refine pw_ld E (pc' := 120) (st' := [pw_i k45_4]) rfl (fun _ => rfl) ?_
            refine pw_ld E (pc' := 122) (st' := [pw_i k45_5, pw_i k45_4]) rfl (fun _ => rfl) ?_
            refine pw_mul E (pc' := 123) rfl rfl ?_
            refine pw_nm (fun x44 hx44a hx44b => ?_)
            refine pw_iret E rfl ?_
            exact ⟨rfl, ⟨_, rfl, by omega, by omega⟩⟩
          · intro hc45
            change ¬ ((24 : Int) ≤ k45_6) at hc45
            refine pw_ld E (pc' := 53) (st' := [.ref 16]) rfl (fun _ => rfl) ?_
            refine pw_getR (b := 17) I E (c := 0) (k := 0) (pc' := 56) rfl rfl rfl rfl rfl rfl rfl ?_
            refine pw_ld E (pc' := 58) (st' := [pw_i k45_6, .ref 17]) rfl (fun _ => rfl) ?_
            obtain ⟨f46l, f46h, -⟩ := pw_obj (c := 1) I rfl
            refine pw_call (m' := 59) (As := [.ref 17, pw_i k45_6]) (rest := []) (ls'' := [some (.ref 17), some (pw_i k45_6)]) (Nat.le_trans (by decide) hd) E rfl (fun _ => pw_iV rfl rfl rfl rfl (pw_cellI f46h rfl)) (rfl : pm_ent 59 = some (2, 2, 6, 1, pmc_59)) rfl rfl (cm_59 (pw_dp hd (by decide)) I (k45_6) (by omega) (by omega)) ?_
            rintro u48 v47 ⟨rfl, x49, rfl, hx49a, hx49b, hx49r⟩
            refine ⟨_, rfl, ?_⟩
            show pw X d h 166 61 [some (.ref 16), some (pw_i mo), some (pw_i (x4 - x8)), some (pw_i 0), some (pw_i k45_4), some (pw_i k45_5), some (pw_i k45_6)] [pw_i x49] _
            change x49 = pw_g h 2 k45_6.toNat at hx49r
            rcases (by omega : x49 = 1 ∨ x49 = 0) with hb50 | hb50
            · skip
              refine pw_if E (pc' := 112) rfl (by decide) (by omega) (by omega) ?_ ?_
              · intro hc51
                change x49 = (0 : Int) at hc51
                exfalso; omega
              · intro hc52
                change ¬ (x49 = (0 : Int)) at hc52
                refine pw_ld E (pc' := 65) (st' := [.ref 16]) rfl (fun _ => rfl) ?_
                refine pw_getR (b := 26) I E (c := 0) (k := 2) (pc' := 68) rfl rfl rfl rfl rfl rfl rfl ?_
                refine pw_ld E (pc' := 70) (st' := [pw_i k45_6, .ref 26]) rfl (fun _ => rfl) ?_
                refine pw_ld E (pc' := 71) (st' := [pw_i mo, pw_i k45_6, .ref 26]) rfl (fun _ => rfl) ?_
                refine pw_ld E (pc' := 72) (st' := [pw_i 1, pw_i mo, pw_i k45_6, .ref 26]) rfl (fun _ => rfl) ?_
                refine pw_sub E (pc' := 73) rfl rfl ?_
                refine pw_ld E (pc' := 74) (st' := [pw_i mo, pw_i (mo - 1), pw_i k45_6, .ref 26]) rfl (fun _ => rfl) ?_
                obtain ⟨f53l, f53h, -⟩ := pw_obj (c := 10) I rfl
                refine pw_call (m' := 23) (As := [.ref 26, pw_i k45_6, pw_i (mo - 1), pw_i mo]) (rest := []) (ls'' := [some (.ref 26), some (pw_i k45_6), some (pw_i (mo - 1)), some (pw_i mo)]) (Nat.le_trans (by decide) hd) E rfl (fun _ => pw_iV rfl rfl rfl rfl (pw_cellI f53h rfl)) (rfl : pm_ent 23 = some (4, 4, 2, 1, pmc_23)) rfl rfl (cm_23 (pw_dp hd (by decide)) I 10 (by unfold pw_Lg; omega) (k45_6) (by omega) (by omega) (mo - 1) (by omega) (by omega) (mo) (by omega) (by omega)) ?_
                rintro u55 v54 ⟨rfl, x56, rfl, hx56a, hx56b⟩
                refine ⟨_, rfl, ?_⟩
                show pw X d h 166 77 [some (.ref 16), some (pw_i mo), some (pw_i (x4 - x8)), some (pw_i 0), some (pw_i k45_4), some (pw_i k45_5), some (pw_i k45_6)] [pw_i x56] _
                refine pw_if E (pc' := 112) rfl (by decide) (by omega) (by omega) ?_ ?_
                · intro hc57
                  change x56 = (0 : Int) at hc57
                  refine pw_inc E (pc' := 115) (ls' := [some (.ref 16), some (pw_i mo), some (pw_i (x4 - x8)), some (pw_i 0), some (pw_i k45_4), some (pw_i k45_5), some (pw_i (k45_6 + 1))]) rfl rfl rfl rfl ?_
                  refine pw_goto E (pc' := 45) rfl (by decide) ?_
                  exact ih45 _ (by omega) (k45_4) (k45_5) (k45_6 + 1)  (by omega) (by omega) (by omega) (by omega) (by omega) (by omega) (by omega) (by omega) rfl
                · intro hc58
                  change ¬ (x56 = (0 : Int)) at hc58
                  refine pw_ld E (pc' := 81) (st' := [.ref 16]) rfl (fun _ => rfl) ?_
                  refine pw_getR (b := 17) I E (c := 0) (k := 0) (pc' := 84) rfl rfl rfl rfl rfl rfl rfl ?_
                  refine pw_ld E (pc' := 86) (st' := [pw_i k45_6, .ref 17]) rfl (fun _ => rfl) ?_
                  obtain ⟨f59l, f59h, -⟩ := pw_obj (c := 1) I rfl
                  refine pw_call (m' := 60) (As := [.ref 17, pw_i k45_6]) (rest := []) (ls'' := [some (.ref 17), some (pw_i k45_6)]) (Nat.le_trans (by decide) hd) E rfl (fun _ => pw_iV rfl rfl rfl rfl (pw_cellI f59h rfl)) (rfl : pm_ent 60 = some (2, 2, 6, 0, pmc_60)) rfl rfl (cm_60 (pw_dp hd (by decide)) I (k45_6) (by omega) (by omega)) ?_
                  rintro u61 v60 ⟨rfl, x62, rfl, hx62a, hx62b, hx62r⟩
                  refine ⟨_, rfl, ?_⟩
                  show pw X d h 166 89 [some (.ref 16), some (pw_i mo), some (pw_i (x4 - x8)), some (pw_i 0), some (pw_i k45_4), some (pw_i k45_5), some (pw_i k45_6)] [pw_i x62] _
                  change x62 = pw_g h 4 k45_6.toNat at hx62r
                  refine pw_ld E (pc' := 90) (st' := [pw_i 0, pw_i x62]) rfl (fun _ => rfl) ?_
                  refine pw_if2 E (pc' := 99) rfl (by decide) (by omega) (by omega) (by decide) (by decide) ?_ ?_
                  · intro hc63
                    change x62 = (0 : Int) at hc63
                    refine pw_ld E (pc' := 100) (st' := [.ref 16]) rfl (fun _ => rfl) ?_
                    refine pw_ld E (pc' := 102) (st' := [pw_i k45_6, .ref 16]) rfl (fun _ => rfl) ?_
                    refine pw_ld E (pc' := 103) (st' := [pw_i mo, pw_i k45_6, .ref 16]) rfl (fun _ => rfl) ?_
                    obtain ⟨f64l, f64h, -⟩ := pw_obj (c := 0) I rfl
                    refine pw_call (m' := 159) (As := [.ref 16, pw_i k45_6, pw_i mo]) (rest := []) (ls'' := [some (.ref 16), some (pw_i k45_6), some (pw_i mo)]) (Nat.le_trans (by decide) hd) E rfl (fun _ => pw_iV rfl rfl rfl rfl (pw_cellI f64h rfl)) (rfl : pm_ent 159 = some (3, 3, 11, 1, pmc_159)) rfl rfl (cm_159 (pw_dp hd (by decide)) I (k45_6) (by omega) (by omega) (mo) (by omega) (by omega)) ?_
                    rintro u66 v65 ⟨rfl, x67, rfl, hx67a, hx67b⟩
                    refine ⟨_, rfl, ?_⟩
                    show pw X d h 166 106 [some (.ref 16), some (pw_i mo), some (pw_i (x4 - x8)), some (pw_i 0), some (pw_i k45_4), some (pw_i k45_5), some (pw_i k45_6)] [pw_i x67] _
                    refine pw_if E (pc' := 112) rfl (by decide) (by omega) (by omega) ?_ ?_
                    · intro hc68
                      change x67 = (0 : Int) at hc68
                      refine pw_inc E (pc' := 115) (ls' := [some (.ref 16), some (pw_i mo), some (pw_i (x4 - x8)), some (pw_i 0), some (pw_i k45_4), some (pw_i k45_5), some (pw_i (k45_6 + 1))]) rfl rfl rfl rfl ?_
                      refine pw_goto E (pc' := 45) rfl (by decide) ?_
                      exact ih45 _ (by omega) (k45_4) (k45_5) (k45_6 + 1)  (by omega) (by omega) (by omega) (by omega) (by omega) (by omega) (by omega) (by omega) rfl
                    · intro hc69
                      change ¬ (x67 = (0 : Int)) at hc69
                      refine pw_inc E (pc' := 112) (ls' := [some (.ref 16), some (pw_i mo), some (pw_i (x4 - x8)), some (pw_i 0), some (pw_i (k45_4 + 1)), some (pw_i k45_5), some (pw_i k45_6)]) rfl rfl rfl rfl ?_
                      refine pw_inc E (pc' := 115) (ls' := [some (.ref 16), some (pw_i mo), some (pw_i (x4 - x8)), some (pw_i 0), some (pw_i (k45_4 + 1)), some (pw_i k45_5), some (pw_i (k45_6 + 1))]) rfl rfl rfl rfl ?_
                      refine pw_goto E (pc' := 45) rfl (by decide) ?_
                      exact ih45 _ (by omega) (k45_4 + 1) (k45_5) (k45_6 + 1)  (by omega) (by omega) (by omega) (by omega) (by omega) (by omega) (by omega) (by omega) rfl
                  · intro hc70
                    change ¬ (x62 = (0 : Int)) at hc70
                    refine pw_inc E (pc' := 96) (ls' := [some (.ref 16), some (pw_i mo), some (pw_i (x4 - x8)), some (pw_i 0), some (pw_i k45_4), some (pw_i (k45_5 + 1)), some (pw_i k45_6)]) rfl rfl rfl rfl ?_
                    refine pw_goto E (pc' := 112) rfl (by decide) ?_
                    refine pw_inc E (pc' := 115) (ls' := [some (.ref 16), some (pw_i mo), some (pw_i (x4 - x8)), some (pw_i 0), some (pw_i k45_4), some (pw_i (k45_5 + 1)), some (pw_i (k45_6 + 1))]) rfl rfl rfl rfl ?_
                    refine pw_goto E (pc' := 45) rfl (by decide) ?_
                    exact ih45 _ (by omega) (k45_4) (k45_5 + 1) (k45_6 + 1)  (by omega) (by omega) (by omega) (by omega) (by omega) (by omega) (by omega) (by omega) rfl
            · skip
              refine pw_if E (pc' := 112) rfl (by decide) (by omega) (by omega) ?_ ?_
              · intro hc72
                change x49 = (0 : Int) at hc72
                refine pw_inc E (pc' := 115) (ls' := [some (.ref 16), some (pw_i mo), some (pw_i (x4 - x8)), some (pw_i 0), some (pw_i k45_4), some (pw_i k45_5), some (pw_i (k45_6 + 1))]) rfl rfl rfl rfl ?_
                refine pw_goto E (pc' := 45) rfl (by decide) ?_
                exact ih45 _ (by omega) (k45_4) (k45_5) (k45_6 + 1)  (by omega) (by omega) (by omega) (by omega) (by omega) (by omega) (by omega) (by omega) rfl
              · intro hc73
                change ¬ (x49 = (0 : Int)) at hc73
                exfalso; omega
      exact L45 _ (0) (0) (0)  (by omega) (by omega) (by omega) (by omega) (by omega) (by omega) (by omega) (by omega) rfl
  · intro hc74
    change ¬ (x4 - x8 ≠ (0 : Int)) at hc74
    refine pw_ld E (pc' := 25) (st' := [pw_i 0]) rfl (fun _ => rfl) ?_
    refine pw_iret E rfl ?_
    exact ⟨rfl, ⟨_, rfl, by omega, by omega⟩⟩
set_option maxHeartbeats 4000000 in
theorem cm_165 {X : List (Nat × List Value)} {d : Nat} {h : pm_H} (hd : 4 ≤ d) (I : pw_I h) (wt : Int) (hwt1 : (-2147483648) ≤ wt) (hwt2 : wt ≤ 2147483647) : pw X d h 165 0 [some (.ref 16), some (pw_i wt), none, none, none, none] [] (fun h' v => h = h' ∧ ∃ a : Int, v = .inl (some (pw_i a)) ∧ (-2147483648) ≤ a ∧ a ≤ 2147483647) := by
  have E : pm_ent 165 = some (2, 6, 11, 0, pmc_165) := rfl
  refine pw_ld E (pc' := 1) (st' := [pw_i ((-1))]) rfl (fun _ => rfl) ?_
  refine pw_istn E (pc' := 2) (ls' := [some (.ref 16), some (pw_i wt), some (pw_i ((-1))), none, none, none]) rfl rfl rfl rfl ?_
  refine pw_ld E (pc' := 3) (st' := [pw_i 0]) rfl (fun _ => rfl) ?_
  refine pw_istn E (pc' := 4) (ls' := [some (.ref 16), some (pw_i wt), some (pw_i ((-1))), some (pw_i 0), none, none]) rfl rfl rfl rfl ?_
  refine pw_ld E (pc' := 5) (st' := [pw_i 1]) rfl (fun _ => rfl) ?_
  refine pw_ist E (pc' := 7) (ls' := [some (.ref 16), some (pw_i wt), some (pw_i ((-1))), some (pw_i 0), some (pw_i 1), none]) rfl rfl rfl rfl ?_
  have L7 : ∀ (n7 : Nat) (k7_2 : Int) (k7_3 : Int) (k7_4 : Int) (k7_5 : Option Value), (-2147483648) ≤ k7_2 → k7_2 ≤ 2147483647 → (-2147483648) ≤ k7_3 → k7_3 ≤ 2147483647 → 1 ≤ k7_4 → k7_4 ≤ 12 → (12 - k7_4).toNat = n7 → pw X d h 165 7 [some (.ref 16), some (pw_i wt), some (pw_i k7_2), some (pw_i k7_3), some (pw_i k7_4), k7_5] [] (fun h' v => h = h' ∧ ∃ a : Int, v = .inl (some (pw_i a)) ∧ (-2147483648) ≤ a ∧ a ≤ 2147483647) := by
    intro n7
    induction n7 using Nat.strongRecOn with
    | ind n7 ih7 =>
      intro k7_2 k7_3 k7_4 k7_5 k7_2a k7_2b k7_3a k7_3b k7_4a k7_4b hm7
      refine pw_ld E (pc' := 9) (st' := [pw_i k7_4]) rfl (fun _ => rfl) ?_
      refine pw_bip E (pc' := 11) rfl rfl (by decide) ?_
      refine pw_if2 E (pc' := 40) rfl (by decide) (by omega) (by omega) (by decide) (by decide) ?_ ?_
      · intro hc1
        change (12 : Int) ≤ k7_4 at hc1
        refine pw_ld E (pc' := 41) (st' := [pw_i k7_2]) rfl (fun _ => rfl) ?_
        refine pw_ld E (pc' := 42) (st' := [pw_i ((-1)), pw_i k7_2]) rfl (fun _ => rfl) ?_
        refine pw_if2 E (pc' := 54) rfl (by decide) (by omega) (by omega) (by decide) (by decide) ?_ ?_
        · intro hc2
          change k7_2 = ((-1) : Int) at hc2
          refine pw_ld E (pc' := 55) (st' := [pw_i ((-1))]) rfl (fun _ => rfl) ?_
          refine pw_iret E rfl ?_
          exact ⟨rfl, ⟨_, rfl, by omega, by omega⟩⟩
        · intro hc3
          change ¬ (k7_2 = ((-1) : Int)) at hc3
          refine pw_ld E (pc' := 46) (st' := [pw_i wt]) rfl (fun _ => rfl) ?_
          refine pw_ld E (pc' := 47) (st' := [pw_i 0, pw_i wt]) rfl (fun _ => rfl) ?_
          refine pw_ld E (pc' := 48) (st' := [pw_i 1, pw_i 0, pw_i wt]) rfl (fun _ => rfl) ?_
          refine pw_call (m' := 121) (As := [pw_i wt, pw_i 0, pw_i 1]) (rest := []) (ls'' := [some (pw_i wt), some (pw_i 0), some (pw_i 1)]) (Nat.le_trans (by decide) hd) E rfl (fun _ => pw_iS rfl rfl rfl) (rfl : pm_ent 121 = some (3, 3, 11, 1, pmc_121)) rfl rfl (cm_121 (pw_dp hd (by decide)) I (wt) (by omega) (by omega) (0) (by omega) (by omega) (1) (by omega) (by omega)) ?_
          rintro u5 v4 ⟨rfl, x6, rfl, hx6a, hx6b, hx6r⟩
          refine ⟨_, rfl, ?_⟩
          show pw X d h 165 51 [some (.ref 16), some (pw_i wt), some (pw_i k7_2), some (pw_i k7_3), some (pw_i k7_4), k7_5] [pw_i x6] _
          change (x6 = 1 ∧ 0 ≤ wt ∧ wt ≤ 1) ∨ (x6 = 0 ∧ ¬ (0 ≤ wt ∧ wt ≤ 1)) at hx6r
          rcases (by omega : x6 = 1 ∨ x6 = 0) with hb7 | hb7
          · skip
            refine pw_if E (pc' := 56) rfl (by decide) (by omega) (by omega) ?_ ?_
            · intro hc8
              change x6 ≠ (0 : Int) at hc8
              refine pw_ld E (pc' := 57) (st' := [pw_i wt]) rfl (fun _ => rfl) ?_
              refine pw_if E (pc' := 64) rfl (by decide) (by omega) (by omega) ?_ ?_
              · intro hc9
                change wt ≠ (0 : Int) at hc9
                refine pw_ld E (pc' := 65) (st' := [pw_i k7_3]) rfl (fun _ => rfl) ?_
                refine pw_iret E rfl ?_
                exact ⟨rfl, ⟨_, rfl, by omega, by omega⟩⟩
              · intro hc10
                change ¬ (wt ≠ (0 : Int)) at hc10
                refine pw_ld E (pc' := 61) (st' := [pw_i k7_2]) rfl (fun _ => rfl) ?_
                refine pw_goto E (pc' := 65) rfl (by decide) ?_
                refine pw_iret E rfl ?_
                exact ⟨rfl, ⟨_, rfl, by omega, by omega⟩⟩
            · intro hc11
              change ¬ (x6 ≠ (0 : Int)) at hc11
              exfalso; omega
          · skip
            refine pw_if E (pc' := 56) rfl (by decide) (by omega) (by omega) ?_ ?_
            · intro hc13
              change x6 ≠ (0 : Int) at hc13
              exfalso; omega
            · intro hc14
              change ¬ (x6 ≠ (0 : Int)) at hc14
              refine pw_ld E (pc' := 55) (st' := [pw_i ((-1))]) rfl (fun _ => rfl) ?_
              refine pw_iret E rfl ?_
              exact ⟨rfl, ⟨_, rfl, by omega, by omega⟩⟩
      · intro hc15
        change ¬ ((12 : Int) ≤ k7_4) at hc15
        refine pw_ld E (pc' := 15) (st' := [.ref 16]) rfl (fun _ => rfl) ?_
        refine pw_ld E (pc' := 17) (st' := [pw_i k7_4, .ref 16]) rfl (fun _ => rfl) ?_
        obtain ⟨f16l, f16h, -⟩ := pw_obj (c := 0) I rfl
        refine pw_call (m' := 166) (As := [.ref 16, pw_i k7_4]) (rest := []) (ls'' := [some (.ref 16), some (pw_i k7_4), none, none, none, none, none]) (Nat.le_trans (by decide) hd) E rfl (fun _ => pw_iV rfl rfl rfl rfl (pw_cellI f16h rfl)) (rfl : pm_ent 166 = some (2, 7, 11, 0, pmc_166)) rfl rfl (cm_166 (pw_dp hd (by decide)) I (k7_4) (by omega) (by omega)) ?_
        rintro u18 v17 ⟨rfl, x19, rfl, hx19a, hx19b⟩
        refine ⟨_, rfl, ?_⟩
        show pw X d h 165 20 [some (.ref 16), some (pw_i wt), some (pw_i k7_2), some (pw_i k7_3), some (pw_i k7_4), k7_5] [pw_i x19] _
        refine pw_ist E (pc' := 22) (ls' := [some (.ref 16), some (pw_i wt), some (pw_i k7_2), some (pw_i k7_3), some (pw_i k7_4), some (pw_i x19)]) rfl rfl rfl rfl ?_
        refine pw_ld E (pc' := 24) (st' := [pw_i x19]) rfl (fun _ => rfl) ?_
        refine pw_ld E (pc' := 25) (st' := [pw_i k7_3, pw_i x19]) rfl (fun _ => rfl) ?_
        refine pw_if2 E (pc' := 34) rfl (by decide) (by omega) (by omega) (by omega) (by omega) ?_ ?_
        · intro hc20
          change x19 ≤ k7_3 at hc20
          refine pw_inc E (pc' := 37) (ls' := [some (.ref 16), some (pw_i wt), some (pw_i k7_2), some (pw_i k7_3), some (pw_i (k7_4 + 1)), some (pw_i x19)]) rfl rfl rfl rfl ?_
          refine pw_goto E (pc' := 7) rfl (by decide) ?_
          exact ih7 _ (by omega) (k7_2) (k7_3) (k7_4 + 1) (some (pw_i x19))  (by omega) (by omega) (by omega) (by omega) (by omega) (by omega)  rfl
        · intro hc21
          change ¬ (x19 ≤ k7_3) at hc21
          refine pw_ld E (pc' := 30) (st' := [pw_i x19]) rfl (fun _ => rfl) ?_
          refine pw_istn E (pc' := 31) (ls' := [some (.ref 16), some (pw_i wt), some (pw_i k7_2), some (pw_i x19), some (pw_i k7_4), some (pw_i x19)]) rfl rfl rfl rfl ?_
          refine pw_ld E (pc' := 33) (st' := [pw_i k7_4]) rfl (fun _ => rfl) ?_
          refine pw_istn E (pc' := 34) (ls' := [some (.ref 16), some (pw_i wt), some (pw_i k7_4), some (pw_i x19), some (pw_i k7_4), some (pw_i x19)]) rfl rfl rfl rfl ?_
          refine pw_inc E (pc' := 37) (ls' := [some (.ref 16), some (pw_i wt), some (pw_i k7_4), some (pw_i x19), some (pw_i (k7_4 + 1)), some (pw_i x19)]) rfl rfl rfl rfl ?_
          refine pw_goto E (pc' := 7) rfl (by decide) ?_
          exact ih7 _ (by omega) (k7_4) (x19) (k7_4 + 1) (some (pw_i x19))  (by omega) (by omega) (by omega) (by omega) (by omega) (by omega)  rfl
  exact L7 _ ((-1)) (0) (1) (none)  (by omega) (by omega) (by omega) (by omega) (by omega) (by omega)  rfl
set_option maxHeartbeats 4000000 in
theorem cm_168 {X : List (Nat × List Value)} {d : Nat} {h : pm_H} (hd : 3 ≤ d) (I : pw_I h) (wt : Int) (hwt1 : (-2147483648) ≤ wt) (hwt2 : wt ≤ 2147483647) : pw X d h 168 0 [some (.ref 16), some (pw_i wt)] [] (fun h' v => h = h' ∧ ∃ a : Int, v = .inl (some (pw_i a)) ∧ (-2147483648) ≤ a ∧ a ≤ 2147483647) := by
  have E : pm_ent 168 = some (2, 2, 11, 0, pmc_168) := rfl
  refine pw_ld E (pc' := 1) (st' := [pw_i wt]) rfl (fun _ => rfl) ?_
  rcases (by omega : wt = 0 ∨ wt = 1 ∨ wt = 2 ∨ wt = 3 ∨ wt = 4 ∨ wt = 5 ∨ wt = 6 ∨ wt = 7 ∨ (wt < 0 ∨ 7 < wt)) with hs1 | hs1 | hs1 | hs1 | hs1 | hs1 | hs1 | hs1 | hs1
  · refine pw_tswJ (o := 47) E (pc' := 48) rfl (by omega) (by omega) (by omega) (by rw [hs1]; rfl) (by decide) ?_
    refine pw_ld E (pc' := 49) (st' := [.ref 16]) rfl (fun _ => rfl) ?_
    refine pw_getR (b := 17) I E (c := 0) (k := 0) (pc' := 52) rfl rfl rfl rfl rfl rfl rfl ?_
    refine pw_ld E (pc' := 53) (st' := [pw_i 0, .ref 17]) rfl (fun _ => rfl) ?_
    obtain ⟨f2l, f2h, -⟩ := pw_obj (c := 1) I rfl
    refine pw_call (m' := 62) (As := [.ref 17, pw_i 0]) (rest := []) (ls'' := [some (.ref 17), some (pw_i 0), none, none]) (Nat.le_trans (by decide) hd) E rfl (fun _ => pw_iV rfl rfl rfl rfl (pw_cellI f2h rfl)) (rfl : pm_ent 62 = some (2, 4, 6, 0, pmc_62)) rfl rfl (cm_62 (pw_dp hd (by decide)) I (0) (by omega) (by omega)) ?_
    rintro u4 v3 ⟨rfl, x5, rfl, hx5a, hx5b⟩
    refine ⟨_, rfl, ?_⟩
    show pw X d h 168 56 [some (.ref 16), some (pw_i wt)] [pw_i x5] _
    refine pw_ld E (pc' := 57) (st' := [.ref 16, pw_i x5]) rfl (fun _ => rfl) ?_
    refine pw_getR (b := 17) I E (c := 0) (k := 0) (pc' := 60) rfl rfl rfl rfl rfl rfl rfl ?_
    refine pw_ld E (pc' := 61) (st' := [pw_i 1, .ref 17, pw_i x5]) rfl (fun _ => rfl) ?_
    obtain ⟨f6l, f6h, -⟩ := pw_obj (c := 1) I rfl
    refine pw_call (m' := 62) (As := [.ref 17, pw_i 1]) (rest := [pw_i x5]) (ls'' := [some (.ref 17), some (pw_i 1), none, none]) (Nat.le_trans (by decide) hd) E rfl (fun _ => pw_iV rfl rfl rfl rfl (pw_cellI f6h rfl)) (rfl : pm_ent 62 = some (2, 4, 6, 0, pmc_62)) rfl rfl (cm_62 (pw_dp hd (by decide)) I (1) (by omega) (by omega)) ?_
    rintro u8 v7 ⟨rfl, x9, rfl, hx9a, hx9b⟩
    refine ⟨_, rfl, ?_⟩
    show pw X d h 168 64 [some (.ref 16), some (pw_i wt)] [pw_i x9, pw_i x5] _
    refine pw_add E (pc' := 65) rfl rfl ?_
    refine pw_iret E rfl ?_
    exact ⟨rfl, ⟨_, rfl, by omega, by omega⟩⟩
  · refine pw_tswJ (o := 65) E (pc' := 66) rfl (by omega) (by omega) (by omega) (by rw [hs1]; rfl) (by decide) ?_
    refine pw_ld E (pc' := 67) (st' := [.ref 16]) rfl (fun _ => rfl) ?_
    refine pw_getR (b := 26) I E (c := 0) (k := 2) (pc' := 70) rfl rfl rfl rfl rfl rfl rfl ?_
    obtain ⟨f10l, f10h, -⟩ := pw_obj (c := 10) I rfl
    refine pw_call (m' := 29) (As := [.ref 26]) (rest := []) (ls'' := [some (.ref 26), none, none]) (Nat.le_trans (by decide) hd) E rfl (fun _ => pw_iV rfl rfl rfl rfl (pw_cellI f10h rfl)) (rfl : pm_ent 29 = some (1, 3, 2, 0, pmc_29)) rfl rfl (cm_29 (pw_dp hd (by decide)) I 10 (by unfold pw_Lg; omega)) ?_
    rintro u12 v11 ⟨rfl, x13, rfl, hx13a, hx13b⟩
    refine ⟨_, rfl, ?_⟩
    show pw X d h 168 73 [some (.ref 16), some (pw_i wt)] [pw_i x13] _
    refine pw_iret E rfl ?_
    exact ⟨rfl, ⟨_, rfl, by omega, by omega⟩⟩
  · refine pw_tswJ (o := 73) E (pc' := 74) rfl (by omega) (by omega) (by omega) (by rw [hs1]; rfl) (by decide) ?_
    refine pw_ld E (pc' := 75) (st' := [.ref 16]) rfl (fun _ => rfl) ?_
    refine pw_getR (b := 28) I E (c := 0) (k := 3) (pc' := 78) rfl rfl rfl rfl rfl rfl rfl ?_
    obtain ⟨f14l, f14h, -⟩ := pw_obj (c := 12) I rfl
    refine pw_call (m' := 29) (As := [.ref 28]) (rest := []) (ls'' := [some (.ref 28), none, none]) (Nat.le_trans (by decide) hd) E rfl (fun _ => pw_iV rfl rfl rfl rfl (pw_cellI f14h rfl)) (rfl : pm_ent 29 = some (1, 3, 2, 0, pmc_29)) rfl rfl (cm_29 (pw_dp hd (by decide)) I 12 (by unfold pw_Lg; omega)) ?_
    rintro u16 v15 ⟨rfl, x17, rfl, hx17a, hx17b⟩
    refine ⟨_, rfl, ?_⟩
    show pw X d h 168 81 [some (.ref 16), some (pw_i wt)] [pw_i x17] _
    refine pw_iret E rfl ?_
    exact ⟨rfl, ⟨_, rfl, by omega, by omega⟩⟩
  · refine pw_tswJ (o := 81) E (pc' := 82) rfl (by omega) (by omega) (by omega) (by rw [hs1]; rfl) (by decide) ?_
    refine pw_ld E (pc' := 83) (st' := [.ref 16]) rfl (fun _ => rfl) ?_
    refine pw_getR (b := 116) I E (c := 0) (k := 18) (pc' := 86) rfl rfl rfl rfl rfl rfl rfl ?_
    obtain ⟨f18l, f18h, -⟩ := pw_obj (c := 100) I rfl
    refine pw_call (m' := 40) (As := [.ref 116]) (rest := []) (ls'' := [some (.ref 116)]) (Nat.le_trans (by decide) hd) E rfl (fun _ => pw_iV rfl rfl rfl rfl (pw_cellI f18h rfl)) (rfl : pm_ent 40 = some (1, 1, 4, 0, pmc_40)) rfl rfl (cm_40 (pw_dp hd (by decide)) I ) ?_
    rintro u20 v19 ⟨rfl, x21, rfl, hx21a, hx21b⟩
    refine ⟨_, rfl, ?_⟩
    show pw X d h 168 89 [some (.ref 16), some (pw_i wt)] [pw_i x21] _
    refine pw_iret E rfl ?_
    exact ⟨rfl, ⟨_, rfl, by omega, by omega⟩⟩
  · refine pw_tswJ (o := 89) E (pc' := 90) rfl (by omega) (by omega) (by omega) (by rw [hs1]; rfl) (by decide) ?_
    refine pw_ld E (pc' := 91) (st' := [.ref 16]) rfl (fun _ => rfl) ?_
    refine pw_getR (b := 116) I E (c := 0) (k := 18) (pc' := 94) rfl rfl rfl rfl rfl rfl rfl ?_
    obtain ⟨f22l, f22h, -⟩ := pw_obj (c := 100) I rfl
    refine pw_call (m' := 42) (As := [.ref 116]) (rest := []) (ls'' := [some (.ref 116), none, none]) (Nat.le_trans (by decide) hd) E rfl (fun _ => pw_iV rfl rfl rfl rfl (pw_cellI f22h rfl)) (rfl : pm_ent 42 = some (1, 3, 4, 0, pmc_42)) rfl rfl (cm_42 (pw_dp hd (by decide)) I ) ?_
    rintro u24 v23 ⟨rfl, x25, rfl, hx25a, hx25b⟩
    refine ⟨_, rfl, ?_⟩
    show pw X d h 168 97 [some (.ref 16), some (pw_i wt)] [pw_i x25] _
    refine pw_iret E rfl ?_
    exact ⟨rfl, ⟨_, rfl, by omega, by omega⟩⟩
  · refine pw_tswJ (o := 97) E (pc' := 98) rfl (by omega) (by omega) (by omega) (by rw [hs1]; rfl) (by decide) ?_
    refine pw_ld E (pc' := 99) (st' := [.ref 16]) rfl (fun _ => rfl) ?_
    refine pw_getI2 I E (c := 0) (k := 6) (pc' := 102) rfl rfl rfl rfl rfl rfl (fun hf26a hf26b => ?_)
    refine pw_iret E rfl ?_
    exact ⟨rfl, ⟨_, rfl, by omega, by omega⟩⟩
  · refine pw_tswJ (o := 102) E (pc' := 103) rfl (by omega) (by omega) (by omega) (by rw [hs1]; rfl) (by decide) ?_
    refine pw_ld E (pc' := 104) (st' := [.ref 16]) rfl (fun _ => rfl) ?_
    refine pw_getR (b := 40) I E (c := 0) (k := 10) (pc' := 107) rfl rfl rfl rfl rfl rfl rfl ?_
    obtain ⟨f27l, f27h, -⟩ := pw_obj (c := 24) I rfl
    refine pw_call (m' := 98) (As := [.ref 40]) (rest := []) (ls'' := [some (.ref 40)]) (Nat.le_trans (by decide) hd) E rfl (fun _ => pw_iV rfl rfl rfl rfl (pw_cellI f27h rfl)) (rfl : pm_ent 98 = some (1, 1, 9, 0, pmc_98)) rfl rfl (cm_98 (pw_dp hd (by decide)) I ) ?_
    rintro u29 v28 ⟨rfl, x30, rfl, hx30a, hx30b⟩
    refine ⟨_, rfl, ?_⟩
    show pw X d h 168 110 [some (.ref 16), some (pw_i wt)] [pw_i x30] _
    refine pw_iret E rfl ?_
    exact ⟨rfl, ⟨_, rfl, by omega, by omega⟩⟩
  · refine pw_tswJ (o := 110) E (pc' := 111) rfl (by omega) (by omega) (by omega) (by rw [hs1]; rfl) (by decide) ?_
    refine pw_ld E (pc' := 112) (st' := [.ref 16]) rfl (fun _ => rfl) ?_
    refine pw_getR (b := 17) I E (c := 0) (k := 0) (pc' := 115) rfl rfl rfl rfl rfl rfl rfl ?_
    obtain ⟨f31l, f31h, -⟩ := pw_obj (c := 1) I rfl
    refine pw_call (m' := 66) (As := [.ref 17]) (rest := []) (ls'' := [some (.ref 17), none, none]) (Nat.le_trans (by decide) hd) E rfl (fun _ => pw_iV rfl rfl rfl rfl (pw_cellI f31h rfl)) (rfl : pm_ent 66 = some (1, 3, 6, 0, pmc_66)) rfl rfl (cm_66 (pw_dp hd (by decide)) I ) ?_
    rintro u33 v32 ⟨rfl, x34, rfl, hx34a, hx34b⟩
    refine ⟨_, rfl, ?_⟩
    show pw X d h 168 118 [some (.ref 16), some (pw_i wt)] [pw_i x34] _
    refine pw_iret E rfl ?_
    exact ⟨rfl, ⟨_, rfl, by omega, by omega⟩⟩
  · refine pw_tswD E (pc' := 119) rfl (by omega) (by omega) hs1 (by decide) ?_
    refine pw_ld E (pc' := 120) (st' := [pw_i ((-1))]) rfl (fun _ => rfl) ?_
    refine pw_iret E rfl ?_
    exact ⟨rfl, ⟨_, rfl, by omega, by omega⟩⟩
set_option maxHeartbeats 4000000 in
theorem cm_170 {X : List (Nat × List Value)} {d : Nat} {h : pm_H} (hd : 4 ≤ d) (I : pw_I h) (k : Int) (hk1 : 0 ≤ k) (hk2 : k ≤ 23) (b : Int) (hb1 : 0 ≤ b) (hb2 : b ≤ 11) (e : Int) (he1 : 0 ≤ e) (he2 : e ≤ 11) (wt : Int) (hwt1 : (-2147483648) ≤ wt) (hwt2 : wt ≤ 2147483647) : pw X d h 170 0 [some (.ref 16), some (pw_i k), some (pw_i b), some (pw_i e), some (pw_i wt), none, none, none] [] (fun h' v => h = h' ∧ ∃ a : Int, v = .inl (some (pw_i a)) ∧ (-2147483648) ≤ a ∧ a ≤ 2147483647) := by
  have E : pm_ent 170 = some (5, 8, 11, 0, pmc_170) := rfl
  refine pw_ld E (pc' := 1) (st' := [.ref 16]) rfl (fun _ => rfl) ?_
  refine pw_getR (b := 26) I E (c := 0) (k := 2) (pc' := 4) rfl rfl rfl rfl rfl rfl rfl ?_
  refine pw_ld E (pc' := 5) (st' := [pw_i k, .ref 26]) rfl (fun _ => rfl) ?_
  refine pw_ld E (pc' := 6) (st' := [pw_i b, pw_i k, .ref 26]) rfl (fun _ => rfl) ?_
  refine pw_ld E (pc' := 7) (st' := [pw_i e, pw_i b, pw_i k, .ref 26]) rfl (fun _ => rfl) ?_
  obtain ⟨f1l, f1h, -⟩ := pw_obj (c := 10) I rfl
  refine pw_call (m' := 23) (As := [.ref 26, pw_i k, pw_i b, pw_i e]) (rest := []) (ls'' := [some (.ref 26), some (pw_i k), some (pw_i b), some (pw_i e)]) (Nat.le_trans (by decide) hd) E rfl (fun _ => pw_iV rfl rfl rfl rfl (pw_cellI f1h rfl)) (rfl : pm_ent 23 = some (4, 4, 2, 1, pmc_23)) rfl rfl (cm_23 (pw_dp hd (by decide)) I 10 (by unfold pw_Lg; omega) (k) (by omega) (by omega) (b) (by omega) (by omega) (e) (by omega) (by omega)) ?_
  rintro u3 v2 ⟨rfl, x4, rfl, hx4a, hx4b⟩
  refine ⟨_, rfl, ?_⟩
  show pw X d h 170 10 [some (.ref 16), some (pw_i k), some (pw_i b), some (pw_i e), some (pw_i wt), none, none, none] [pw_i x4] _
  refine pw_ist E (pc' := 12) (ls' := [some (.ref 16), some (pw_i k), some (pw_i b), some (pw_i e), some (pw_i wt), some (pw_i x4), none, none]) rfl rfl rfl rfl ?_
  refine pw_ld E (pc' := 13) (st' := [.ref 16]) rfl (fun _ => rfl) ?_
  refine pw_getR (b := 26) I E (c := 0) (k := 2) (pc' := 16) rfl rfl rfl rfl rfl rfl rfl ?_
  refine pw_ld E (pc' := 17) (st' := [pw_i k, .ref 26]) rfl (fun _ => rfl) ?_
  refine pw_ld E (pc' := 18) (st' := [pw_i b, pw_i k, .ref 26]) rfl (fun _ => rfl) ?_
  obtain ⟨f5l, f5h, -⟩ := pw_obj (c := 10) I rfl
  refine pw_call (m' := 26) (As := [.ref 26, pw_i k, pw_i b]) (rest := []) (ls'' := [some (.ref 26), some (pw_i k), some (pw_i b)]) (Nat.le_trans (by decide) hd) E rfl (fun _ => pw_iV rfl rfl rfl rfl (pw_cellI f5h rfl)) (rfl : pm_ent 26 = some (3, 3, 2, 1, pmc_26)) rfl rfl (cm_26 (pw_dp hd (by decide)) I 10 (by unfold pw_Lg; omega) (k) (by omega) (by omega) (b) (by omega) (by omega)) ?_
  rintro u7 v6 ⟨rfl, x8, rfl, hx8a, hx8b⟩
  refine ⟨_, rfl, ?_⟩
  show pw X d h 170 21 [some (.ref 16), some (pw_i k), some (pw_i b), some (pw_i e), some (pw_i wt), some (pw_i x4), none, none] [pw_i x8] _
  refine pw_ist E (pc' := 23) (ls' := [some (.ref 16), some (pw_i k), some (pw_i b), some (pw_i e), some (pw_i wt), some (pw_i x4), some (pw_i x8), none]) rfl rfl rfl rfl ?_
  refine pw_ld E (pc' := 24) (st' := [.ref 16]) rfl (fun _ => rfl) ?_
  refine pw_getR (b := 26) I E (c := 0) (k := 2) (pc' := 27) rfl rfl rfl rfl rfl rfl rfl ?_
  refine pw_ld E (pc' := 28) (st' := [pw_i k, .ref 26]) rfl (fun _ => rfl) ?_
  refine pw_ld E (pc' := 29) (st' := [pw_i e, pw_i k, .ref 26]) rfl (fun _ => rfl) ?_
  obtain ⟨f9l, f9h, -⟩ := pw_obj (c := 10) I rfl
  refine pw_call (m' := 26) (As := [.ref 26, pw_i k, pw_i e]) (rest := []) (ls'' := [some (.ref 26), some (pw_i k), some (pw_i e)]) (Nat.le_trans (by decide) hd) E rfl (fun _ => pw_iV rfl rfl rfl rfl (pw_cellI f9h rfl)) (rfl : pm_ent 26 = some (3, 3, 2, 1, pmc_26)) rfl rfl (cm_26 (pw_dp hd (by decide)) I 10 (by unfold pw_Lg; omega) (k) (by omega) (by omega) (e) (by omega) (by omega)) ?_
  rintro u11 v10 ⟨rfl, x12, rfl, hx12a, hx12b⟩
  refine ⟨_, rfl, ?_⟩
  show pw X d h 170 32 [some (.ref 16), some (pw_i k), some (pw_i b), some (pw_i e), some (pw_i wt), some (pw_i x4), some (pw_i x8), none] [pw_i x12] _
  refine pw_ist E (pc' := 34) (ls' := [some (.ref 16), some (pw_i k), some (pw_i b), some (pw_i e), some (pw_i wt), some (pw_i x4), some (pw_i x8), some (pw_i x12)]) rfl rfl rfl rfl ?_
  refine pw_ld E (pc' := 36) (st' := [pw_i wt]) rfl (fun _ => rfl) ?_
  rcases (by omega : wt = 0 ∨ wt = 1 ∨ wt = 2 ∨ wt = 3 ∨ (wt < 0 ∨ 3 < wt)) with hs13 | hs13 | hs13 | hs13 | hs13
  · refine pw_tswJ (o := 32) E (pc' := 68) rfl (by omega) (by omega) (by omega) (by rw [hs13]; rfl) (by decide) ?_
    refine pw_ld E (pc' := 70) (st' := [pw_i x4]) rfl (fun _ => rfl) ?_
    refine pw_if E (pc' := 77) rfl (by decide) (by omega) (by omega) ?_ ?_
    · intro hc14
      change x4 = (0 : Int) at hc14
      refine pw_ld E (pc' := 78) (st' := [pw_i 0]) rfl (fun _ => rfl) ?_
      refine pw_iret E rfl ?_
      exact ⟨rfl, ⟨_, rfl, by omega, by omega⟩⟩
    · intro hc15
      change ¬ (x4 = (0 : Int)) at hc15
      refine pw_ld E (pc' := 74) (st' := [pw_i 1]) rfl (fun _ => rfl) ?_
      refine pw_goto E (pc' := 78) rfl (by decide) ?_
      refine pw_iret E rfl ?_
      exact ⟨rfl, ⟨_, rfl, by omega, by omega⟩⟩
  · refine pw_tswJ (o := 43) E (pc' := 79) rfl (by omega) (by omega) (by omega) (by rw [hs13]; rfl) (by decide) ?_
    refine pw_ld E (pc' := 81) (st' := [pw_i x4]) rfl (fun _ => rfl) ?_
    refine pw_if E (pc' := 88) rfl (by decide) (by omega) (by omega) ?_ ?_
    · intro hc16
      change x4 = (0 : Int) at hc16
      refine pw_ld E (pc' := 89) (st' := [pw_i 1]) rfl (fun _ => rfl) ?_
      refine pw_iret E rfl ?_
      exact ⟨rfl, ⟨_, rfl, by omega, by omega⟩⟩
    · intro hc17
      change ¬ (x4 = (0 : Int)) at hc17
      refine pw_ld E (pc' := 85) (st' := [pw_i 0]) rfl (fun _ => rfl) ?_
      refine pw_goto E (pc' := 89) rfl (by decide) ?_
      refine pw_iret E rfl ?_
      exact ⟨rfl, ⟨_, rfl, by omega, by omega⟩⟩
  · refine pw_tswJ (o := 54) E (pc' := 90) rfl (by omega) (by omega) (by omega) (by rw [hs13]; rfl) (by decide) ?_
    refine pw_ld E (pc' := 92) (st' := [pw_i x12]) rfl (fun _ => rfl) ?_
    refine pw_if E (pc' := 104) rfl (by decide) (by omega) (by omega) ?_ ?_
    · intro hc18
      change x12 = (0 : Int) at hc18
      refine pw_ld E (pc' := 105) (st' := [pw_i 0]) rfl (fun _ => rfl) ?_
      refine pw_iret E rfl ?_
      exact ⟨rfl, ⟨_, rfl, by omega, by omega⟩⟩
    · intro hc19
      change ¬ (x12 = (0 : Int)) at hc19
      refine pw_ld E (pc' := 97) (st' := [pw_i x8]) rfl (fun _ => rfl) ?_
      refine pw_if E (pc' := 104) rfl (by decide) (by omega) (by omega) ?_ ?_
      · intro hc20
        change x8 ≠ (0 : Int) at hc20
        refine pw_ld E (pc' := 105) (st' := [pw_i 0]) rfl (fun _ => rfl) ?_
        refine pw_iret E rfl ?_
        exact ⟨rfl, ⟨_, rfl, by omega, by omega⟩⟩
      · intro hc21
        change ¬ (x8 ≠ (0 : Int)) at hc21
        refine pw_ld E (pc' := 101) (st' := [pw_i 1]) rfl (fun _ => rfl) ?_
        refine pw_goto E (pc' := 105) rfl (by decide) ?_
        refine pw_iret E rfl ?_
        exact ⟨rfl, ⟨_, rfl, by omega, by omega⟩⟩
  · refine pw_tswJ (o := 70) E (pc' := 106) rfl (by omega) (by omega) (by omega) (by rw [hs13]; rfl) (by decide) ?_
    refine pw_ld E (pc' := 108) (st' := [pw_i x8]) rfl (fun _ => rfl) ?_
    refine pw_if E (pc' := 120) rfl (by decide) (by omega) (by omega) ?_ ?_
    · intro hc22
      change x8 = (0 : Int) at hc22
      refine pw_ld E (pc' := 121) (st' := [pw_i 0]) rfl (fun _ => rfl) ?_
      refine pw_iret E rfl ?_
      exact ⟨rfl, ⟨_, rfl, by omega, by omega⟩⟩
    · intro hc23
      change ¬ (x8 = (0 : Int)) at hc23
      refine pw_ld E (pc' := 113) (st' := [pw_i x12]) rfl (fun _ => rfl) ?_
      refine pw_if E (pc' := 120) rfl (by decide) (by omega) (by omega) ?_ ?_
      · intro hc24
        change x12 ≠ (0 : Int) at hc24
        refine pw_ld E (pc' := 121) (st' := [pw_i 0]) rfl (fun _ => rfl) ?_
        refine pw_iret E rfl ?_
        exact ⟨rfl, ⟨_, rfl, by omega, by omega⟩⟩
      · intro hc25
        change ¬ (x12 ≠ (0 : Int)) at hc25
        refine pw_ld E (pc' := 117) (st' := [pw_i 1]) rfl (fun _ => rfl) ?_
        refine pw_goto E (pc' := 121) rfl (by decide) ?_
        refine pw_iret E rfl ?_
        exact ⟨rfl, ⟨_, rfl, by omega, by omega⟩⟩
  · refine pw_tswD E (pc' := 122) rfl (by omega) (by omega) hs13 (by decide) ?_
    refine pw_ld E (pc' := 124) (st' := [pw_i x4]) rfl (fun _ => rfl) ?_
    refine pw_if E (pc' := 144) rfl (by decide) (by omega) (by omega) ?_ ?_
    · intro hc26
      change x4 = (0 : Int) at hc26
      refine pw_ld E (pc' := 145) (st' := [pw_i 0]) rfl (fun _ => rfl) ?_
      refine pw_iret E rfl ?_
      exact ⟨rfl, ⟨_, rfl, by omega, by omega⟩⟩
    · intro hc27
      change ¬ (x4 = (0 : Int)) at hc27
      refine pw_ld E (pc' := 128) (st' := [.ref 16]) rfl (fun _ => rfl) ?_
      refine pw_getR (b := 26) I E (c := 0) (k := 2) (pc' := 131) rfl rfl rfl rfl rfl rfl rfl ?_
      refine pw_ld E (pc' := 132) (st' := [pw_i k, .ref 26]) rfl (fun _ => rfl) ?_
      refine pw_ld E (pc' := 133) (st' := [pw_i b, pw_i k, .ref 26]) rfl (fun _ => rfl) ?_
      refine pw_ld E (pc' := 134) (st' := [pw_i e, pw_i b, pw_i k, .ref 26]) rfl (fun _ => rfl) ?_
      refine pw_ld E (pc' := 135) (st' := [.ref 16, pw_i e, pw_i b, pw_i k, .ref 26]) rfl (fun _ => rfl) ?_
      refine pw_getI2 I E (c := 0) (k := 6) (pc' := 138) rfl rfl rfl rfl rfl rfl (fun hf28a hf28b => ?_)
      obtain ⟨f29l, f29h, -⟩ := pw_obj (c := 10) I rfl
      refine pw_call (m' := 24) (As := [.ref 26, pw_i k, pw_i b, pw_i e, pw_i (pw_g h 0 6)]) (rest := []) (ls'' := [some (.ref 26), some (pw_i k), some (pw_i b), some (pw_i e), some (pw_i (pw_g h 0 6))]) (Nat.le_trans (by decide) hd) E rfl (fun _ => pw_iV rfl rfl rfl rfl (pw_cellI f29h rfl)) (rfl : pm_ent 24 = some (5, 5, 2, 0, pmc_24)) rfl rfl (cm_24 (pw_dp hd (by decide)) I 10 (by unfold pw_Lg; omega) (k) (by omega) (by omega) (b) (by omega) (by omega) (e) (by omega) (by omega) (pw_g h 0 6) (by omega) (by omega)) ?_
      rintro u31 v30 ⟨rfl, x32, rfl, hx32a, hx32b⟩
      refine ⟨_, rfl, ?_⟩
      show pw X d h 170 141 [some (.ref 16), some (pw_i k), some (pw_i b), some (pw_i e), some (pw_i wt), some (pw_i x4), some (pw_i x8), some (pw_i x12)] [pw_i x32] _
      refine pw_goto E (pc' := 145) rfl (by decide) ?_
      refine pw_iret E rfl ?_
      exact ⟨rfl, ⟨_, rfl, by omega, by omega⟩⟩
set_option maxHeartbeats 4000000 in
theorem cm_169 {X : List (Nat × List Value)} {d : Nat} {h : pm_H} (hd : 5 ≤ d) (I : pw_I h) (bk : Int) (hbk1 : (-2147483648) ≤ bk) (hbk2 : bk ≤ 2147483647) (b : Int) (hb1 : (-2147483648) ≤ b) (hb2 : b ≤ 2147483647) (e : Int) (he1 : (-2147483648) ≤ e) (he2 : e ≤ 2147483647) (wt : Int) (hwt1 : (-2147483648) ≤ wt) (hwt2 : wt ≤ 2147483647) : pw X d h 169 0 [some (.ref 16), some (pw_i bk), some (pw_i b), some (pw_i e), some (pw_i wt), none, none] [] (fun h' v => h = h' ∧ (v = .inr () ∨ (∃ a : Int, v = .inl (some (pw_i a)) ∧ (-2147483648) ≤ a ∧ a ≤ 2147483647))) := by
  have E : pm_ent 169 = some (5, 7, 11, 0, pmc_169) := rfl
  refine pw_ld E (pc' := 1) (st' := [pw_i bk]) rfl (fun _ => rfl) ?_
  refine pw_call (m' := 122) (As := [pw_i bk]) (rest := []) (ls'' := [some (pw_i bk)]) (Nat.le_trans (by decide) hd) E rfl (fun _ => pw_iS rfl rfl rfl) (rfl : pm_ent 122 = some (1, 1, 11, 1, pmc_122)) rfl rfl (cm_122 (pw_dp hd (by decide)) I (bk) (by omega) (by omega)) ?_
  rintro u2 v1 ⟨rfl, x3, rfl, hx3a, hx3b, hx3r⟩
  refine ⟨_, rfl, ?_⟩
  show pw X d h 169 4 [some (.ref 16), some (pw_i bk), some (pw_i b), some (pw_i e), some (pw_i wt), none, none] [pw_i x3] _
  change (x3 = 1 ∧ 0 ≤ bk ∧ bk ≤ 1) ∨ (x3 = 0 ∧ ¬ (0 ≤ bk ∧ bk ≤ 1)) at hx3r
  rcases (by omega : x3 = 1 ∨ x3 = 0) with hb4 | hb4
  · skip
    refine pw_if E (pc' := 25) rfl (by decide) (by omega) (by omega) ?_ ?_
    · intro hc5
      change x3 = (0 : Int) at hc5
      exfalso; omega
    · intro hc6
      change ¬ (x3 = (0 : Int)) at hc6
      refine pw_ld E (pc' := 8) (st' := [pw_i b]) rfl (fun _ => rfl) ?_
      refine pw_ld E (pc' := 9) (st' := [pw_i e, pw_i b]) rfl (fun _ => rfl) ?_
      refine pw_call (m' := 131) (As := [pw_i b, pw_i e]) (rest := []) (ls'' := [some (pw_i b), some (pw_i e)]) (Nat.le_trans (by decide) hd) E rfl (fun _ => pw_iS rfl rfl rfl) (rfl : pm_ent 131 = some (2, 2, 11, 1, pmc_131)) rfl rfl (cm_131 (pw_dp hd (by decide)) I (b) (by omega) (by omega) (e) (by omega) (by omega)) ?_
      rintro u8 v7 ⟨rfl, x9, rfl, hx9a, hx9b, hx9r⟩
      refine ⟨_, rfl, ?_⟩
      show pw X d h 169 12 [some (.ref 16), some (pw_i bk), some (pw_i b), some (pw_i e), some (pw_i wt), none, none] [pw_i x9] _
      change (x9 = 1 ∧ 0 ≤ b ∧ b ≤ 11 ∧ 0 ≤ e ∧ e ≤ 11) ∨ x9 = 0 at hx9r
      rcases (by omega : x9 = 1 ∨ x9 = 0) with hb10 | hb10
      · skip
        refine pw_if E (pc' := 25) rfl (by decide) (by omega) (by omega) ?_ ?_
        · intro hc11
          change x9 = (0 : Int) at hc11
          exfalso; omega
        · intro hc12
          change ¬ (x9 = (0 : Int)) at hc12
          refine pw_ld E (pc' := 17) (st' := [pw_i wt]) rfl (fun _ => rfl) ?_
          refine pw_ld E (pc' := 18) (st' := [pw_i 0, pw_i wt]) rfl (fun _ => rfl) ?_
          refine pw_ld E (pc' := 19) (st' := [pw_i 4, pw_i 0, pw_i wt]) rfl (fun _ => rfl) ?_
          refine pw_call (m' := 121) (As := [pw_i wt, pw_i 0, pw_i 4]) (rest := []) (ls'' := [some (pw_i wt), some (pw_i 0), some (pw_i 4)]) (Nat.le_trans (by decide) hd) E rfl (fun _ => pw_iS rfl rfl rfl) (rfl : pm_ent 121 = some (3, 3, 11, 1, pmc_121)) rfl rfl (cm_121 (pw_dp hd (by decide)) I (wt) (by omega) (by omega) (0) (by omega) (by omega) (4) (by omega) (by omega)) ?_
          rintro u14 v13 ⟨rfl, x15, rfl, hx15a, hx15b, hx15r⟩
          refine ⟨_, rfl, ?_⟩
          show pw X d h 169 22 [some (.ref 16), some (pw_i bk), some (pw_i b), some (pw_i e), some (pw_i wt), none, none] [pw_i x15] _
          change (x15 = 1 ∧ 0 ≤ wt ∧ wt ≤ 4) ∨ (x15 = 0 ∧ ¬ (0 ≤ wt ∧ wt ≤ 4)) at hx15r
          rcases (by omega : x15 = 1 ∨ x15 = 0) with hb16 | hb16
          · skip
            refine pw_if E (pc' := 33) rfl (by decide) (by omega) (by omega) ?_ ?_
            · intro hc17
              change x15 ≠ (0 : Int) at hc17
              refine pw_ld E (pc' := 34) (st' := [pw_i 0]) rfl (fun _ => rfl) ?_
              refine pw_ist E (pc' := 36) (ls' := [some (.ref 16), some (pw_i bk), some (pw_i b), some (pw_i e), some (pw_i wt), some (pw_i 0), none]) rfl rfl rfl rfl ?_
              refine pw_ld E (pc' := 37) (st' := [pw_i 0]) rfl (fun _ => rfl) ?_
              refine pw_ist E (pc' := 39) (ls' := [some (.ref 16), some (pw_i bk), some (pw_i b), some (pw_i e), some (pw_i wt), some (pw_i 0), some (pw_i 0)]) rfl rfl rfl rfl ?_
              have L39 : ∀ (n39 : Nat) (k39_5 : Int) (k39_6 : Int), (-2147483648) ≤ k39_5 → k39_5 ≤ 2147483647 → 0 ≤ k39_6 → k39_6 ≤ 24 → (24 - k39_6).toNat = n39 → pw X d h 169 39 [some (.ref 16), some (pw_i bk), some (pw_i b), some (pw_i e), some (pw_i wt), some (pw_i k39_5), some (pw_i k39_6)] [] (fun h' v => h = h' ∧ (v = .inr () ∨ (∃ a : Int, v = .inl (some (pw_i a)) ∧ (-2147483648) ≤ a ∧ a ≤ 2147483647))) := by
                intro n39
                induction n39 using Nat.strongRecOn with
                | ind n39 ih39 =>
                  intro k39_5 k39_6 k39_5a k39_5b k39_6a k39_6b hm39
                  refine pw_ld E (pc' := 41) (st' := [pw_i k39_6]) rfl (fun _ => rfl) ?_
                  refine pw_bip E (pc' := 43) rfl rfl (by decide) ?_
                  refine pw_if2 E (pc' := 80) rfl (by decide) (by omega) (by omega) (by decide) (by decide) ?_ ?_
                  · intro hc18
                    change (24 : Int) ≤ k39_6 at hc18
                    refine pw_ld E (pc' := 82) (st' := [pw_i k39_5]) rfl (fun _ => rfl) ?_
                    refine pw_iret E rfl ?_
                    exact ⟨rfl, Or.inr ⟨_, rfl, by omega, by omega⟩⟩
                  · intro hc19
                    change ¬ ((24 : Int) ≤ k39_6) at hc19
                    refine pw_ld E (pc' := 47) (st' := [.ref 16]) rfl (fun _ => rfl) ?_
                    refine pw_getR (b := 17) I E (c := 0) (k := 0) (pc' := 50) rfl rfl rfl rfl rfl rfl rfl ?_
                    refine pw_ld E (pc' := 52) (st' := [pw_i k39_6, .ref 17]) rfl (fun _ => rfl) ?_
                    refine pw_ld E (pc' := 53) (st' := [pw_i bk, pw_i k39_6, .ref 17]) rfl (fun _ => rfl) ?_
                    obtain ⟨f20l, f20h, -⟩ := pw_obj (c := 1) I rfl
                    refine pw_call (m' := 63) (As := [.ref 17, pw_i k39_6, pw_i bk]) (rest := []) (ls'' := [some (.ref 17), some (pw_i k39_6), some (pw_i bk)]) (Nat.le_trans (by decide) hd) E rfl (fun _ => pw_iV rfl rfl rfl rfl (pw_cellI f20h rfl)) (rfl : pm_ent 63 = some (3, 3, 6, 1, pmc_63)) rfl rfl (cm_63 (pw_dp hd (by decide)) I (k39_6) (by omega) (by omega) (bk) (by omega) (by omega)) ?_
                    rintro u22 v21 ⟨rfl, x23, rfl, hx23a, hx23b⟩
                    refine ⟨_, rfl, ?_⟩
                    show pw X d h 169 56 [some (.ref 16), some (pw_i bk), some (pw_i b), some (pw_i e), some (pw_i wt), some (pw_i k39_5), some (pw_i k39_6)] [pw_i x23] _
                    refine pw_if E (pc' := 74) rfl (by decide) (by omega) (by omega) ?_ ?_
                    · intro hc24
                      change x23 = (0 : Int) at hc24
                      refine pw_inc E (pc' := 77) (ls' := [some (.ref 16), some (pw_i bk), some (pw_i b), some (pw_i e), some (pw_i wt), some (pw_i k39_5), some (pw_i (k39_6 + 1))]) rfl rfl rfl rfl ?_
                      refine pw_goto E (pc' := 39) rfl (by decide) ?_
                      exact ih39 _ (by omega) (k39_5) (k39_6 + 1)  (by omega) (by omega) (by omega) (by omega)  rfl
                    · intro hc25
                      change ¬ (x23 = (0 : Int)) at hc25
                      refine pw_ld E (pc' := 61) (st' := [pw_i k39_5]) rfl (fun _ => rfl) ?_
                      refine pw_ld E (pc' := 62) (st' := [.ref 16, pw_i k39_5]) rfl (fun _ => rfl) ?_
                      refine pw_ld E (pc' := 64) (st' := [pw_i k39_6, .ref 16, pw_i k39_5]) rfl (fun _ => rfl) ?_
                      refine pw_ld E (pc' := 65) (st' := [pw_i b, pw_i k39_6, .ref 16, pw_i k39_5]) rfl (fun _ => rfl) ?_
                      refine pw_ld E (pc' := 66) (st' := [pw_i e, pw_i b, pw_i k39_6, .ref 16, pw_i k39_5]) rfl (fun _ => rfl) ?_
                      refine pw_ld E (pc' := 68) (st' := [pw_i wt, pw_i e, pw_i b, pw_i k39_6, .ref 16, pw_i k39_5]) rfl (fun _ => rfl) ?_
                      obtain ⟨f26l, f26h, -⟩ := pw_obj (c := 0) I rfl
                      refine pw_call (m' := 170) (As := [.ref 16, pw_i k39_6, pw_i b, pw_i e, pw_i wt]) (rest := [pw_i k39_5]) (ls'' := [some (.ref 16), some (pw_i k39_6), some (pw_i b), some (pw_i e), some (pw_i wt), none, none, none]) (Nat.le_trans (by decide) hd) E rfl (fun _ => pw_iV rfl rfl rfl rfl (pw_cellI f26h rfl)) (rfl : pm_ent 170 = some (5, 8, 11, 0, pmc_170)) rfl rfl (cm_170 (pw_dp hd (by decide)) I (k39_6) (by omega) (by omega) (b) (by omega) (by omega) (e) (by omega) (by omega) (wt) (by omega) (by omega)) ?_
                      rintro u28 v27 ⟨rfl, x29, rfl, hx29a, hx29b⟩
                      refine ⟨_, rfl, ?_⟩
                      show pw X d h 169 71 [some (.ref 16), some (pw_i bk), some (pw_i b), some (pw_i e), some (pw_i wt), some (pw_i k39_5), some (pw_i k39_6)] [pw_i x29, pw_i k39_5] _
                      refine pw_add E (pc' := 72) rfl rfl ?_
                      refine pw_nm (fun x30 hx30a hx30b => ?_)
                      refine pw_ist E (pc' := 74) (ls' := [some (.ref 16), some (pw_i bk), some (pw_i b), some (pw_i e), some (pw_i wt), some (pw_i x30), some (pw_i k39_6)]) rfl rfl rfl rfl ?_
                      refine pw_inc E (pc' := 77) (ls' := [some (.ref 16), some (pw_i bk), some (pw_i b), some (pw_i e), some (pw_i wt), some (pw_i x30), some (pw_i (k39_6 + 1))]) rfl rfl rfl rfl ?_
                      refine pw_goto E (pc' := 39) rfl (by decide) ?_
                      exact ih39 _ (by omega) (x30) (k39_6 + 1)  (by omega) (by omega) (by omega) (by omega)  rfl
              exact L39 _ (0) (0)  (by omega) (by omega) (by omega) (by omega)  rfl
            · intro hc31
              change ¬ (x15 ≠ (0 : Int)) at hc31
              exfalso; omega
          · skip
            refine pw_if E (pc' := 33) rfl (by decide) (by omega) (by omega) ?_ ?_
            · intro hc33
              change x15 ≠ (0 : Int) at hc33
              exfalso; omega
            · intro hc34
              change ¬ (x15 ≠ (0 : Int)) at hc34
              refine pw_thr E rfl rfl I.2 ?_
              exact ⟨rfl, Or.inl rfl⟩
      · skip
        refine pw_if E (pc' := 25) rfl (by decide) (by omega) (by omega) ?_ ?_
        · intro hc36
          change x9 = (0 : Int) at hc36
          refine pw_thr E rfl rfl I.2 ?_
          exact ⟨rfl, Or.inl rfl⟩
        · intro hc37
          change ¬ (x9 = (0 : Int)) at hc37
          exfalso; omega
  · skip
    refine pw_if E (pc' := 25) rfl (by decide) (by omega) (by omega) ?_ ?_
    · intro hc39
      change x3 = (0 : Int) at hc39
      refine pw_thr E rfl rfl I.2 ?_
      exact ⟨rfl, Or.inl rfl⟩
    · intro hc40
      change ¬ (x3 = (0 : Int)) at hc40
      exfalso; omega
set_option maxHeartbeats 4000000 in
theorem cm_171 {X : List (Nat × List Value)} {d : Nat} {h : pm_H} (hd : 5 ≤ d) (I : pw_I h) (a0 : Int) (ha01 : (-2147483648) ≤ a0) (ha02 : a0 ≤ 2147483647) (a1 : Int) (ha11 : (-2147483648) ≤ a1) (ha12 : a1 ≤ 2147483647) (a2 : Int) (ha21 : (-2147483648) ≤ a2) (ha22 : a2 ≤ 2147483647) (a3 : Int) (ha31 : (-2147483648) ≤ a3) (ha32 : a3 ≤ 2147483647) : pw X d h 171 0 [some (.ref 16), some (pw_i a0), some (pw_i a1), some (pw_i a2), some (pw_i a3), none] [] (fun h' v => pw_I h' ∧ pw_E [17, 18, 22] h h' ∧ (v = .inr () ∨ (∃ w : Int64, v = .inl (some (.long w))))) := by
  have E : pm_ent 171 = some (5, 6, 11, 2, pmc_171) := rfl
  have E0 : pw_E [17, 18, 22] h h := pw_E.rf _ _
  refine pw_ld E (pc' := 1) (st' := [pw_i a2]) rfl (fun _ => rfl) ?_
  refine pw_ld E (pc' := 2) (st' := [pw_i ((-1)), pw_i a2]) rfl (fun _ => rfl) ?_
  refine pw_if2 E (pc' := 9) rfl (by decide) (by omega) (by omega) (by decide) (by decide) ?_ ?_
  · intro hc1
    change a2 ≠ ((-1) : Int) at hc1
    refine pw_ld E (pc' := 10) (st' := [pw_i 0]) rfl (fun _ => rfl) ?_
    refine pw_ist E (pc' := 12) (ls' := [some (.ref 16), some (pw_i a0), some (pw_i a1), some (pw_i a2), some (pw_i a3), some (pw_i 0)]) rfl rfl rfl rfl ?_
    refine pw_ld E (pc' := 13) (st' := [pw_i a0]) rfl (fun _ => rfl) ?_
    refine pw_ld E (pc' := 14) (st' := [pw_i a1, pw_i a0]) rfl (fun _ => rfl) ?_
    refine pw_call (m' := 131) (As := [pw_i a0, pw_i a1]) (rest := []) (ls'' := [some (pw_i a0), some (pw_i a1)]) (Nat.le_trans (by decide) hd) E rfl (fun _ => pw_iS rfl rfl rfl) (rfl : pm_ent 131 = some (2, 2, 11, 1, pmc_131)) rfl rfl (cm_131 (pw_dp hd (by decide)) I (a0) (by omega) (by omega) (a1) (by omega) (by omega)) ?_
    rintro u3 v2 ⟨rfl, x4, rfl, hx4a, hx4b, hx4r⟩
    refine ⟨_, rfl, ?_⟩
    show pw X d h 171 17 [some (.ref 16), some (pw_i a0), some (pw_i a1), some (pw_i a2), some (pw_i a3), some (pw_i 0)] [pw_i x4] _
    change (x4 = 1 ∧ 0 ≤ a0 ∧ a0 ≤ 11 ∧ 0 ≤ a1 ∧ a1 ≤ 11) ∨ x4 = 0 at hx4r
    rcases (by omega : x4 = 1 ∨ x4 = 0) with hb5 | hb5
    · skip
      refine pw_if E (pc' := 41) rfl (by decide) (by omega) (by omega) ?_ ?_
      · intro hc6
        change x4 = (0 : Int) at hc6
        exfalso; omega
      · intro hc7
        change ¬ (x4 = (0 : Int)) at hc7
        refine pw_ld E (pc' := 22) (st' := [pw_i a3]) rfl (fun _ => rfl) ?_
        refine pw_call (m' := 137) (As := [pw_i a3]) (rest := []) (ls'' := [some (pw_i a3)]) (Nat.le_trans (by decide) hd) E rfl (fun _ => pw_iS rfl rfl rfl) (rfl : pm_ent 137 = some (1, 1, 11, 1, pmc_137)) rfl rfl (cm_137 (pw_dp hd (by decide)) I (a3) (by omega) (by omega)) ?_
        rintro u9 v8 ⟨rfl, x10, rfl, hx10a, hx10b, hx10r⟩
        refine ⟨_, rfl, ?_⟩
        show pw X d h 171 25 [some (.ref 16), some (pw_i a0), some (pw_i a1), some (pw_i a2), some (pw_i a3), some (pw_i 0)] [pw_i x10] _
        change (x10 = 1 ∧ 0 ≤ a3 ∧ a3 ≤ 1) ∨ (x10 = 0 ∧ ¬ (0 ≤ a3 ∧ a3 ≤ 1)) at hx10r
        rcases (by omega : x10 = 1 ∨ x10 = 0) with hb11 | hb11
        · skip
          refine pw_if E (pc' := 41) rfl (by decide) (by omega) (by omega) ?_ ?_
          · intro hc12
            change x10 = (0 : Int) at hc12
            exfalso; omega
          · intro hc13
            change ¬ (x10 = (0 : Int)) at hc13
            refine pw_ld E (pc' := 30) (st' := [pw_i 0]) rfl (fun _ => rfl) ?_
            refine pw_if E (pc' := 49) rfl (by decide) (by decide) (by decide) ?_ ?_
            · intro hc14
              change (0 : Int) ≠ (0 : Int) at hc14
              exfalso; omega
            · intro hc15
              change ¬ ((0 : Int) ≠ (0 : Int)) at hc15
              refine pw_ld E (pc' := 34) (st' := [.ref 16]) rfl (fun _ => rfl) ?_
              refine pw_ld E (pc' := 35) (st' := [pw_i a2, .ref 16]) rfl (fun _ => rfl) ?_
              obtain ⟨f16l, f16h, -⟩ := pw_obj (c := 0) I rfl
              refine pw_call (m' := 124) (As := [.ref 16, pw_i a2]) (rest := []) (ls'' := [some (.ref 16), some (pw_i a2)]) (Nat.le_trans (by decide) hd) E rfl (fun _ => pw_iV rfl rfl rfl rfl (pw_cellI f16h rfl)) (rfl : pm_ent 124 = some (2, 2, 11, 1, pmc_124)) rfl rfl (cm_124 (pw_dp hd (by decide)) I (a2) (by omega) (by omega)) ?_
              rintro u18 v17 ⟨rfl, x19, rfl, hx19a, hx19b, hx19r⟩
              refine ⟨_, rfl, ?_⟩
              show pw X d h 171 38 [some (.ref 16), some (pw_i a0), some (pw_i a1), some (pw_i a2), some (pw_i a3), some (pw_i 0)] [pw_i x19] _
              change (x19 = 1 ∧ 0 ≤ a2 ∧ a2 ≤ 23) ∨ x19 = 0 at hx19r
              rcases (by omega : x19 = 1 ∨ x19 = 0) with hb20 | hb20
              · skip
                refine pw_if E (pc' := 49) rfl (by decide) (by omega) (by omega) ?_ ?_
                · intro hc21
                  change x19 ≠ (0 : Int) at hc21
                  refine pw_ld E (pc' := 50) (st' := [.ref 16]) rfl (fun _ => rfl) ?_
                  refine pw_ld E (pc' := 51) (st' := [pw_i a0, .ref 16]) rfl (fun _ => rfl) ?_
                  refine pw_ld E (pc' := 52) (st' := [pw_i a1, pw_i a0, .ref 16]) rfl (fun _ => rfl) ?_
                  obtain ⟨f22l, f22h, -⟩ := pw_obj (c := 0) I rfl
                  refine pw_call (m' := 138) (As := [.ref 16, pw_i a0, pw_i a1]) (rest := []) (ls'' := [some (.ref 16), some (pw_i a0), some (pw_i a1), none]) (Nat.le_trans (by decide) hd) E rfl (fun _ => pw_iV rfl rfl rfl rfl (pw_cellI f22h rfl)) (rfl : pm_ent 138 = some (3, 4, 11, 4, pmc_138)) rfl rfl (cm_138 (pw_dp hd (by decide)) I (a0) (by omega) (by omega) (a1) (by omega) (by omega)) ?_
                  rintro h23 v24 ⟨h23I, h23E, rfl⟩
                  refine ⟨_, rfl, ?_⟩
                  have h23F := E0.tr (h23E.wk (W' := [17, 18, 22]) (by first | rfl | simp))
                  show pw X d h23 171 55 [some (.ref 16), some (pw_i a0), some (pw_i a1), some (pw_i a2), some (pw_i a3), some (pw_i 0)] [] _
                  refine pw_ld E (pc' := 57) (st' := [pw_i 0]) rfl (fun _ => rfl) ?_
                  refine pw_if E (pc' := 68) rfl (by decide) (by decide) (by decide) ?_ ?_
                  · intro hc25
                    change (0 : Int) ≠ (0 : Int) at hc25
                    exfalso; omega
                  · intro hc26
                    change ¬ ((0 : Int) ≠ (0 : Int)) at hc26
                    refine pw_ld E (pc' := 61) (st' := [.ref 16]) rfl (fun _ => rfl) ?_
                    refine pw_getR (b := 32) h23I E (c := 0) (k := 7) (pc' := 64) rfl rfl rfl rfl rfl rfl rfl ?_
                    refine pw_ld E (pc' := 65) (st' := [pw_i a2, .ref 32]) rfl (fun _ => rfl) ?_
                    obtain ⟨f27l, f27h, -⟩ := pw_obj (c := 16) h23I rfl
                    refine pw_call (m' := 93) (As := [.ref 32, pw_i a2]) (rest := []) (ls'' := [some (.ref 32), some (pw_i a2)]) (Nat.le_trans (by decide) hd) E rfl (fun _ => pw_iV rfl rfl rfl rfl (pw_cellI f27h rfl)) (rfl : pm_ent 93 = some (2, 2, 8, 4, pmc_93)) rfl rfl (cm_93 (pw_dp hd (by decide)) h23I (a2) (by omega) (by omega)) ?_
                    rintro h28 v29 ⟨h28I, h28E, rfl⟩
                    refine ⟨_, rfl, ?_⟩
                    have h28F := h23F.tr (h28E.wk (W' := [17, 18, 22]) (by first | rfl | simp))
                    show pw X d h28 171 68 [some (.ref 16), some (pw_i a0), some (pw_i a1), some (pw_i a2), some (pw_i a3), some (pw_i 0)] [] _
                    refine pw_ld E (pc' := 69) (st' := [.ref 16]) rfl (fun _ => rfl) ?_
                    refine pw_getR (b := 32) h28I E (c := 0) (k := 7) (pc' := 72) rfl rfl rfl rfl rfl rfl rfl ?_
                    refine pw_ld E (pc' := 73) (st' := [.ref 16, .ref 32]) rfl (fun _ => rfl) ?_
                    refine pw_getR (b := 38) h28I E (c := 0) (k := 8) (pc' := 76) rfl rfl rfl rfl rfl rfl rfl ?_
                    obtain ⟨f30l, f30h, -⟩ := pw_obj (c := 16) h28I rfl
                    refine pw_call (m' := 83) (As := [.ref 32, .ref 38]) (rest := []) (ls'' := [some (.ref 32), some (.ref 38), none, none, none, none]) (Nat.le_trans (by decide) hd) E rfl (fun _ => pw_iV rfl rfl rfl rfl (pw_cellI f30h rfl)) (rfl : pm_ent 83 = some (2, 6, 8, 1, pmc_83)) rfl rfl (cm_83 (pw_dp hd (by decide)) h28I 22 (by unfold pw_Fr; omega)) ?_
                    rintro h31 v32 ⟨h31I, h31E, x33, rfl, hx33a, hx33b⟩
                    refine ⟨_, rfl, ?_⟩
                    have h31F := h28F.tr (h31E.wk (W' := [17, 18, 22]) (by first | rfl | simp))
                    show pw X d h31 171 79 [some (.ref 16), some (pw_i a0), some (pw_i a1), some (pw_i a2), some (pw_i a3), some (pw_i 0)] [pw_i x33] _
                    refine pw_if E (pc' := 90) rfl (by decide) (by omega) (by omega) ?_ ?_
                    · intro hc34
                      change x33 ≠ (0 : Int) at hc34
                      refine pw_ld E (pc' := 91) (st' := [.ref 16]) rfl (fun _ => rfl) ?_
                      refine pw_getR (b := 38) h31I E (c := 0) (k := 8) (pc' := 94) rfl rfl rfl rfl rfl rfl rfl ?_
                      refine pw_ld E (pc' := 96) (st' := [pw_i a3, .ref 38]) rfl (fun _ => rfl) ?_
                      obtain ⟨f35l, f35h, -⟩ := pw_obj (c := 22) h31I rfl
                      refine pw_call (m' := 9) (As := [.ref 38, pw_i a3]) (rest := []) (ls'' := [some (.ref 38), some (pw_i a3)]) (Nat.le_trans (by decide) hd) E rfl (fun _ => pw_iV rfl rfl rfl rfl (pw_cellI f35h rfl)) (rfl : pm_ent 9 = some (2, 2, 1, 2, pmc_9)) rfl rfl (cm_9 (pw_dp hd (by decide)) h31I 22 (by unfold pw_Fr; omega) (a3) (by omega) (by omega)) ?_
                      rintro u37 v36 ⟨rfl, w38, rfl⟩
                      refine ⟨_, rfl, ?_⟩
                      show pw X d h31 171 99 [some (.ref 16), some (pw_i a0), some (pw_i a1), some (pw_i a2), some (pw_i a3), some (pw_i 0)] [.long w38] _
                      refine pw_lret E rfl ?_
                      exact ⟨h31I, h31F, Or.inr ⟨_, rfl⟩⟩
                    · intro hc39
                      change ¬ (x33 ≠ (0 : Int)) at hc39
                      refine pw_thr E rfl rfl h31I.2 ?_
                      exact ⟨h31I, h31F, Or.inl rfl⟩
                · intro hc40
                  change ¬ (x19 ≠ (0 : Int)) at hc40
                  exfalso; omega
              · skip
                refine pw_if E (pc' := 49) rfl (by decide) (by omega) (by omega) ?_ ?_
                · intro hc42
                  change x19 ≠ (0 : Int) at hc42
                  exfalso; omega
                · intro hc43
                  change ¬ (x19 ≠ (0 : Int)) at hc43
                  refine pw_thr E rfl rfl I.2 ?_
                  exact ⟨I, E0, Or.inl rfl⟩
        · skip
          refine pw_if E (pc' := 41) rfl (by decide) (by omega) (by omega) ?_ ?_
          · intro hc45
            change x10 = (0 : Int) at hc45
            refine pw_thr E rfl rfl I.2 ?_
            exact ⟨I, E0, Or.inl rfl⟩
          · intro hc46
            change ¬ (x10 = (0 : Int)) at hc46
            exfalso; omega
    · skip
      refine pw_if E (pc' := 41) rfl (by decide) (by omega) (by omega) ?_ ?_
      · intro hc48
        change x4 = (0 : Int) at hc48
        refine pw_thr E rfl rfl I.2 ?_
        exact ⟨I, E0, Or.inl rfl⟩
      · intro hc49
        change ¬ (x4 = (0 : Int)) at hc49
        exfalso; omega
  · intro hc50
    change ¬ (a2 ≠ ((-1) : Int)) at hc50
    refine pw_ld E (pc' := 6) (st' := [pw_i 1]) rfl (fun _ => rfl) ?_
    refine pw_goto E (pc' := 10) rfl (by decide) ?_
    refine pw_ist E (pc' := 12) (ls' := [some (.ref 16), some (pw_i a0), some (pw_i a1), some (pw_i a2), some (pw_i a3), some (pw_i 1)]) rfl rfl rfl rfl ?_
    refine pw_ld E (pc' := 13) (st' := [pw_i a0]) rfl (fun _ => rfl) ?_
    refine pw_ld E (pc' := 14) (st' := [pw_i a1, pw_i a0]) rfl (fun _ => rfl) ?_
    refine pw_call (m' := 131) (As := [pw_i a0, pw_i a1]) (rest := []) (ls'' := [some (pw_i a0), some (pw_i a1)]) (Nat.le_trans (by decide) hd) E rfl (fun _ => pw_iS rfl rfl rfl) (rfl : pm_ent 131 = some (2, 2, 11, 1, pmc_131)) rfl rfl (cm_131 (pw_dp hd (by decide)) I (a0) (by omega) (by omega) (a1) (by omega) (by omega)) ?_
    rintro u52 v51 ⟨rfl, x53, rfl, hx53a, hx53b, hx53r⟩
    refine ⟨_, rfl, ?_⟩
    show pw X d h 171 17 [some (.ref 16), some (pw_i a0), some (pw_i a1), some (pw_i a2), some (pw_i a3), some (pw_i 1)] [pw_i x53] _
    change (x53 = 1 ∧ 0 ≤ a0 ∧ a0 ≤ 11 ∧ 0 ≤ a1 ∧ a1 ≤ 11) ∨ x53 = 0 at hx53r
    rcases (by omega : x53 = 1 ∨ x53 = 0) with hb54 | hb54
    · skip
      refine pw_if E (pc' := 41) rfl (by decide) (by omega) (by omega) ?_ ?_
      · intro hc55
        change x53 = (0 : Int) at hc55
        exfalso; omega
      · intro hc56
        change ¬ (x53 = (0 : Int)) at hc56
        refine pw_ld E (pc' := 22) (st' := [pw_i a3]) rfl (fun _ => rfl) ?_
        refine pw_call (m' := 137) (As := [pw_i a3]) (rest := []) (ls'' := [some (pw_i a3)]) (Nat.le_trans (by decide) hd) E rfl (fun _ => pw_iS rfl rfl rfl) (rfl : pm_ent 137 = some (1, 1, 11, 1, pmc_137)) rfl rfl (cm_137 (pw_dp hd (by decide)) I (a3) (by omega) (by omega)) ?_
        rintro u58 v57 ⟨rfl, x59, rfl, hx59a, hx59b, hx59r⟩
        refine ⟨_, rfl, ?_⟩
        show pw X d h 171 25 [some (.ref 16), some (pw_i a0), some (pw_i a1), some (pw_i a2), some (pw_i a3), some (pw_i 1)] [pw_i x59] _
        change (x59 = 1 ∧ 0 ≤ a3 ∧ a3 ≤ 1) ∨ (x59 = 0 ∧ ¬ (0 ≤ a3 ∧ a3 ≤ 1)) at hx59r
        rcases (by omega : x59 = 1 ∨ x59 = 0) with hb60 | hb60
        · skip
          refine pw_if E (pc' := 41) rfl (by decide) (by omega) (by omega) ?_ ?_
          · intro hc61
            change x59 = (0 : Int) at hc61
            exfalso; omega
          · intro hc62
            change ¬ (x59 = (0 : Int)) at hc62
            refine pw_ld E (pc' := 30) (st' := [pw_i 1]) rfl (fun _ => rfl) ?_
            refine pw_if E (pc' := 49) rfl (by decide) (by decide) (by decide) ?_ ?_
            · intro hc63
              change (1 : Int) ≠ (0 : Int) at hc63
              refine pw_ld E (pc' := 50) (st' := [.ref 16]) rfl (fun _ => rfl) ?_
              refine pw_ld E (pc' := 51) (st' := [pw_i a0, .ref 16]) rfl (fun _ => rfl) ?_
              refine pw_ld E (pc' := 52) (st' := [pw_i a1, pw_i a0, .ref 16]) rfl (fun _ => rfl) ?_
              obtain ⟨f64l, f64h, -⟩ := pw_obj (c := 0) I rfl
              refine pw_call (m' := 138) (As := [.ref 16, pw_i a0, pw_i a1]) (rest := []) (ls'' := [some (.ref 16), some (pw_i a0), some (pw_i a1), none]) (Nat.le_trans (by decide) hd) E rfl (fun _ => pw_iV rfl rfl rfl rfl (pw_cellI f64h rfl)) (rfl : pm_ent 138 = some (3, 4, 11, 4, pmc_138)) rfl rfl (cm_138 (pw_dp hd (by decide)) I (a0) (by omega) (by omega) (a1) (by omega) (by omega)) ?_
              rintro h65 v66 ⟨h65I, h65E, rfl⟩
              refine ⟨_, rfl, ?_⟩
              have h65F := E0.tr (h65E.wk (W' := [17, 18, 22]) (by first | rfl | simp))
              show pw X d h65 171 55 [some (.ref 16), some (pw_i a0), some (pw_i a1), some (pw_i a2), some (pw_i a3), some (pw_i 1)] [] _
              refine pw_ld E (pc' := 57) (st' := [pw_i 1]) rfl (fun _ => rfl) ?_
              refine pw_if E (pc' := 68) rfl (by decide) (by decide) (by decide) ?_ ?_
              · intro hc67
                change (1 : Int) ≠ (0 : Int) at hc67
                refine pw_ld E (pc' := 69) (st' := [.ref 16]) rfl (fun _ => rfl) ?_
                refine pw_getR (b := 32) h65I E (c := 0) (k := 7) (pc' := 72) rfl rfl rfl rfl rfl rfl rfl ?_
                refine pw_ld E (pc' := 73) (st' := [.ref 16, .ref 32]) rfl (fun _ => rfl) ?_
                refine pw_getR (b := 38) h65I E (c := 0) (k := 8) (pc' := 76) rfl rfl rfl rfl rfl rfl rfl ?_
                obtain ⟨f68l, f68h, -⟩ := pw_obj (c := 16) h65I rfl
                refine pw_call (m' := 83) (As := [.ref 32, .ref 38]) (rest := []) (ls'' := [some (.ref 32), some (.ref 38), none, none, none, none]) (Nat.le_trans (by decide) hd) E rfl (fun _ => pw_iV rfl rfl rfl rfl (pw_cellI f68h rfl)) (rfl : pm_ent 83 = some (2, 6, 8, 1, pmc_83)) rfl rfl (cm_83 (pw_dp hd (by decide)) h65I 22 (by unfold pw_Fr; omega)) ?_
                rintro h69 v70 ⟨h69I, h69E, x71, rfl, hx71a, hx71b⟩
                refine ⟨_, rfl, ?_⟩
                have h69F := h65F.tr (h69E.wk (W' := [17, 18, 22]) (by first | rfl | simp))
                show pw X d h69 171 79 [some (.ref 16), some (pw_i a0), some (pw_i a1), some (pw_i a2), some (pw_i a3), some (pw_i 1)] [pw_i x71] _
                refine pw_if E (pc' := 90) rfl (by decide) (by omega) (by omega) ?_ ?_
                · intro hc72
                  change x71 ≠ (0 : Int) at hc72
                  refine pw_ld E (pc' := 91) (st' := [.ref 16]) rfl (fun _ => rfl) ?_
                  refine pw_getR (b := 38) h69I E (c := 0) (k := 8) (pc' := 94) rfl rfl rfl rfl rfl rfl rfl ?_
                  refine pw_ld E (pc' := 96) (st' := [pw_i a3, .ref 38]) rfl (fun _ => rfl) ?_
                  obtain ⟨f73l, f73h, -⟩ := pw_obj (c := 22) h69I rfl
                  refine pw_call (m' := 9) (As := [.ref 38, pw_i a3]) (rest := []) (ls'' := [some (.ref 38), some (pw_i a3)]) (Nat.le_trans (by decide) hd) E rfl (fun _ => pw_iV rfl rfl rfl rfl (pw_cellI f73h rfl)) (rfl : pm_ent 9 = some (2, 2, 1, 2, pmc_9)) rfl rfl (cm_9 (pw_dp hd (by decide)) h69I 22 (by unfold pw_Fr; omega) (a3) (by omega) (by omega)) ?_
                  rintro u75 v74 ⟨rfl, w76, rfl⟩
                  refine ⟨_, rfl, ?_⟩
                  show pw X d h69 171 99 [some (.ref 16), some (pw_i a0), some (pw_i a1), some (pw_i a2), some (pw_i a3), some (pw_i 1)] [.long w76] _
                  refine pw_lret E rfl ?_
                  exact ⟨h69I, h69F, Or.inr ⟨_, rfl⟩⟩
                · intro hc77
                  change ¬ (x71 ≠ (0 : Int)) at hc77
                  refine pw_thr E rfl rfl h69I.2 ?_
                  exact ⟨h69I, h69F, Or.inl rfl⟩
              · intro hc78
                change ¬ ((1 : Int) ≠ (0 : Int)) at hc78
                exfalso; omega
            · intro hc79
              change ¬ ((1 : Int) ≠ (0 : Int)) at hc79
              exfalso; omega
        · skip
          refine pw_if E (pc' := 41) rfl (by decide) (by omega) (by omega) ?_ ?_
          · intro hc81
            change x59 = (0 : Int) at hc81
            refine pw_thr E rfl rfl I.2 ?_
            exact ⟨I, E0, Or.inl rfl⟩
          · intro hc82
            change ¬ (x59 = (0 : Int)) at hc82
            exfalso; omega
    · skip
      refine pw_if E (pc' := 41) rfl (by decide) (by omega) (by omega) ?_ ?_
      · intro hc84
        change x53 = (0 : Int) at hc84
        refine pw_thr E rfl rfl I.2 ?_
        exact ⟨I, E0, Or.inl rfl⟩
      · intro hc85
        change ¬ (x53 = (0 : Int)) at hc85
        exfalso; omega
set_option maxHeartbeats 4000000 in
theorem cm_172 {X : List (Nat × List Value)} {d : Nat} {h : pm_H} (hd : 5 ≤ d) (I : pw_I h) (a0 : Int) (ha01 : (-2147483648) ≤ a0) (ha02 : a0 ≤ 2147483647) (a1 : Int) (ha11 : (-2147483648) ≤ a1) (ha12 : a1 ≤ 2147483647) (a2 : Int) (ha21 : (-2147483648) ≤ a2) (ha22 : a2 ≤ 2147483647) (a3 : Int) (ha31 : (-2147483648) ≤ a3) (ha32 : a3 ≤ 2147483647) : pw X d h 172 0 [some (.ref 16), some (pw_i a0), some (pw_i a1), some (pw_i a2), some (pw_i a3), none] [] (fun h' v => pw_I h' ∧ pw_E [17, 18, 22, 23] h h' ∧ (v = .inr () ∨ (∃ w : Int64, v = .inl (some (.long w))))) := by
  have E : pm_ent 172 = some (5, 6, 11, 2, pmc_172) := rfl
  have E0 : pw_E [17, 18, 22, 23] h h := pw_E.rf _ _
  refine pw_ld E (pc' := 1) (st' := [pw_i a0]) rfl (fun _ => rfl) ?_
  refine pw_ld E (pc' := 2) (st' := [pw_i a1, pw_i a0]) rfl (fun _ => rfl) ?_
  refine pw_call (m' := 131) (As := [pw_i a0, pw_i a1]) (rest := []) (ls'' := [some (pw_i a0), some (pw_i a1)]) (Nat.le_trans (by decide) hd) E rfl (fun _ => pw_iS rfl rfl rfl) (rfl : pm_ent 131 = some (2, 2, 11, 1, pmc_131)) rfl rfl (cm_131 (pw_dp hd (by decide)) I (a0) (by omega) (by omega) (a1) (by omega) (by omega)) ?_
  rintro u2 v1 ⟨rfl, x3, rfl, hx3a, hx3b, hx3r⟩
  refine ⟨_, rfl, ?_⟩
  show pw X d h 172 5 [some (.ref 16), some (pw_i a0), some (pw_i a1), some (pw_i a2), some (pw_i a3), none] [pw_i x3] _
  change (x3 = 1 ∧ 0 ≤ a0 ∧ a0 ≤ 11 ∧ 0 ≤ a1 ∧ a1 ≤ 11) ∨ x3 = 0 at hx3r
  rcases (by omega : x3 = 1 ∨ x3 = 0) with hb4 | hb4
  · skip
    refine pw_if E (pc' := 37) rfl (by decide) (by omega) (by omega) ?_ ?_
    · intro hc5
      change x3 = (0 : Int) at hc5
      exfalso; omega
    · intro hc6
      change ¬ (x3 = (0 : Int)) at hc6
      refine pw_ld E (pc' := 9) (st' := [.ref 16]) rfl (fun _ => rfl) ?_
      refine pw_ld E (pc' := 10) (st' := [pw_i a2, .ref 16]) rfl (fun _ => rfl) ?_
      obtain ⟨f7l, f7h, -⟩ := pw_obj (c := 0) I rfl
      refine pw_call (m' := 124) (As := [.ref 16, pw_i a2]) (rest := []) (ls'' := [some (.ref 16), some (pw_i a2)]) (Nat.le_trans (by decide) hd) E rfl (fun _ => pw_iV rfl rfl rfl rfl (pw_cellI f7h rfl)) (rfl : pm_ent 124 = some (2, 2, 11, 1, pmc_124)) rfl rfl (cm_124 (pw_dp hd (by decide)) I (a2) (by omega) (by omega)) ?_
      rintro u9 v8 ⟨rfl, x10, rfl, hx10a, hx10b, hx10r⟩
      refine ⟨_, rfl, ?_⟩
      show pw X d h 172 13 [some (.ref 16), some (pw_i a0), some (pw_i a1), some (pw_i a2), some (pw_i a3), none] [pw_i x10] _
      change (x10 = 1 ∧ 0 ≤ a2 ∧ a2 ≤ 23) ∨ x10 = 0 at hx10r
      rcases (by omega : x10 = 1 ∨ x10 = 0) with hb11 | hb11
      · skip
        refine pw_if E (pc' := 37) rfl (by decide) (by omega) (by omega) ?_ ?_
        · intro hc12
          change x10 = (0 : Int) at hc12
          exfalso; omega
        · intro hc13
          change ¬ (x10 = (0 : Int)) at hc13
          refine pw_ld E (pc' := 18) (st' := [pw_i a3]) rfl (fun _ => rfl) ?_
          refine pw_call (m' := 137) (As := [pw_i a3]) (rest := []) (ls'' := [some (pw_i a3)]) (Nat.le_trans (by decide) hd) E rfl (fun _ => pw_iS rfl rfl rfl) (rfl : pm_ent 137 = some (1, 1, 11, 1, pmc_137)) rfl rfl (cm_137 (pw_dp hd (by decide)) I (a3) (by omega) (by omega)) ?_
          rintro u15 v14 ⟨rfl, x16, rfl, hx16a, hx16b, hx16r⟩
          refine ⟨_, rfl, ?_⟩
          show pw X d h 172 21 [some (.ref 16), some (pw_i a0), some (pw_i a1), some (pw_i a2), some (pw_i a3), none] [pw_i x16] _
          change (x16 = 1 ∧ 0 ≤ a3 ∧ a3 ≤ 1) ∨ (x16 = 0 ∧ ¬ (0 ≤ a3 ∧ a3 ≤ 1)) at hx16r
          rcases (by omega : x16 = 1 ∨ x16 = 0) with hb17 | hb17
          · skip
            refine pw_if E (pc' := 37) rfl (by decide) (by omega) (by omega) ?_ ?_
            · intro hc18
              change x16 = (0 : Int) at hc18
              exfalso; omega
            · intro hc19
              change ¬ (x16 = (0 : Int)) at hc19
              refine pw_ld E (pc' := 25) (st' := [.ref 16]) rfl (fun _ => rfl) ?_
              refine pw_getR (b := 26) I E (c := 0) (k := 2) (pc' := 28) rfl rfl rfl rfl rfl rfl rfl ?_
              refine pw_ld E (pc' := 29) (st' := [pw_i a2, .ref 26]) rfl (fun _ => rfl) ?_
              refine pw_ld E (pc' := 30) (st' := [pw_i a0, pw_i a2, .ref 26]) rfl (fun _ => rfl) ?_
              refine pw_ld E (pc' := 31) (st' := [pw_i a1, pw_i a0, pw_i a2, .ref 26]) rfl (fun _ => rfl) ?_
              obtain ⟨f20l, f20h, -⟩ := pw_obj (c := 10) I rfl
              refine pw_call (m' := 23) (As := [.ref 26, pw_i a2, pw_i a0, pw_i a1]) (rest := []) (ls'' := [some (.ref 26), some (pw_i a2), some (pw_i a0), some (pw_i a1)]) (Nat.le_trans (by decide) hd) E rfl (fun _ => pw_iV rfl rfl rfl rfl (pw_cellI f20h rfl)) (rfl : pm_ent 23 = some (4, 4, 2, 1, pmc_23)) rfl rfl (cm_23 (pw_dp hd (by decide)) I 10 (by unfold pw_Lg; omega) (a2) (by omega) (by omega) (a0) (by omega) (by omega) (a1) (by omega) (by omega)) ?_
              rintro u22 v21 ⟨rfl, x23, rfl, hx23a, hx23b⟩
              refine ⟨_, rfl, ?_⟩
              show pw X d h 172 34 [some (.ref 16), some (pw_i a0), some (pw_i a1), some (pw_i a2), some (pw_i a3), none] [pw_i x23] _
              refine pw_if E (pc' := 45) rfl (by decide) (by omega) (by omega) ?_ ?_
              · intro hc24
                change x23 ≠ (0 : Int) at hc24
                refine pw_ld E (pc' := 46) (st' := [.ref 16]) rfl (fun _ => rfl) ?_
                refine pw_ld E (pc' := 47) (st' := [pw_i a0, .ref 16]) rfl (fun _ => rfl) ?_
                refine pw_ld E (pc' := 48) (st' := [pw_i a1, pw_i a0, .ref 16]) rfl (fun _ => rfl) ?_
                obtain ⟨f25l, f25h, -⟩ := pw_obj (c := 0) I rfl
                refine pw_call (m' := 138) (As := [.ref 16, pw_i a0, pw_i a1]) (rest := []) (ls'' := [some (.ref 16), some (pw_i a0), some (pw_i a1), none]) (Nat.le_trans (by decide) hd) E rfl (fun _ => pw_iV rfl rfl rfl rfl (pw_cellI f25h rfl)) (rfl : pm_ent 138 = some (3, 4, 11, 4, pmc_138)) rfl rfl (cm_138 (pw_dp hd (by decide)) I (a0) (by omega) (by omega) (a1) (by omega) (by omega)) ?_
                rintro h26 v27 ⟨h26I, h26E, rfl⟩
                refine ⟨_, rfl, ?_⟩
                have h26F := E0.tr (h26E.wk (W' := [17, 18, 22, 23]) (by first | rfl | simp))
                show pw X d h26 172 51 [some (.ref 16), some (pw_i a0), some (pw_i a1), some (pw_i a2), some (pw_i a3), none] [] _
                refine pw_ld E (pc' := 52) (st' := [.ref 16]) rfl (fun _ => rfl) ?_
                refine pw_getR (b := 32) h26I E (c := 0) (k := 7) (pc' := 55) rfl rfl rfl rfl rfl rfl rfl ?_
                refine pw_ld E (pc' := 56) (st' := [.ref 16, .ref 32]) rfl (fun _ => rfl) ?_
                refine pw_getR (b := 38) h26I E (c := 0) (k := 8) (pc' := 59) rfl rfl rfl rfl rfl rfl rfl ?_
                obtain ⟨f28l, f28h, -⟩ := pw_obj (c := 16) h26I rfl
                refine pw_call (m' := 83) (As := [.ref 32, .ref 38]) (rest := []) (ls'' := [some (.ref 32), some (.ref 38), none, none, none, none]) (Nat.le_trans (by decide) hd) E rfl (fun _ => pw_iV rfl rfl rfl rfl (pw_cellI f28h rfl)) (rfl : pm_ent 83 = some (2, 6, 8, 1, pmc_83)) rfl rfl (cm_83 (pw_dp hd (by decide)) h26I 22 (by unfold pw_Fr; omega)) ?_
                rintro h29 v30 ⟨h29I, h29E, x31, rfl, hx31a, hx31b⟩
                refine ⟨_, rfl, ?_⟩
                have h29F := h26F.tr (h29E.wk (W' := [17, 18, 22, 23]) (by first | rfl | simp))
                show pw X d h29 172 62 [some (.ref 16), some (pw_i a0), some (pw_i a1), some (pw_i a2), some (pw_i a3), none] [pw_i x31] _
                refine pw_ist E (pc' := 64) (ls' := [some (.ref 16), some (pw_i a0), some (pw_i a1), some (pw_i a2), some (pw_i a3), some (pw_i x31)]) rfl rfl rfl rfl ?_
                refine pw_ld E (pc' := 65) (st' := [.ref 16]) rfl (fun _ => rfl) ?_
                refine pw_getR (b := 32) h29I E (c := 0) (k := 7) (pc' := 68) rfl rfl rfl rfl rfl rfl rfl ?_
                refine pw_ld E (pc' := 69) (st' := [pw_i a2, .ref 32]) rfl (fun _ => rfl) ?_
                obtain ⟨f32l, f32h, -⟩ := pw_obj (c := 16) h29I rfl
                refine pw_call (m' := 93) (As := [.ref 32, pw_i a2]) (rest := []) (ls'' := [some (.ref 32), some (pw_i a2)]) (Nat.le_trans (by decide) hd) E rfl (fun _ => pw_iV rfl rfl rfl rfl (pw_cellI f32h rfl)) (rfl : pm_ent 93 = some (2, 2, 8, 4, pmc_93)) rfl rfl (cm_93 (pw_dp hd (by decide)) h29I (a2) (by omega) (by omega)) ?_
                rintro h33 v34 ⟨h33I, h33E, rfl⟩
                refine ⟨_, rfl, ?_⟩
                have h33F := h29F.tr (h33E.wk (W' := [17, 18, 22, 23]) (by first | rfl | simp))
                show pw X d h33 172 72 [some (.ref 16), some (pw_i a0), some (pw_i a1), some (pw_i a2), some (pw_i a3), some (pw_i x31)] [] _
                refine pw_ld E (pc' := 74) (st' := [pw_i x31]) rfl (fun _ => rfl) ?_
                refine pw_if E (pc' := 91) rfl (by decide) (by omega) (by omega) ?_ ?_
                · intro hc35
                  change x31 = (0 : Int) at hc35
                  refine pw_thr E rfl rfl h33I.2 ?_
                  exact ⟨h33I, h33F, Or.inl rfl⟩
                · intro hc36
                  change ¬ (x31 = (0 : Int)) at hc36
                  refine pw_ld E (pc' := 78) (st' := [.ref 16]) rfl (fun _ => rfl) ?_
                  refine pw_getR (b := 32) h33I E (c := 0) (k := 7) (pc' := 81) rfl rfl rfl rfl rfl rfl rfl ?_
                  refine pw_ld E (pc' := 82) (st' := [.ref 16, .ref 32]) rfl (fun _ => rfl) ?_
                  refine pw_getR (b := 39) h33I E (c := 0) (k := 9) (pc' := 85) rfl rfl rfl rfl rfl rfl rfl ?_
                  obtain ⟨f37l, f37h, -⟩ := pw_obj (c := 16) h33I rfl
                  refine pw_call (m' := 83) (As := [.ref 32, .ref 39]) (rest := []) (ls'' := [some (.ref 32), some (.ref 39), none, none, none, none]) (Nat.le_trans (by decide) hd) E rfl (fun _ => pw_iV rfl rfl rfl rfl (pw_cellI f37h rfl)) (rfl : pm_ent 83 = some (2, 6, 8, 1, pmc_83)) rfl rfl (cm_83 (pw_dp hd (by decide)) h33I 23 (by unfold pw_Fr; omega)) ?_
                  rintro h38 v39 ⟨h38I, h38E, x40, rfl, hx40a, hx40b⟩
                  refine ⟨_, rfl, ?_⟩
                  have h38F := h33F.tr (h38E.wk (W' := [17, 18, 22, 23]) (by first | rfl | simp))
                  show pw X d h38 172 88 [some (.ref 16), some (pw_i a0), some (pw_i a1), some (pw_i a2), some (pw_i a3), some (pw_i x31)] [pw_i x40] _
                  refine pw_if E (pc' := 99) rfl (by decide) (by omega) (by omega) ?_ ?_
                  · intro hc41
                    change x40 ≠ (0 : Int) at hc41
                    refine pw_ld E (pc' := 100) (st' := [.ref 16]) rfl (fun _ => rfl) ?_
                    refine pw_getR (b := 38) h38I E (c := 0) (k := 8) (pc' := 103) rfl rfl rfl rfl rfl rfl rfl ?_
                    refine pw_ld E (pc' := 104) (st' := [.ref 16, .ref 38]) rfl (fun _ => rfl) ?_
                    refine pw_getR (b := 39) h38I E (c := 0) (k := 9) (pc' := 107) rfl rfl rfl rfl rfl rfl rfl ?_
                    obtain ⟨f42l, f42h, -⟩ := pw_obj (c := 22) h38I rfl
                    refine pw_call (m' := 14) (As := [.ref 38, .ref 39]) (rest := []) (ls'' := [some (.ref 38), some (.ref 39)]) (Nat.le_trans (by decide) hd) E rfl (fun _ => pw_iV rfl rfl rfl rfl (pw_cellI f42h rfl)) (rfl : pm_ent 14 = some (2, 2, 1, 4, pmc_14)) rfl rfl (cm_14 (pw_dp hd (by decide)) h38I 22 (by unfold pw_Fr; omega) 23 (by unfold pw_Fr; omega)) ?_
                    rintro h43 v44 ⟨h43I, h43E, rfl⟩
                    refine ⟨_, rfl, ?_⟩
                    have h43F := h38F.tr (h43E.wk (W' := [17, 18, 22, 23]) (by first | rfl | simp))
                    show pw X d h43 172 110 [some (.ref 16), some (pw_i a0), some (pw_i a1), some (pw_i a2), some (pw_i a3), some (pw_i x31)] [] _
                    refine pw_ld E (pc' := 111) (st' := [.ref 16]) rfl (fun _ => rfl) ?_
                    refine pw_getR (b := 38) h43I E (c := 0) (k := 8) (pc' := 114) rfl rfl rfl rfl rfl rfl rfl ?_
                    refine pw_ld E (pc' := 116) (st' := [pw_i a3, .ref 38]) rfl (fun _ => rfl) ?_
                    obtain ⟨f45l, f45h, -⟩ := pw_obj (c := 22) h43I rfl
                    refine pw_call (m' := 9) (As := [.ref 38, pw_i a3]) (rest := []) (ls'' := [some (.ref 38), some (pw_i a3)]) (Nat.le_trans (by decide) hd) E rfl (fun _ => pw_iV rfl rfl rfl rfl (pw_cellI f45h rfl)) (rfl : pm_ent 9 = some (2, 2, 1, 2, pmc_9)) rfl rfl (cm_9 (pw_dp hd (by decide)) h43I 22 (by unfold pw_Fr; omega) (a3) (by omega) (by omega)) ?_
                    rintro u47 v46 ⟨rfl, w48, rfl⟩
                    refine ⟨_, rfl, ?_⟩
                    show pw X d h43 172 119 [some (.ref 16), some (pw_i a0), some (pw_i a1), some (pw_i a2), some (pw_i a3), some (pw_i x31)] [.long w48] _
                    refine pw_lret E rfl ?_
                    exact ⟨h43I, h43F, Or.inr ⟨_, rfl⟩⟩
                  · intro hc49
                    change ¬ (x40 ≠ (0 : Int)) at hc49
                    refine pw_thr E rfl rfl h38I.2 ?_
                    exact ⟨h38I, h38F, Or.inl rfl⟩
              · intro hc50
                change ¬ (x23 ≠ (0 : Int)) at hc50
                refine pw_thr E rfl rfl I.2 ?_
                exact ⟨I, E0, Or.inl rfl⟩
          · skip
            refine pw_if E (pc' := 37) rfl (by decide) (by omega) (by omega) ?_ ?_
            · intro hc52
              change x16 = (0 : Int) at hc52
              refine pw_thr E rfl rfl I.2 ?_
              exact ⟨I, E0, Or.inl rfl⟩
            · intro hc53
              change ¬ (x16 = (0 : Int)) at hc53
              exfalso; omega
      · skip
        refine pw_if E (pc' := 37) rfl (by decide) (by omega) (by omega) ?_ ?_
        · intro hc55
          change x10 = (0 : Int) at hc55
          refine pw_thr E rfl rfl I.2 ?_
          exact ⟨I, E0, Or.inl rfl⟩
        · intro hc56
          change ¬ (x10 = (0 : Int)) at hc56
          exfalso; omega
  · skip
    refine pw_if E (pc' := 37) rfl (by decide) (by omega) (by omega) ?_ ?_
    · intro hc58
      change x3 = (0 : Int) at hc58
      refine pw_thr E rfl rfl I.2 ?_
      exact ⟨I, E0, Or.inl rfl⟩
    · intro hc59
      change ¬ (x3 = (0 : Int)) at hc59
      exfalso; omega
set_option maxHeartbeats 4000000 in
theorem cm_173 {X : List (Nat × List Value)} {d : Nat} {h : pm_H} (hd : 5 ≤ d) (I : pw_I h) (a0 : Int) (ha01 : (-2147483648) ≤ a0) (ha02 : a0 ≤ 2147483647) (a1 : Int) (ha11 : (-2147483648) ≤ a1) (ha12 : a1 ≤ 2147483647) (a2 : Int) (ha21 : (-2147483648) ≤ a2) (ha22 : a2 ≤ 2147483647) : pw X d h 173 0 [some (.ref 16), some (pw_i a0), some (pw_i a1), some (pw_i a2)] [] (fun h' v => pw_I h' ∧ pw_E [17, 18, 22] h h' ∧ (v = .inr () ∨ (∃ w : Int64, v = .inl (some (.long w))))) := by
  have E : pm_ent 173 = some (4, 4, 11, 2, pmc_173) := rfl
  have E0 : pw_E [17, 18, 22] h h := pw_E.rf _ _
  refine pw_ld E (pc' := 1) (st' := [pw_i a0]) rfl (fun _ => rfl) ?_
  refine pw_ld E (pc' := 2) (st' := [pw_i a1, pw_i a0]) rfl (fun _ => rfl) ?_
  refine pw_call (m' := 131) (As := [pw_i a0, pw_i a1]) (rest := []) (ls'' := [some (pw_i a0), some (pw_i a1)]) (Nat.le_trans (by decide) hd) E rfl (fun _ => pw_iS rfl rfl rfl) (rfl : pm_ent 131 = some (2, 2, 11, 1, pmc_131)) rfl rfl (cm_131 (pw_dp hd (by decide)) I (a0) (by omega) (by omega) (a1) (by omega) (by omega)) ?_
  rintro u2 v1 ⟨rfl, x3, rfl, hx3a, hx3b, hx3r⟩
  refine ⟨_, rfl, ?_⟩
  show pw X d h 173 5 [some (.ref 16), some (pw_i a0), some (pw_i a1), some (pw_i a2)] [pw_i x3] _
  change (x3 = 1 ∧ 0 ≤ a0 ∧ a0 ≤ 11 ∧ 0 ≤ a1 ∧ a1 ≤ 11) ∨ x3 = 0 at hx3r
  rcases (by omega : x3 = 1 ∨ x3 = 0) with hb4 | hb4
  · skip
    refine pw_if E (pc' := 15) rfl (by decide) (by omega) (by omega) ?_ ?_
    · intro hc5
      change x3 = (0 : Int) at hc5
      exfalso; omega
    · intro hc6
      change ¬ (x3 = (0 : Int)) at hc6
      refine pw_ld E (pc' := 9) (st' := [pw_i a2]) rfl (fun _ => rfl) ?_
      refine pw_call (m' := 174) (As := [pw_i a2]) (rest := []) (ls'' := [some (pw_i a2)]) (Nat.le_trans (by decide) hd) E rfl (fun _ => pw_iS rfl rfl rfl) (rfl : pm_ent 174 = some (1, 1, 11, 1, pmc_174)) rfl rfl (cm_174 (pw_dp hd (by decide)) I (a2) (by omega) (by omega)) ?_
      rintro u8 v7 ⟨rfl, x9, rfl, hx9a, hx9b, hx9r⟩
      refine ⟨_, rfl, ?_⟩
      show pw X d h 173 12 [some (.ref 16), some (pw_i a0), some (pw_i a1), some (pw_i a2)] [pw_i x9] _
      change (x9 = 1 ∧ 0 ≤ a2 ∧ a2 ≤ 3) ∨ (x9 = 0 ∧ ¬ (0 ≤ a2 ∧ a2 ≤ 3)) at hx9r
      rcases (by omega : x9 = 1 ∨ x9 = 0) with hb10 | hb10
      · skip
        refine pw_if E (pc' := 23) rfl (by decide) (by omega) (by omega) ?_ ?_
        · intro hc11
          change x9 ≠ (0 : Int) at hc11
          refine pw_ld E (pc' := 24) (st' := [.ref 16]) rfl (fun _ => rfl) ?_
          refine pw_ld E (pc' := 25) (st' := [pw_i a0, .ref 16]) rfl (fun _ => rfl) ?_
          refine pw_ld E (pc' := 26) (st' := [pw_i a1, pw_i a0, .ref 16]) rfl (fun _ => rfl) ?_
          refine pw_ld E (pc' := 27) (st' := [pw_i a2, pw_i a1, pw_i a0, .ref 16]) rfl (fun _ => rfl) ?_
          refine pw_call (m' := 175) (As := [pw_i a2]) (rest := [pw_i a1, pw_i a0, .ref 16]) (ls'' := [some (pw_i a2)]) (Nat.le_trans (by decide) hd) E rfl (fun _ => pw_iS rfl rfl rfl) (rfl : pm_ent 175 = some (1, 1, 11, 1, pmc_175)) rfl rfl (cm_175 (pw_dp hd (by decide)) I (a2) (by omega) (by omega)) ?_
          rintro u13 v12 ⟨rfl, x14, rfl, hx14a, hx14b⟩
          refine ⟨_, rfl, ?_⟩
          show pw X d h 173 30 [some (.ref 16), some (pw_i a0), some (pw_i a1), some (pw_i a2)] [pw_i x14, pw_i a1, pw_i a0, .ref 16] _
          obtain ⟨f15l, f15h, -⟩ := pw_obj (c := 0) I rfl
          refine pw_call (m' := 132) (As := [.ref 16, pw_i a0, pw_i a1, pw_i x14]) (rest := []) (ls'' := [some (.ref 16), some (pw_i a0), some (pw_i a1), some (pw_i x14), none, none, none]) (Nat.le_trans (by decide) hd) E rfl (fun _ => pw_iV rfl rfl rfl rfl (pw_cellI f15h rfl)) (rfl : pm_ent 132 = some (4, 7, 11, 4, pmc_132)) rfl rfl (cm_132 (pw_dp hd (by decide)) I (a0) (by omega) (by omega) (a1) (by omega) (by omega) (x14) (by omega) (by omega)) ?_
          rintro h16 v17 ⟨h16I, h16E, rfl⟩
          refine ⟨_, rfl, ?_⟩
          have h16F := E0.tr (h16E.wk (W' := [17, 18, 22]) (by first | rfl | simp))
          show pw X d h16 173 33 [some (.ref 16), some (pw_i a0), some (pw_i a1), some (pw_i a2)] [] _
          refine pw_ld E (pc' := 34) (st' := [.ref 16]) rfl (fun _ => rfl) ?_
          refine pw_getR (b := 32) h16I E (c := 0) (k := 7) (pc' := 37) rfl rfl rfl rfl rfl rfl rfl ?_
          refine pw_ld E (pc' := 38) (st' := [.ref 16, .ref 32]) rfl (fun _ => rfl) ?_
          refine pw_getR (b := 38) h16I E (c := 0) (k := 8) (pc' := 41) rfl rfl rfl rfl rfl rfl rfl ?_
          obtain ⟨f18l, f18h, -⟩ := pw_obj (c := 16) h16I rfl
          refine pw_call (m' := 83) (As := [.ref 32, .ref 38]) (rest := []) (ls'' := [some (.ref 32), some (.ref 38), none, none, none, none]) (Nat.le_trans (by decide) hd) E rfl (fun _ => pw_iV rfl rfl rfl rfl (pw_cellI f18h rfl)) (rfl : pm_ent 83 = some (2, 6, 8, 1, pmc_83)) rfl rfl (cm_83 (pw_dp hd (by decide)) h16I 22 (by unfold pw_Fr; omega)) ?_
          rintro h19 v20 ⟨h19I, h19E, x21, rfl, hx21a, hx21b⟩
          refine ⟨_, rfl, ?_⟩
          have h19F := h16F.tr (h19E.wk (W' := [17, 18, 22]) (by first | rfl | simp))
          show pw X d h19 173 44 [some (.ref 16), some (pw_i a0), some (pw_i a1), some (pw_i a2)] [pw_i x21] _
          refine pw_if E (pc' := 55) rfl (by decide) (by omega) (by omega) ?_ ?_
          · intro hc22
            change x21 ≠ (0 : Int) at hc22
            refine pw_ld E (pc' := 56) (st' := [.ref 16]) rfl (fun _ => rfl) ?_
            refine pw_getR (b := 38) h19I E (c := 0) (k := 8) (pc' := 59) rfl rfl rfl rfl rfl rfl rfl ?_
            refine pw_ld E (pc' := 60) (st' := [pw_i a2, .ref 38]) rfl (fun _ => rfl) ?_
            refine pw_call (m' := 176) (As := [pw_i a2]) (rest := [.ref 38]) (ls'' := [some (pw_i a2)]) (Nat.le_trans (by decide) hd) E rfl (fun _ => pw_iS rfl rfl rfl) (rfl : pm_ent 176 = some (1, 1, 11, 0, pmc_176)) rfl rfl (cm_176 (pw_dp hd (by decide)) h19I (a2) (by omega) (by omega)) ?_
            rintro u24 v23 ⟨rfl, x25, rfl, hx25a, hx25b⟩
            refine ⟨_, rfl, ?_⟩
            show pw X d h19 173 63 [some (.ref 16), some (pw_i a0), some (pw_i a1), some (pw_i a2)] [pw_i x25, .ref 38] _
            obtain ⟨f26l, f26h, -⟩ := pw_obj (c := 22) h19I rfl
            refine pw_call (m' := 9) (As := [.ref 38, pw_i x25]) (rest := []) (ls'' := [some (.ref 38), some (pw_i x25)]) (Nat.le_trans (by decide) hd) E rfl (fun _ => pw_iV rfl rfl rfl rfl (pw_cellI f26h rfl)) (rfl : pm_ent 9 = some (2, 2, 1, 2, pmc_9)) rfl rfl (cm_9 (pw_dp hd (by decide)) h19I 22 (by unfold pw_Fr; omega) (x25) (by omega) (by omega)) ?_
            rintro u28 v27 ⟨rfl, w29, rfl⟩
            refine ⟨_, rfl, ?_⟩
            show pw X d h19 173 66 [some (.ref 16), some (pw_i a0), some (pw_i a1), some (pw_i a2)] [.long w29] _
            refine pw_lret E rfl ?_
            exact ⟨h19I, h19F, Or.inr ⟨_, rfl⟩⟩
          · intro hc30
            change ¬ (x21 ≠ (0 : Int)) at hc30
            refine pw_thr E rfl rfl h19I.2 ?_
            exact ⟨h19I, h19F, Or.inl rfl⟩
        · intro hc31
          change ¬ (x9 ≠ (0 : Int)) at hc31
          exfalso; omega
      · skip
        refine pw_if E (pc' := 23) rfl (by decide) (by omega) (by omega) ?_ ?_
        · intro hc33
          change x9 ≠ (0 : Int) at hc33
          exfalso; omega
        · intro hc34
          change ¬ (x9 ≠ (0 : Int)) at hc34
          refine pw_thr E rfl rfl I.2 ?_
          exact ⟨I, E0, Or.inl rfl⟩
  · skip
    refine pw_if E (pc' := 15) rfl (by decide) (by omega) (by omega) ?_ ?_
    · intro hc36
      change x3 = (0 : Int) at hc36
      refine pw_thr E rfl rfl I.2 ?_
      exact ⟨I, E0, Or.inl rfl⟩
    · intro hc37
      change ¬ (x3 = (0 : Int)) at hc37
      exfalso; omega
set_option maxHeartbeats 4000000 in
theorem cm_177 {X : List (Nat × List Value)} {d : Nat} {h : pm_H} (hd : 4 ≤ d) (I : pw_I h) (b : Int) (hb1 : (-2147483648) ≤ b) (hb2 : b ≤ 2147483647) (e : Int) (he1 : (-2147483648) ≤ e) (he2 : e ≤ 2147483647) (z : Int) (hz1 : 0 ≤ z) (hz2 : z ≤ 1) (wt : Int) (hwt1 : (-2147483648) ≤ wt) (hwt2 : wt ≤ 2147483647) : pw X d h 177 0 [some (.ref 16), some (pw_i b), some (pw_i e), some (pw_i z), some (pw_i wt), none, none] [] (fun h' v => pw_I h' ∧ pw_E [17, 18, 22] h h' ∧ (v = .inr () ∨ (∃ w : Int64, v = .inl (some (.long w))))) := by
  have E : pm_ent 177 = some (5, 7, 11, 2, pmc_177) := rfl
  have E0 : pw_E [17, 18, 22] h h := pw_E.rf _ _
  refine pw_ld E (pc' := 1) (st' := [pw_i b]) rfl (fun _ => rfl) ?_
  refine pw_ld E (pc' := 2) (st' := [pw_i e, pw_i b]) rfl (fun _ => rfl) ?_
  refine pw_call (m' := 131) (As := [pw_i b, pw_i e]) (rest := []) (ls'' := [some (pw_i b), some (pw_i e)]) (Nat.le_trans (by decide) hd) E rfl (fun _ => pw_iS rfl rfl rfl) (rfl : pm_ent 131 = some (2, 2, 11, 1, pmc_131)) rfl rfl (cm_131 (pw_dp hd (by decide)) I (b) (by omega) (by omega) (e) (by omega) (by omega)) ?_
  rintro u2 v1 ⟨rfl, x3, rfl, hx3a, hx3b, hx3r⟩
  refine ⟨_, rfl, ?_⟩
  show pw X d h 177 5 [some (.ref 16), some (pw_i b), some (pw_i e), some (pw_i z), some (pw_i wt), none, none] [pw_i x3] _
  change (x3 = 1 ∧ 0 ≤ b ∧ b ≤ 11 ∧ 0 ≤ e ∧ e ≤ 11) ∨ x3 = 0 at hx3r
  rcases (by omega : x3 = 1 ∨ x3 = 0) with hb4 | hb4
  · skip
    refine pw_if E (pc' := 16) rfl (by decide) (by omega) (by omega) ?_ ?_
    · intro hc5
      change x3 = (0 : Int) at hc5
      exfalso; omega
    · intro hc6
      change ¬ (x3 = (0 : Int)) at hc6
      refine pw_ld E (pc' := 10) (st' := [pw_i wt]) rfl (fun _ => rfl) ?_
      refine pw_call (m' := 137) (As := [pw_i wt]) (rest := []) (ls'' := [some (pw_i wt)]) (Nat.le_trans (by decide) hd) E rfl (fun _ => pw_iS rfl rfl rfl) (rfl : pm_ent 137 = some (1, 1, 11, 1, pmc_137)) rfl rfl (cm_137 (pw_dp hd (by decide)) I (wt) (by omega) (by omega)) ?_
      rintro u8 v7 ⟨rfl, x9, rfl, hx9a, hx9b, hx9r⟩
      refine ⟨_, rfl, ?_⟩
      show pw X d h 177 13 [some (.ref 16), some (pw_i b), some (pw_i e), some (pw_i z), some (pw_i wt), none, none] [pw_i x9] _
      change (x9 = 1 ∧ 0 ≤ wt ∧ wt ≤ 1) ∨ (x9 = 0 ∧ ¬ (0 ≤ wt ∧ wt ≤ 1)) at hx9r
      rcases (by omega : x9 = 1 ∨ x9 = 0) with hb10 | hb10
      · skip
        refine pw_if E (pc' := 24) rfl (by decide) (by omega) (by omega) ?_ ?_
        · intro hc11
          change x9 ≠ (0 : Int) at hc11
          refine pw_ld E (pc' := 25) (st' := [.ref 16]) rfl (fun _ => rfl) ?_
          refine pw_getR (b := 32) I E (c := 0) (k := 7) (pc' := 28) rfl rfl rfl rfl rfl rfl rfl ?_
          obtain ⟨f12l, f12h, -⟩ := pw_obj (c := 16) I rfl
          refine pw_call (m' := 81) (As := [.ref 32]) (rest := []) (ls'' := [some (.ref 32)]) (Nat.le_trans (by decide) hd) E rfl (fun _ => pw_iV rfl rfl rfl rfl (pw_cellI f12h rfl)) (rfl : pm_ent 81 = some (1, 1, 8, 4, pmc_81)) rfl rfl (cm_81 (pw_dp hd (by decide)) I ) ?_
          rintro h13 v14 ⟨h13I, h13E, rfl⟩
          refine ⟨_, rfl, ?_⟩
          have h13F := E0.tr (h13E.wk (W' := [17, 18, 22]) (by first | rfl | simp))
          show pw X d h13 177 31 [some (.ref 16), some (pw_i b), some (pw_i e), some (pw_i z), some (pw_i wt), none, none] [] _
          refine pw_ld E (pc' := 32) (st' := [pw_i 0]) rfl (fun _ => rfl) ?_
          refine pw_ist E (pc' := 34) (ls' := [some (.ref 16), some (pw_i b), some (pw_i e), some (pw_i z), some (pw_i wt), some (pw_i 0), none]) rfl rfl rfl rfl ?_
          have L34 : ∀ (n34 : Nat) (k34_5 : Int) (k34_6 : Option Value) (h34 : pm_H), pw_I h34 → pw_E [17, 18, 22] h h34 → 0 ≤ k34_5 → k34_5 ≤ 24 → (24 - k34_5).toNat = n34 → pw X d h34 177 34 [some (.ref 16), some (pw_i b), some (pw_i e), some (pw_i z), some (pw_i wt), some (pw_i k34_5), k34_6] [] (fun h' v => pw_I h' ∧ pw_E [17, 18, 22] h h' ∧ (v = .inr () ∨ (∃ w : Int64, v = .inl (some (.long w))))) := by
            intro n34
            induction n34 using Nat.strongRecOn with
            | ind n34 ih34 =>
              intro k34_5 k34_6 h34 I34 E34 k34_5a k34_5b hm34
              refine pw_ld E (pc' := 36) (st' := [pw_i k34_5]) rfl (fun _ => rfl) ?_
              refine pw_bip E (pc' := 38) rfl rfl (by decide) ?_
              refine pw_if2 E (pc' := 134) rfl (by decide) (by omega) (by omega) (by decide) (by decide) ?_ ?_
              · intro hc15
                change (24 : Int) ≤ k34_5 at hc15
                refine pw_ld E (pc' := 135) (st' := [.ref 16]) rfl (fun _ => rfl) ?_
                refine pw_getR (b := 32) I34 E (c := 0) (k := 7) (pc' := 138) rfl rfl rfl rfl rfl rfl rfl ?_
                refine pw_ld E (pc' := 139) (st' := [.ref 16, .ref 32]) rfl (fun _ => rfl) ?_
                refine pw_getR (b := 38) I34 E (c := 0) (k := 8) (pc' := 142) rfl rfl rfl rfl rfl rfl rfl ?_
                obtain ⟨f16l, f16h, -⟩ := pw_obj (c := 16) I34 rfl
                refine pw_call (m' := 83) (As := [.ref 32, .ref 38]) (rest := []) (ls'' := [some (.ref 32), some (.ref 38), none, none, none, none]) (Nat.le_trans (by decide) hd) E rfl (fun _ => pw_iV rfl rfl rfl rfl (pw_cellI f16h rfl)) (rfl : pm_ent 83 = some (2, 6, 8, 1, pmc_83)) rfl rfl (cm_83 (pw_dp hd (by decide)) I34 22 (by unfold pw_Fr; omega)) ?_
                rintro h17 v18 ⟨h17I, h17E, x19, rfl, hx19a, hx19b⟩
                refine ⟨_, rfl, ?_⟩
                have h17F := E34.tr (h17E.wk (W' := [17, 18, 22]) (by first | rfl | simp))
                show pw X d h17 177 145 [some (.ref 16), some (pw_i b), some (pw_i e), some (pw_i z), some (pw_i wt), some (pw_i k34_5), k34_6] [pw_i x19] _
                refine pw_if E (pc' := 156) rfl (by decide) (by omega) (by omega) ?_ ?_
                · intro hc20
                  change x19 ≠ (0 : Int) at hc20
                  refine pw_ld E (pc' := 157) (st' := [.ref 16]) rfl (fun _ => rfl) ?_
                  refine pw_getR (b := 38) h17I E (c := 0) (k := 8) (pc' := 160) rfl rfl rfl rfl rfl rfl rfl ?_
                  refine pw_ld E (pc' := 162) (st' := [pw_i wt, .ref 38]) rfl (fun _ => rfl) ?_
                  obtain ⟨f21l, f21h, -⟩ := pw_obj (c := 22) h17I rfl
                  refine pw_call (m' := 9) (As := [.ref 38, pw_i wt]) (rest := []) (ls'' := [some (.ref 38), some (pw_i wt)]) (Nat.le_trans (by decide) hd) E rfl (fun _ => pw_iV rfl rfl rfl rfl (pw_cellI f21h rfl)) (rfl : pm_ent 9 = some (2, 2, 1, 2, pmc_9)) rfl rfl (cm_9 (pw_dp hd (by decide)) h17I 22 (by unfold pw_Fr; omega) (wt) (by omega) (by omega)) ?_
                  rintro u23 v22 ⟨rfl, w24, rfl⟩
                  refine ⟨_, rfl, ?_⟩
                  show pw X d h17 177 165 [some (.ref 16), some (pw_i b), some (pw_i e), some (pw_i z), some (pw_i wt), some (pw_i k34_5), k34_6] [.long w24] _
                  refine pw_lret E rfl ?_
                  exact ⟨h17I, h17F, Or.inr ⟨_, rfl⟩⟩
                · intro hc25
                  change ¬ (x19 ≠ (0 : Int)) at hc25
                  refine pw_thr E rfl rfl h17I.2 ?_
                  exact ⟨h17I, h17F, Or.inl rfl⟩
              · intro hc26
                change ¬ ((24 : Int) ≤ k34_5) at hc26
                refine pw_ld E (pc' := 42) (st' := [.ref 16]) rfl (fun _ => rfl) ?_
                refine pw_getR (b := 17) I34 E (c := 0) (k := 0) (pc' := 45) rfl rfl rfl rfl rfl rfl rfl ?_
                refine pw_ld E (pc' := 47) (st' := [pw_i k34_5, .ref 17]) rfl (fun _ => rfl) ?_
                obtain ⟨f27l, f27h, -⟩ := pw_obj (c := 1) I34 rfl
                refine pw_call (m' := 59) (As := [.ref 17, pw_i k34_5]) (rest := []) (ls'' := [some (.ref 17), some (pw_i k34_5)]) (Nat.le_trans (by decide) hd) E rfl (fun _ => pw_iV rfl rfl rfl rfl (pw_cellI f27h rfl)) (rfl : pm_ent 59 = some (2, 2, 6, 1, pmc_59)) rfl rfl (cm_59 (pw_dp hd (by decide)) I34 (k34_5) (by omega) (by omega)) ?_
                rintro u29 v28 ⟨rfl, x30, rfl, hx30a, hx30b, hx30r⟩
                refine ⟨_, rfl, ?_⟩
                show pw X d h34 177 50 [some (.ref 16), some (pw_i b), some (pw_i e), some (pw_i z), some (pw_i wt), some (pw_i k34_5), k34_6] [pw_i x30] _
                change x30 = pw_g h34 2 k34_5.toNat at hx30r
                rcases (by omega : x30 = 1 ∨ x30 = 0) with hb31 | hb31
                · skip
                  refine pw_if E (pc' := 73) rfl (by decide) (by omega) (by omega) ?_ ?_
                  · intro hc32
                    change x30 = (0 : Int) at hc32
                    exfalso; omega
                  · intro hc33
                    change ¬ (x30 = (0 : Int)) at hc33
                    refine pw_ld E (pc' := 54) (st' := [pw_i z]) rfl (fun _ => rfl) ?_
                    refine pw_if E (pc' := 69) rfl (by decide) (by omega) (by omega) ?_ ?_
                    · intro hc34
                      change z = (0 : Int) at hc34
                      refine pw_ld E (pc' := 70) (st' := [pw_i 1]) rfl (fun _ => rfl) ?_
                      refine pw_goto E (pc' := 74) rfl (by decide) ?_
                      refine pw_ist E (pc' := 76) (ls' := [some (.ref 16), some (pw_i b), some (pw_i e), some (pw_i z), some (pw_i wt), some (pw_i k34_5), some (pw_i 1)]) rfl rfl rfl rfl ?_
                      refine pw_ld E (pc' := 78) (st' := [pw_i 1]) rfl (fun _ => rfl) ?_
                      refine pw_if E (pc' := 128) rfl (by decide) (by decide) (by decide) ?_ ?_
                      · intro hc35
                        change (1 : Int) = (0 : Int) at hc35
                        exfalso; omega
                      · intro hc36
                        change ¬ ((1 : Int) = (0 : Int)) at hc36
                        refine pw_ld E (pc' := 82) (st' := [.ref 16]) rfl (fun _ => rfl) ?_
                        refine pw_getR (b := 28) I34 E (c := 0) (k := 3) (pc' := 85) rfl rfl rfl rfl rfl rfl rfl ?_
                        refine pw_ld E (pc' := 87) (st' := [pw_i k34_5, .ref 28]) rfl (fun _ => rfl) ?_
                        refine pw_ld E (pc' := 88) (st' := [pw_i b, pw_i k34_5, .ref 28]) rfl (fun _ => rfl) ?_
                        refine pw_ld E (pc' := 89) (st' := [pw_i e, pw_i b, pw_i k34_5, .ref 28]) rfl (fun _ => rfl) ?_
                        obtain ⟨f37l, f37h, -⟩ := pw_obj (c := 12) I34 rfl
                        refine pw_call (m' := 23) (As := [.ref 28, pw_i k34_5, pw_i b, pw_i e]) (rest := []) (ls'' := [some (.ref 28), some (pw_i k34_5), some (pw_i b), some (pw_i e)]) (Nat.le_trans (by decide) hd) E rfl (fun _ => pw_iV rfl rfl rfl rfl (pw_cellI f37h rfl)) (rfl : pm_ent 23 = some (4, 4, 2, 1, pmc_23)) rfl rfl (cm_23 (pw_dp hd (by decide)) I34 12 (by unfold pw_Lg; omega) (k34_5) (by omega) (by omega) (b) (by omega) (by omega) (e) (by omega) (by omega)) ?_
                        rintro u39 v38 ⟨rfl, x40, rfl, hx40a, hx40b⟩
                        refine ⟨_, rfl, ?_⟩
                        show pw X d h34 177 92 [some (.ref 16), some (pw_i b), some (pw_i e), some (pw_i z), some (pw_i wt), some (pw_i k34_5), some (pw_i 1)] [pw_i x40] _
                        refine pw_if E (pc' := 128) rfl (by decide) (by omega) (by omega) ?_ ?_
                        · intro hc41
                          change x40 = (0 : Int) at hc41
                          refine pw_inc E (pc' := 131) (ls' := [some (.ref 16), some (pw_i b), some (pw_i e), some (pw_i z), some (pw_i wt), some (pw_i (k34_5 + 1)), some (pw_i 1)]) rfl rfl rfl rfl ?_
                          refine pw_goto E (pc' := 34) rfl (by decide) ?_
                          exact ih34 _ (by omega) (k34_5 + 1) (some (pw_i 1)) h34 I34 E34 (by omega) (by omega)  rfl
                        · intro hc42
                          change ¬ (x40 = (0 : Int)) at hc42
                          refine pw_ld E (pc' := 96) (st' := [.ref 16]) rfl (fun _ => rfl) ?_
                          refine pw_getR (b := 32) I34 E (c := 0) (k := 7) (pc' := 99) rfl rfl rfl rfl rfl rfl rfl ?_
                          refine pw_ld E (pc' := 101) (st' := [pw_i k34_5, .ref 32]) rfl (fun _ => rfl) ?_
                          refine pw_ld E (pc' := 102) (st' := [.ref 16, pw_i k34_5, .ref 32]) rfl (fun _ => rfl) ?_
                          refine pw_getR (b := 17) I34 E (c := 0) (k := 0) (pc' := 105) rfl rfl rfl rfl rfl rfl rfl ?_
                          refine pw_ld E (pc' := 107) (st' := [pw_i k34_5, .ref 17, pw_i k34_5, .ref 32]) rfl (fun _ => rfl) ?_
                          obtain ⟨f43l, f43h, -⟩ := pw_obj (c := 1) I34 rfl
                          refine pw_call (m' := 60) (As := [.ref 17, pw_i k34_5]) (rest := [pw_i k34_5, .ref 32]) (ls'' := [some (.ref 17), some (pw_i k34_5)]) (Nat.le_trans (by decide) hd) E rfl (fun _ => pw_iV rfl rfl rfl rfl (pw_cellI f43h rfl)) (rfl : pm_ent 60 = some (2, 2, 6, 0, pmc_60)) rfl rfl (cm_60 (pw_dp hd (by decide)) I34 (k34_5) (by omega) (by omega)) ?_
                          rintro u45 v44 ⟨rfl, x46, rfl, hx46a, hx46b, hx46r⟩
                          refine ⟨_, rfl, ?_⟩
                          show pw X d h34 177 110 [some (.ref 16), some (pw_i b), some (pw_i e), some (pw_i z), some (pw_i wt), some (pw_i k34_5), some (pw_i 1)] [pw_i x46, pw_i k34_5, .ref 32] _
                          change x46 = pw_g h34 4 k34_5.toNat at hx46r
                          refine pw_ld E (pc' := 111) (st' := [.ref 16, pw_i x46, pw_i k34_5, .ref 32]) rfl (fun _ => rfl) ?_
                          refine pw_getR (b := 28) I34 E (c := 0) (k := 3) (pc' := 114) rfl rfl rfl rfl rfl rfl rfl ?_
                          refine pw_ld E (pc' := 116) (st' := [pw_i k34_5, .ref 28, pw_i x46, pw_i k34_5, .ref 32]) rfl (fun _ => rfl) ?_
                          refine pw_ld E (pc' := 117) (st' := [pw_i b, pw_i k34_5, .ref 28, pw_i x46, pw_i k34_5, .ref 32]) rfl (fun _ => rfl) ?_
                          refine pw_ld E (pc' := 118) (st' := [pw_i e, pw_i b, pw_i k34_5, .ref 28, pw_i x46, pw_i k34_5, .ref 32]) rfl (fun _ => rfl) ?_
                          refine pw_ld E (pc' := 119) (st' := [.ref 16, pw_i e, pw_i b, pw_i k34_5, .ref 28, pw_i x46, pw_i k34_5, .ref 32]) rfl (fun _ => rfl) ?_
                          refine pw_getI2 I34 E (c := 0) (k := 6) (pc' := 122) rfl rfl rfl rfl rfl rfl (fun hf47a hf47b => ?_)
                          obtain ⟨f48l, f48h, -⟩ := pw_obj (c := 12) I34 rfl
                          refine pw_call (m' := 24) (As := [.ref 28, pw_i k34_5, pw_i b, pw_i e, pw_i (pw_g h34 0 6)]) (rest := [pw_i x46, pw_i k34_5, .ref 32]) (ls'' := [some (.ref 28), some (pw_i k34_5), some (pw_i b), some (pw_i e), some (pw_i (pw_g h34 0 6))]) (Nat.le_trans (by decide) hd) E rfl (fun _ => pw_iV rfl rfl rfl rfl (pw_cellI f48h rfl)) (rfl : pm_ent 24 = some (5, 5, 2, 0, pmc_24)) rfl rfl (cm_24 (pw_dp hd (by decide)) I34 12 (by unfold pw_Lg; omega) (k34_5) (by omega) (by omega) (b) (by omega) (by omega) (e) (by omega) (by omega) (pw_g h34 0 6) (by omega) (by omega)) ?_
                          rintro u50 v49 ⟨rfl, x51, rfl, hx51a, hx51b⟩
                          refine ⟨_, rfl, ?_⟩
                          show pw X d h34 177 125 [some (.ref 16), some (pw_i b), some (pw_i e), some (pw_i z), some (pw_i wt), some (pw_i k34_5), some (pw_i 1)] [pw_i x51, pw_i x46, pw_i k34_5, .ref 32] _
                          obtain ⟨f52l, f52h, -⟩ := pw_obj (c := 16) I34 rfl
                          refine pw_call (m' := 82) (As := [.ref 32, pw_i k34_5, pw_i x46, pw_i x51]) (rest := []) (ls'' := [some (.ref 32), some (pw_i k34_5), some (pw_i x46), some (pw_i x51)]) (Nat.le_trans (by decide) hd) E rfl (fun _ => pw_iV rfl rfl rfl rfl (pw_cellI f52h rfl)) (rfl : pm_ent 82 = some (4, 4, 8, 4, pmc_82)) rfl rfl (cm_82 (pw_dp hd (by decide)) I34 (k34_5) (by omega) (by omega) (x46) (by omega) (by omega) (x51) (by omega) (by omega)) ?_
                          rintro h53 v54 ⟨h53I, h53E, rfl⟩
                          refine ⟨_, rfl, ?_⟩
                          have h53F := E34.tr (h53E.wk (W' := [17, 18, 22]) (by first | rfl | simp))
                          show pw X d h53 177 128 [some (.ref 16), some (pw_i b), some (pw_i e), some (pw_i z), some (pw_i wt), some (pw_i k34_5), some (pw_i 1)] [] _
                          refine pw_inc E (pc' := 131) (ls' := [some (.ref 16), some (pw_i b), some (pw_i e), some (pw_i z), some (pw_i wt), some (pw_i (k34_5 + 1)), some (pw_i 1)]) rfl rfl rfl rfl ?_
                          refine pw_goto E (pc' := 34) rfl (by decide) ?_
                          exact ih34 _ (by omega) (k34_5 + 1) (some (pw_i 1)) h53 h53I h53F (by omega) (by omega)  rfl
                    · intro hc55
                      change ¬ (z = (0 : Int)) at hc55
                      refine pw_ld E (pc' := 58) (st' := [.ref 16]) rfl (fun _ => rfl) ?_
                      refine pw_getR (b := 17) I34 E (c := 0) (k := 0) (pc' := 61) rfl rfl rfl rfl rfl rfl rfl ?_
                      refine pw_ld E (pc' := 63) (st' := [pw_i k34_5, .ref 17]) rfl (fun _ => rfl) ?_
                      obtain ⟨f56l, f56h, -⟩ := pw_obj (c := 1) I34 rfl
                      refine pw_call (m' := 65) (As := [.ref 17, pw_i k34_5]) (rest := []) (ls'' := [some (.ref 17), some (pw_i k34_5)]) (Nat.le_trans (by decide) hd) E rfl (fun _ => pw_iV rfl rfl rfl rfl (pw_cellI f56h rfl)) (rfl : pm_ent 65 = some (2, 2, 6, 1, pmc_65)) rfl rfl (cm_65 (pw_dp hd (by decide)) I34 (k34_5) (by omega) (by omega)) ?_
                      rintro u58 v57 ⟨rfl, x59, rfl, hx59a, hx59b, hx59r⟩
                      refine ⟨_, rfl, ?_⟩
                      show pw X d h34 177 66 [some (.ref 16), some (pw_i b), some (pw_i e), some (pw_i z), some (pw_i wt), some (pw_i k34_5), k34_6] [pw_i x59] _
                      change x59 = pw_g h34 3 k34_5.toNat at hx59r
                      rcases (by omega : x59 = 1 ∨ x59 = 0) with hb60 | hb60
                      · skip
                        refine pw_if E (pc' := 73) rfl (by decide) (by omega) (by omega) ?_ ?_
                        · intro hc61
                          change x59 = (0 : Int) at hc61
                          exfalso; omega
                        · intro hc62
                          change ¬ (x59 = (0 : Int)) at hc62
                          refine pw_ld E (pc' := 70) (st' := [pw_i 1]) rfl (fun _ => rfl) ?_
                          refine pw_goto E (pc' := 74) rfl (by decide) ?_
                          refine pw_ist E (pc' := 76) (ls' := [some (.ref 16), some (pw_i b), some (pw_i e), some (pw_i z), some (pw_i wt), some (pw_i k34_5), some (pw_i 1)]) rfl rfl rfl rfl ?_
                          refine pw_ld E (pc' := 78) (st' := [pw_i 1]) rfl (fun _ => rfl) ?_
                          refine pw_if E (pc' := 128) rfl (by decide) (by decide) (by decide) ?_ ?_
                          · intro hc63
                            change (1 : Int) = (0 : Int) at hc63
                            exfalso; omega
                          · intro hc64
                            change ¬ ((1 : Int) = (0 : Int)) at hc64
                            refine pw_ld E (pc' := 82) (st' := [.ref 16]) rfl (fun _ => rfl) ?_
                            refine pw_getR (b := 28) I34 E (c := 0) (k := 3) (pc' := 85) rfl rfl rfl rfl rfl rfl rfl ?_
                            refine pw_ld E (pc' := 87) (st' := [pw_i k34_5, .ref 28]) rfl (fun _ => rfl) ?_
                            refine pw_ld E (pc' := 88) (st' := [pw_i b, pw_i k34_5, .ref 28]) rfl (fun _ => rfl) ?_
                            refine pw_ld E (pc' := 89) (st' := [pw_i e, pw_i b, pw_i k34_5, .ref 28]) rfl (fun _ => rfl) ?_
                            obtain ⟨f65l, f65h, -⟩ := pw_obj (c := 12) I34 rfl
                            refine pw_call (m' := 23) (As := [.ref 28, pw_i k34_5, pw_i b, pw_i e]) (rest := []) (ls'' := [some (.ref 28), some (pw_i k34_5), some (pw_i b), some (pw_i e)]) (Nat.le_trans (by decide) hd) E rfl (fun _ => pw_iV rfl rfl rfl rfl (pw_cellI f65h rfl)) (rfl : pm_ent 23 = some (4, 4, 2, 1, pmc_23)) rfl rfl (cm_23 (pw_dp hd (by decide)) I34 12 (by unfold pw_Lg; omega) (k34_5) (by omega) (by omega) (b) (by omega) (by omega) (e) (by omega) (by omega)) ?_
                            rintro u67 v66 ⟨rfl, x68, rfl, hx68a, hx68b⟩
                            refine ⟨_, rfl, ?_⟩
                            show pw X d h34 177 92 [some (.ref 16), some (pw_i b), some (pw_i e), some (pw_i z), some (pw_i wt), some (pw_i k34_5), some (pw_i 1)] [pw_i x68] _
                            refine pw_if E (pc' := 128) rfl (by decide) (by omega) (by omega) ?_ ?_
                            · intro hc69
                              change x68 = (0 : Int) at hc69
                              refine pw_inc E (pc' := 131) (ls' := [some (.ref 16), some (pw_i b), some (pw_i e), some (pw_i z), some (pw_i wt), some (pw_i (k34_5 + 1)), some (pw_i 1)]) rfl rfl rfl rfl ?_
                              refine pw_goto E (pc' := 34) rfl (by decide) ?_
                              exact ih34 _ (by omega) (k34_5 + 1) (some (pw_i 1)) h34 I34 E34 (by omega) (by omega)  rfl
                            · intro hc70
                              change ¬ (x68 = (0 : Int)) at hc70
                              refine pw_ld E (pc' := 96) (st' := [.ref 16]) rfl (fun _ => rfl) ?_
                              refine pw_getR (b := 32) I34 E (c := 0) (k := 7) (pc' := 99) rfl rfl rfl rfl rfl rfl rfl ?_
                              refine pw_ld E (pc' := 101) (st' := [pw_i k34_5, .ref 32]) rfl (fun _ => rfl) ?_
                              refine pw_ld E (pc' := 102) (st' := [.ref 16, pw_i k34_5, .ref 32]) rfl (fun _ => rfl) ?_
                              refine pw_getR (b := 17) I34 E (c := 0) (k := 0) (pc' := 105) rfl rfl rfl rfl rfl rfl rfl ?_
                              refine pw_ld E (pc' := 107) (st' := [pw_i k34_5, .ref 17, pw_i k34_5, .ref 32]) rfl (fun _ => rfl) ?_
                              obtain ⟨f71l, f71h, -⟩ := pw_obj (c := 1) I34 rfl
                              refine pw_call (m' := 60) (As := [.ref 17, pw_i k34_5]) (rest := [pw_i k34_5, .ref 32]) (ls'' := [some (.ref 17), some (pw_i k34_5)]) (Nat.le_trans (by decide) hd) E rfl (fun _ => pw_iV rfl rfl rfl rfl (pw_cellI f71h rfl)) (rfl : pm_ent 60 = some (2, 2, 6, 0, pmc_60)) rfl rfl (cm_60 (pw_dp hd (by decide)) I34 (k34_5) (by omega) (by omega)) ?_
                              rintro u73 v72 ⟨rfl, x74, rfl, hx74a, hx74b, hx74r⟩
                              refine ⟨_, rfl, ?_⟩
                              show pw X d h34 177 110 [some (.ref 16), some (pw_i b), some (pw_i e), some (pw_i z), some (pw_i wt), some (pw_i k34_5), some (pw_i 1)] [pw_i x74, pw_i k34_5, .ref 32] _
                              change x74 = pw_g h34 4 k34_5.toNat at hx74r
                              refine pw_ld E (pc' := 111) (st' := [.ref 16, pw_i x74, pw_i k34_5, .ref 32]) rfl (fun _ => rfl) ?_
                              refine pw_getR (b := 28) I34 E (c := 0) (k := 3) (pc' := 114) rfl rfl rfl rfl rfl rfl rfl ?_
                              refine pw_ld E (pc' := 116) (st' := [pw_i k34_5, .ref 28, pw_i x74, pw_i k34_5, .ref 32]) rfl (fun _ => rfl) ?_
                              refine pw_ld E (pc' := 117) (st' := [pw_i b, pw_i k34_5, .ref 28, pw_i x74, pw_i k34_5, .ref 32]) rfl (fun _ => rfl) ?_
                              refine pw_ld E (pc' := 118) (st' := [pw_i e, pw_i b, pw_i k34_5, .ref 28, pw_i x74, pw_i k34_5, .ref 32]) rfl (fun _ => rfl) ?_
                              refine pw_ld E (pc' := 119) (st' := [.ref 16, pw_i e, pw_i b, pw_i k34_5, .ref 28, pw_i x74, pw_i k34_5, .ref 32]) rfl (fun _ => rfl) ?_
                              refine pw_getI2 I34 E (c := 0) (k := 6) (pc' := 122) rfl rfl rfl rfl rfl rfl (fun hf75a hf75b => ?_)
                              obtain ⟨f76l, f76h, -⟩ := pw_obj (c := 12) I34 rfl
                              refine pw_call (m' := 24) (As := [.ref 28, pw_i k34_5, pw_i b, pw_i e, pw_i (pw_g h34 0 6)]) (rest := [pw_i x74, pw_i k34_5, .ref 32]) (ls'' := [some (.ref 28), some (pw_i k34_5), some (pw_i b), some (pw_i e), some (pw_i (pw_g h34 0 6))]) (Nat.le_trans (by decide) hd) E rfl (fun _ => pw_iV rfl rfl rfl rfl (pw_cellI f76h rfl)) (rfl : pm_ent 24 = some (5, 5, 2, 0, pmc_24)) rfl rfl (cm_24 (pw_dp hd (by decide)) I34 12 (by unfold pw_Lg; omega) (k34_5) (by omega) (by omega) (b) (by omega) (by omega) (e) (by omega) (by omega) (pw_g h34 0 6) (by omega) (by omega)) ?_
                              rintro u78 v77 ⟨rfl, x79, rfl, hx79a, hx79b⟩
                              refine ⟨_, rfl, ?_⟩
                              show pw X d h34 177 125 [some (.ref 16), some (pw_i b), some (pw_i e), some (pw_i z), some (pw_i wt), some (pw_i k34_5), some (pw_i 1)] [pw_i x79, pw_i x74, pw_i k34_5, .ref 32] _
                              obtain ⟨f80l, f80h, -⟩ := pw_obj (c := 16) I34 rfl
                              refine pw_call (m' := 82) (As := [.ref 32, pw_i k34_5, pw_i x74, pw_i x79]) (rest := []) (ls'' := [some (.ref 32), some (pw_i k34_5), some (pw_i x74), some (pw_i x79)]) (Nat.le_trans (by decide) hd) E rfl (fun _ => pw_iV rfl rfl rfl rfl (pw_cellI f80h rfl)) (rfl : pm_ent 82 = some (4, 4, 8, 4, pmc_82)) rfl rfl (cm_82 (pw_dp hd (by decide)) I34 (k34_5) (by omega) (by omega) (x74) (by omega) (by omega) (x79) (by omega) (by omega)) ?_
                              rintro h81 v82 ⟨h81I, h81E, rfl⟩
                              refine ⟨_, rfl, ?_⟩
                              have h81F := E34.tr (h81E.wk (W' := [17, 18, 22]) (by first | rfl | simp))
                              show pw X d h81 177 128 [some (.ref 16), some (pw_i b), some (pw_i e), some (pw_i z), some (pw_i wt), some (pw_i k34_5), some (pw_i 1)] [] _
                              refine pw_inc E (pc' := 131) (ls' := [some (.ref 16), some (pw_i b), some (pw_i e), some (pw_i z), some (pw_i wt), some (pw_i (k34_5 + 1)), some (pw_i 1)]) rfl rfl rfl rfl ?_
                              refine pw_goto E (pc' := 34) rfl (by decide) ?_
                              exact ih34 _ (by omega) (k34_5 + 1) (some (pw_i 1)) h81 h81I h81F (by omega) (by omega)  rfl
                      · skip
                        refine pw_if E (pc' := 73) rfl (by decide) (by omega) (by omega) ?_ ?_
                        · intro hc84
                          change x59 = (0 : Int) at hc84
                          refine pw_ld E (pc' := 74) (st' := [pw_i 0]) rfl (fun _ => rfl) ?_
                          refine pw_ist E (pc' := 76) (ls' := [some (.ref 16), some (pw_i b), some (pw_i e), some (pw_i z), some (pw_i wt), some (pw_i k34_5), some (pw_i 0)]) rfl rfl rfl rfl ?_
                          refine pw_ld E (pc' := 78) (st' := [pw_i 0]) rfl (fun _ => rfl) ?_
                          refine pw_if E (pc' := 128) rfl (by decide) (by decide) (by decide) ?_ ?_
                          · intro hc85
                            change (0 : Int) = (0 : Int) at hc85
                            refine pw_inc E (pc' := 131) (ls' := [some (.ref 16), some (pw_i b), some (pw_i e), some (pw_i z), some (pw_i wt), some (pw_i (k34_5 + 1)), some (pw_i 0)]) rfl rfl rfl rfl ?_
                            refine pw_goto E (pc' := 34) rfl (by decide) ?_
                            exact ih34 _ (by omega) (k34_5 + 1) (some (pw_i 0)) h34 I34 E34 (by omega) (by omega)  rfl
                          · intro hc86
                            change ¬ ((0 : Int) = (0 : Int)) at hc86
                            exfalso; omega
                        · intro hc87
                          change ¬ (x59 = (0 : Int)) at hc87
                          exfalso; omega
                · skip
                  refine pw_if E (pc' := 73) rfl (by decide) (by omega) (by omega) ?_ ?_
                  · intro hc89
                    change x30 = (0 : Int) at hc89
                    refine pw_ld E (pc' := 74) (st' := [pw_i 0]) rfl (fun _ => rfl) ?_
                    refine pw_ist E (pc' := 76) (ls' := [some (.ref 16), some (pw_i b), some (pw_i e), some (pw_i z), some (pw_i wt), some (pw_i k34_5), some (pw_i 0)]) rfl rfl rfl rfl ?_
                    refine pw_ld E (pc' := 78) (st' := [pw_i 0]) rfl (fun _ => rfl) ?_
                    refine pw_if E (pc' := 128) rfl (by decide) (by decide) (by decide) ?_ ?_
                    · intro hc90
                      change (0 : Int) = (0 : Int) at hc90
                      refine pw_inc E (pc' := 131) (ls' := [some (.ref 16), some (pw_i b), some (pw_i e), some (pw_i z), some (pw_i wt), some (pw_i (k34_5 + 1)), some (pw_i 0)]) rfl rfl rfl rfl ?_
                      refine pw_goto E (pc' := 34) rfl (by decide) ?_
                      exact ih34 _ (by omega) (k34_5 + 1) (some (pw_i 0)) h34 I34 E34 (by omega) (by omega)  rfl
                    · intro hc91
                      change ¬ ((0 : Int) = (0 : Int)) at hc91
                      exfalso; omega
                  · intro hc92
                    change ¬ (x30 = (0 : Int)) at hc92
                    exfalso; omega
          exact L34 _ (0) (none) h13 h13I h13F (by omega) (by omega)  rfl
        · intro hc93
          change ¬ (x9 ≠ (0 : Int)) at hc93
          exfalso; omega
      · skip
        refine pw_if E (pc' := 24) rfl (by decide) (by omega) (by omega) ?_ ?_
        · intro hc95
          change x9 ≠ (0 : Int) at hc95
          exfalso; omega
        · intro hc96
          change ¬ (x9 ≠ (0 : Int)) at hc96
          refine pw_thr E rfl rfl I.2 ?_
          exact ⟨I, E0, Or.inl rfl⟩
  · skip
    refine pw_if E (pc' := 16) rfl (by decide) (by omega) (by omega) ?_ ?_
    · intro hc98
      change x3 = (0 : Int) at hc98
      refine pw_thr E rfl rfl I.2 ?_
      exact ⟨I, E0, Or.inl rfl⟩
    · intro hc99
      change ¬ (x3 = (0 : Int)) at hc99
      exfalso; omega
set_option maxHeartbeats 4000000 in
theorem cm_178 {X : List (Nat × List Value)} {d : Nat} {h : pm_H} (hd : 5 ≤ d) (I : pw_I h) (a0 : Int) (ha01 : (-2147483648) ≤ a0) (ha02 : a0 ≤ 2147483647) (a1 : Int) (ha11 : (-2147483648) ≤ a1) (ha12 : a1 ≤ 2147483647) (a2 : Int) (ha21 : (-2147483648) ≤ a2) (ha22 : a2 ≤ 2147483647) (a3 : Int) (ha31 : (-2147483648) ≤ a3) (ha32 : a3 ≤ 2147483647) : pw X d h 178 0 [some (.ref 16), some (pw_i a0), some (pw_i a1), some (pw_i a2), some (pw_i a3), none] [] (fun h' v => pw_I h' ∧ pw_E [17, 18, 22, 19] h h' ∧ (v = .inr () ∨ (∃ w : Int64, v = .inl (some (.long w))))) := by
  have E : pm_ent 178 = some (5, 6, 11, 2, pmc_178) := rfl
  have E0 : pw_E [17, 18, 22, 19] h h := pw_E.rf _ _
  refine pw_ld E (pc' := 1) (st' := [pw_i a0]) rfl (fun _ => rfl) ?_
  refine pw_ld E (pc' := 2) (st' := [pw_i a1, pw_i a0]) rfl (fun _ => rfl) ?_
  refine pw_call (m' := 131) (As := [pw_i a0, pw_i a1]) (rest := []) (ls'' := [some (pw_i a0), some (pw_i a1)]) (Nat.le_trans (by decide) hd) E rfl (fun _ => pw_iS rfl rfl rfl) (rfl : pm_ent 131 = some (2, 2, 11, 1, pmc_131)) rfl rfl (cm_131 (pw_dp hd (by decide)) I (a0) (by omega) (by omega) (a1) (by omega) (by omega)) ?_
  rintro u2 v1 ⟨rfl, x3, rfl, hx3a, hx3b, hx3r⟩
  refine ⟨_, rfl, ?_⟩
  show pw X d h 178 5 [some (.ref 16), some (pw_i a0), some (pw_i a1), some (pw_i a2), some (pw_i a3), none] [pw_i x3] _
  change (x3 = 1 ∧ 0 ≤ a0 ∧ a0 ≤ 11 ∧ 0 ≤ a1 ∧ a1 ≤ 11) ∨ x3 = 0 at hx3r
  rcases (by omega : x3 = 1 ∨ x3 = 0) with hb4 | hb4
  · skip
    refine pw_if E (pc' := 26) rfl (by decide) (by omega) (by omega) ?_ ?_
    · intro hc5
      change x3 = (0 : Int) at hc5
      exfalso; omega
    · intro hc6
      change ¬ (x3 = (0 : Int)) at hc6
      refine pw_ld E (pc' := 9) (st' := [pw_i a2]) rfl (fun _ => rfl) ?_
      refine pw_ld E (pc' := 10) (st' := [pw_i 1, pw_i a2]) rfl (fun _ => rfl) ?_
      refine pw_bip E (pc' := 12) rfl rfl (by decide) ?_
      refine pw_call (m' := 121) (As := [pw_i a2, pw_i 1, pw_i 12]) (rest := []) (ls'' := [some (pw_i a2), some (pw_i 1), some (pw_i 12)]) (Nat.le_trans (by decide) hd) E rfl (fun _ => pw_iS rfl rfl rfl) (rfl : pm_ent 121 = some (3, 3, 11, 1, pmc_121)) rfl rfl (cm_121 (pw_dp hd (by decide)) I (a2) (by omega) (by omega) (1) (by omega) (by omega) (12) (by omega) (by omega)) ?_
      rintro u8 v7 ⟨rfl, x9, rfl, hx9a, hx9b, hx9r⟩
      refine ⟨_, rfl, ?_⟩
      show pw X d h 178 15 [some (.ref 16), some (pw_i a0), some (pw_i a1), some (pw_i a2), some (pw_i a3), none] [pw_i x9] _
      change (x9 = 1 ∧ 1 ≤ a2 ∧ a2 ≤ 12) ∨ (x9 = 0 ∧ ¬ (1 ≤ a2 ∧ a2 ≤ 12)) at hx9r
      rcases (by omega : x9 = 1 ∨ x9 = 0) with hb10 | hb10
      · skip
        refine pw_if E (pc' := 26) rfl (by decide) (by omega) (by omega) ?_ ?_
        · intro hc11
          change x9 = (0 : Int) at hc11
          exfalso; omega
        · intro hc12
          change ¬ (x9 = (0 : Int)) at hc12
          refine pw_ld E (pc' := 20) (st' := [pw_i a3]) rfl (fun _ => rfl) ?_
          refine pw_call (m' := 174) (As := [pw_i a3]) (rest := []) (ls'' := [some (pw_i a3)]) (Nat.le_trans (by decide) hd) E rfl (fun _ => pw_iS rfl rfl rfl) (rfl : pm_ent 174 = some (1, 1, 11, 1, pmc_174)) rfl rfl (cm_174 (pw_dp hd (by decide)) I (a3) (by omega) (by omega)) ?_
          rintro u14 v13 ⟨rfl, x15, rfl, hx15a, hx15b, hx15r⟩
          refine ⟨_, rfl, ?_⟩
          show pw X d h 178 23 [some (.ref 16), some (pw_i a0), some (pw_i a1), some (pw_i a2), some (pw_i a3), none] [pw_i x15] _
          change (x15 = 1 ∧ 0 ≤ a3 ∧ a3 ≤ 3) ∨ (x15 = 0 ∧ ¬ (0 ≤ a3 ∧ a3 ≤ 3)) at hx15r
          rcases (by omega : x15 = 1 ∨ x15 = 0) with hb16 | hb16
          · skip
            refine pw_if E (pc' := 34) rfl (by decide) (by omega) (by omega) ?_ ?_
            · intro hc17
              change x15 ≠ (0 : Int) at hc17
              refine pw_ld E (pc' := 35) (st' := [.ref 16]) rfl (fun _ => rfl) ?_
              refine pw_ld E (pc' := 36) (st' := [pw_i a0, .ref 16]) rfl (fun _ => rfl) ?_
              refine pw_ld E (pc' := 37) (st' := [pw_i a1, pw_i a0, .ref 16]) rfl (fun _ => rfl) ?_
              obtain ⟨f18l, f18h, -⟩ := pw_obj (c := 0) I rfl
              refine pw_call (m' := 138) (As := [.ref 16, pw_i a0, pw_i a1]) (rest := []) (ls'' := [some (.ref 16), some (pw_i a0), some (pw_i a1), none]) (Nat.le_trans (by decide) hd) E rfl (fun _ => pw_iV rfl rfl rfl rfl (pw_cellI f18h rfl)) (rfl : pm_ent 138 = some (3, 4, 11, 4, pmc_138)) rfl rfl (cm_138 (pw_dp hd (by decide)) I (a0) (by omega) (by omega) (a1) (by omega) (by omega)) ?_
              rintro h19 v20 ⟨h19I, h19E, rfl⟩
              refine ⟨_, rfl, ?_⟩
              have h19F := E0.tr (h19E.wk (W' := [17, 18, 22, 19]) (by first | rfl | simp))
              show pw X d h19 178 40 [some (.ref 16), some (pw_i a0), some (pw_i a1), some (pw_i a2), some (pw_i a3), none] [] _
              refine pw_ld E (pc' := 41) (st' := [.ref 16]) rfl (fun _ => rfl) ?_
              refine pw_getR (b := 32) h19I E (c := 0) (k := 7) (pc' := 44) rfl rfl rfl rfl rfl rfl rfl ?_
              refine pw_ld E (pc' := 45) (st' := [pw_i 0, .ref 32]) rfl (fun _ => rfl) ?_
              obtain ⟨f21l, f21h, -⟩ := pw_obj (c := 16) h19I rfl
              refine pw_call (m' := 84) (As := [.ref 32, pw_i 0]) (rest := []) (ls'' := [some (.ref 32), some (pw_i 0), none, none]) (Nat.le_trans (by decide) hd) E rfl (fun _ => pw_iV rfl rfl rfl rfl (pw_cellI f21h rfl)) (rfl : pm_ent 84 = some (2, 4, 8, 0, pmc_84)) rfl rfl (cm_84 (pw_dp hd (by decide)) h19I (0) (by omega) (by omega)) ?_
              rintro u23 v22 ⟨rfl, x24, rfl, hx24a, hx24b⟩
              refine ⟨_, rfl, ?_⟩
              show pw X d h19 178 48 [some (.ref 16), some (pw_i a0), some (pw_i a1), some (pw_i a2), some (pw_i a3), none] [pw_i x24] _
              refine pw_ld E (pc' := 49) (st' := [pw_i a2, pw_i x24]) rfl (fun _ => rfl) ?_
              refine pw_if2 E (pc' := 64) rfl (by decide) (by omega) (by omega) (by omega) (by omega) ?_ ?_
              · intro hc25
                change x24 < a2 at hc25
                refine pw_thr E rfl rfl h19I.2 ?_
                exact ⟨h19I, h19F, Or.inl rfl⟩
              · intro hc26
                change ¬ (x24 < a2) at hc26
                refine pw_ld E (pc' := 53) (st' := [.ref 16]) rfl (fun _ => rfl) ?_
                refine pw_getR (b := 32) h19I E (c := 0) (k := 7) (pc' := 56) rfl rfl rfl rfl rfl rfl rfl ?_
                refine pw_ld E (pc' := 57) (st' := [pw_i 1, .ref 32]) rfl (fun _ => rfl) ?_
                obtain ⟨f27l, f27h, -⟩ := pw_obj (c := 16) h19I rfl
                refine pw_call (m' := 84) (As := [.ref 32, pw_i 1]) (rest := []) (ls'' := [some (.ref 32), some (pw_i 1), none, none]) (Nat.le_trans (by decide) hd) E rfl (fun _ => pw_iV rfl rfl rfl rfl (pw_cellI f27h rfl)) (rfl : pm_ent 84 = some (2, 4, 8, 0, pmc_84)) rfl rfl (cm_84 (pw_dp hd (by decide)) h19I (1) (by omega) (by omega)) ?_
                rintro u29 v28 ⟨rfl, x30, rfl, hx30a, hx30b⟩
                refine ⟨_, rfl, ?_⟩
                show pw X d h19 178 60 [some (.ref 16), some (pw_i a0), some (pw_i a1), some (pw_i a2), some (pw_i a3), none] [pw_i x30] _
                refine pw_ld E (pc' := 61) (st' := [pw_i a2, pw_i x30]) rfl (fun _ => rfl) ?_
                refine pw_if2 E (pc' := 72) rfl (by decide) (by omega) (by omega) (by omega) (by omega) ?_ ?_
                · intro hc31
                  change a2 ≤ x30 at hc31
                  refine pw_ld E (pc' := 74) (st' := [pw_i a3]) rfl (fun _ => rfl) ?_
                  refine pw_call (m' := 175) (As := [pw_i a3]) (rest := []) (ls'' := [some (pw_i a3)]) (Nat.le_trans (by decide) hd) E rfl (fun _ => pw_iS rfl rfl rfl) (rfl : pm_ent 175 = some (1, 1, 11, 1, pmc_175)) rfl rfl (cm_175 (pw_dp hd (by decide)) h19I (a3) (by omega) (by omega)) ?_
                  rintro u33 v32 ⟨rfl, x34, rfl, hx34a, hx34b⟩
                  refine ⟨_, rfl, ?_⟩
                  show pw X d h19 178 77 [some (.ref 16), some (pw_i a0), some (pw_i a1), some (pw_i a2), some (pw_i a3), none] [pw_i x34] _
                  refine pw_ist E (pc' := 79) (ls' := [some (.ref 16), some (pw_i a0), some (pw_i a1), some (pw_i a2), some (pw_i a3), some (pw_i x34)]) rfl rfl rfl rfl ?_
                  refine pw_ld E (pc' := 80) (st' := [.ref 16]) rfl (fun _ => rfl) ?_
                  refine pw_getR (b := 38) h19I E (c := 0) (k := 8) (pc' := 83) rfl rfl rfl rfl rfl rfl rfl ?_
                  refine pw_ld E (pc' := 84) (st' := [.ref 16, .ref 38]) rfl (fun _ => rfl) ?_
                  refine pw_getR (b := 32) h19I E (c := 0) (k := 7) (pc' := 87) rfl rfl rfl rfl rfl rfl rfl ?_
                  refine pw_ld E (pc' := 88) (st' := [pw_i 0, .ref 32, .ref 38]) rfl (fun _ => rfl) ?_
                  refine pw_ld E (pc' := 89) (st' := [pw_i a2, pw_i 0, .ref 32, .ref 38]) rfl (fun _ => rfl) ?_
                  refine pw_ld E (pc' := 91) (st' := [pw_i x34, pw_i a2, pw_i 0, .ref 32, .ref 38]) rfl (fun _ => rfl) ?_
                  obtain ⟨f35l, f35h, -⟩ := pw_obj (c := 16) h19I rfl
                  refine pw_call (m' := 94) (As := [.ref 32, pw_i 0, pw_i a2, pw_i x34]) (rest := [.ref 38]) (ls'' := [some (.ref 32), some (pw_i 0), some (pw_i a2), some (pw_i x34), none, none, none, none]) (Nat.le_trans (by decide) hd) E rfl (fun _ => pw_iV rfl rfl rfl rfl (pw_cellI f35h rfl)) (rfl : pm_ent 94 = some (4, 8, 8, 2, pmc_94)) rfl rfl (cm_94 (pw_dp hd (by decide)) h19I (0) (by omega) (by omega) (a2) (by omega) (by omega) (x34) (by omega) (by omega)) ?_
                  rintro h36 v37 ⟨h36I, h36E, w38, rfl⟩
                  refine ⟨_, rfl, ?_⟩
                  have h36F := h19F.tr (h36E.wk (W' := [17, 18, 22, 19]) (by first | rfl | simp))
                  show pw X d h36 178 94 [some (.ref 16), some (pw_i a0), some (pw_i a1), some (pw_i a2), some (pw_i a3), some (pw_i x34)] [.long w38, .ref 38] _
                  refine pw_ld E (pc' := 95) (st' := [.ref 16, .long w38, .ref 38]) rfl (fun _ => rfl) ?_
                  refine pw_getR (b := 32) h36I E (c := 0) (k := 7) (pc' := 98) rfl rfl rfl rfl rfl rfl rfl ?_
                  refine pw_ld E (pc' := 99) (st' := [pw_i 1, .ref 32, .long w38, .ref 38]) rfl (fun _ => rfl) ?_
                  refine pw_ld E (pc' := 100) (st' := [pw_i a2, pw_i 1, .ref 32, .long w38, .ref 38]) rfl (fun _ => rfl) ?_
                  refine pw_ld E (pc' := 102) (st' := [pw_i x34, pw_i a2, pw_i 1, .ref 32, .long w38, .ref 38]) rfl (fun _ => rfl) ?_
                  refine pw_if E (pc' := 109) rfl (by decide) (by omega) (by omega) ?_ ?_
                  · intro hc39
                    change x34 ≠ (0 : Int) at hc39
                    refine pw_ld E (pc' := 110) (st' := [pw_i 0, pw_i a2, pw_i 1, .ref 32, .long w38, .ref 38]) rfl (fun _ => rfl) ?_
                    obtain ⟨f40l, f40h, -⟩ := pw_obj (c := 16) h36I rfl
                    refine pw_call (m' := 94) (As := [.ref 32, pw_i 1, pw_i a2, pw_i 0]) (rest := [.long w38, .ref 38]) (ls'' := [some (.ref 32), some (pw_i 1), some (pw_i a2), some (pw_i 0), none, none, none, none]) (Nat.le_trans (by decide) hd) E rfl (fun _ => pw_iV rfl rfl rfl rfl (pw_cellI f40h rfl)) (rfl : pm_ent 94 = some (4, 8, 8, 2, pmc_94)) rfl rfl (cm_94 (pw_dp hd (by decide)) h36I (1) (by omega) (by omega) (a2) (by omega) (by omega) (0) (by omega) (by omega)) ?_
                    rintro h41 v42 ⟨h41I, h41E, w43, rfl⟩
                    refine ⟨_, rfl, ?_⟩
                    have h41F := h36F.tr (h41E.wk (W' := [17, 18, 22, 19]) (by first | rfl | simp))
                    show pw X d h41 178 113 [some (.ref 16), some (pw_i a0), some (pw_i a1), some (pw_i a2), some (pw_i a3), some (pw_i x34)] [.long w43, .long w38, .ref 38] _
                    refine pw_ld E (pc' := 114) (st' := [.long (w38 - w43), .ref 38]) rfl (fun _ => rfl) ?_
                    refine pw_ld E (pc' := 115) (st' := [pw_i a2, .long (w38 - w43), .ref 38]) rfl (fun _ => rfl) ?_
                    refine pw_ld E (pc' := 116) (st' := [.long ((Int32.ofInt a2).toInt64), .long (w38 - w43), .ref 38]) rfl (fun _ => rfl) ?_
                    obtain ⟨f44l, f44h, -⟩ := pw_obj (c := 22) h41I rfl
                    refine pw_call (m' := 6) (As := [.ref 38, .long (w38 - w43), .long ((Int32.ofInt a2).toInt64)]) (rest := []) (ls'' := [some (.ref 38), some (.long (w38 - w43)), none, some (.long ((Int32.ofInt a2).toInt64)), none, none, none]) (Nat.le_trans (by decide) hd) E rfl (fun _ => pw_iV rfl rfl rfl rfl (pw_cellI f44h rfl)) (rfl : pm_ent 6 = some (3, 7, 1, 4, pmc_6)) rfl rfl (cm_6 (pw_dp hd (by decide)) h41I 22 (by unfold pw_Fr; omega) (w38 - w43) ((Int32.ofInt a2).toInt64)) ?_
                    rintro h45 v46 ⟨h45I, h45E, rfl⟩
                    refine ⟨_, rfl, ?_⟩
                    have h45F := h41F.tr (h45E.wk (W' := [17, 18, 22, 19]) (by first | rfl | simp))
                    show pw X d h45 178 119 [some (.ref 16), some (pw_i a0), some (pw_i a1), some (pw_i a2), some (pw_i a3), some (pw_i x34)] [] _
                    refine pw_ld E (pc' := 120) (st' := [.ref 16]) rfl (fun _ => rfl) ?_
                    refine pw_getR (b := 38) h45I E (c := 0) (k := 8) (pc' := 123) rfl rfl rfl rfl rfl rfl rfl ?_
                    refine pw_ld E (pc' := 125) (st' := [pw_i a3, .ref 38]) rfl (fun _ => rfl) ?_
                    refine pw_call (m' := 176) (As := [pw_i a3]) (rest := [.ref 38]) (ls'' := [some (pw_i a3)]) (Nat.le_trans (by decide) hd) E rfl (fun _ => pw_iS rfl rfl rfl) (rfl : pm_ent 176 = some (1, 1, 11, 0, pmc_176)) rfl rfl (cm_176 (pw_dp hd (by decide)) h45I (a3) (by omega) (by omega)) ?_
                    rintro u48 v47 ⟨rfl, x49, rfl, hx49a, hx49b⟩
                    refine ⟨_, rfl, ?_⟩
                    show pw X d h45 178 128 [some (.ref 16), some (pw_i a0), some (pw_i a1), some (pw_i a2), some (pw_i a3), some (pw_i x34)] [pw_i x49, .ref 38] _
                    obtain ⟨f50l, f50h, -⟩ := pw_obj (c := 22) h45I rfl
                    refine pw_call (m' := 9) (As := [.ref 38, pw_i x49]) (rest := []) (ls'' := [some (.ref 38), some (pw_i x49)]) (Nat.le_trans (by decide) hd) E rfl (fun _ => pw_iV rfl rfl rfl rfl (pw_cellI f50h rfl)) (rfl : pm_ent 9 = some (2, 2, 1, 2, pmc_9)) rfl rfl (cm_9 (pw_dp hd (by decide)) h45I 22 (by unfold pw_Fr; omega) (x49) (by omega) (by omega)) ?_
                    rintro u52 v51 ⟨rfl, w53, rfl⟩
                    refine ⟨_, rfl, ?_⟩
                    show pw X d h45 178 131 [some (.ref 16), some (pw_i a0), some (pw_i a1), some (pw_i a2), some (pw_i a3), some (pw_i x34)] [.long w53] _
                    refine pw_lret E rfl ?_
                    exact ⟨h45I, h45F, Or.inr ⟨_, rfl⟩⟩
                  · intro hc54
                    change ¬ (x34 ≠ (0 : Int)) at hc54
                    refine pw_ld E (pc' := 106) (st' := [pw_i 1, pw_i a2, pw_i 1, .ref 32, .long w38, .ref 38]) rfl (fun _ => rfl) ?_
                    refine pw_goto E (pc' := 110) rfl (by decide) ?_
                    obtain ⟨f55l, f55h, -⟩ := pw_obj (c := 16) h36I rfl
                    refine pw_call (m' := 94) (As := [.ref 32, pw_i 1, pw_i a2, pw_i 1]) (rest := [.long w38, .ref 38]) (ls'' := [some (.ref 32), some (pw_i 1), some (pw_i a2), some (pw_i 1), none, none, none, none]) (Nat.le_trans (by decide) hd) E rfl (fun _ => pw_iV rfl rfl rfl rfl (pw_cellI f55h rfl)) (rfl : pm_ent 94 = some (4, 8, 8, 2, pmc_94)) rfl rfl (cm_94 (pw_dp hd (by decide)) h36I (1) (by omega) (by omega) (a2) (by omega) (by omega) (1) (by omega) (by omega)) ?_
                    rintro h56 v57 ⟨h56I, h56E, w58, rfl⟩
                    refine ⟨_, rfl, ?_⟩
                    have h56F := h36F.tr (h56E.wk (W' := [17, 18, 22, 19]) (by first | rfl | simp))
                    show pw X d h56 178 113 [some (.ref 16), some (pw_i a0), some (pw_i a1), some (pw_i a2), some (pw_i a3), some (pw_i x34)] [.long w58, .long w38, .ref 38] _
                    refine pw_ld E (pc' := 114) (st' := [.long (w38 - w58), .ref 38]) rfl (fun _ => rfl) ?_
                    refine pw_ld E (pc' := 115) (st' := [pw_i a2, .long (w38 - w58), .ref 38]) rfl (fun _ => rfl) ?_
                    refine pw_ld E (pc' := 116) (st' := [.long ((Int32.ofInt a2).toInt64), .long (w38 - w58), .ref 38]) rfl (fun _ => rfl) ?_
                    obtain ⟨f59l, f59h, -⟩ := pw_obj (c := 22) h56I rfl
                    refine pw_call (m' := 6) (As := [.ref 38, .long (w38 - w58), .long ((Int32.ofInt a2).toInt64)]) (rest := []) (ls'' := [some (.ref 38), some (.long (w38 - w58)), none, some (.long ((Int32.ofInt a2).toInt64)), none, none, none]) (Nat.le_trans (by decide) hd) E rfl (fun _ => pw_iV rfl rfl rfl rfl (pw_cellI f59h rfl)) (rfl : pm_ent 6 = some (3, 7, 1, 4, pmc_6)) rfl rfl (cm_6 (pw_dp hd (by decide)) h56I 22 (by unfold pw_Fr; omega) (w38 - w58) ((Int32.ofInt a2).toInt64)) ?_
                    rintro h60 v61 ⟨h60I, h60E, rfl⟩
                    refine ⟨_, rfl, ?_⟩
                    have h60F := h56F.tr (h60E.wk (W' := [17, 18, 22, 19]) (by first | rfl | simp))
                    show pw X d h60 178 119 [some (.ref 16), some (pw_i a0), some (pw_i a1), some (pw_i a2), some (pw_i a3), some (pw_i x34)] [] _
                    refine pw_ld E (pc' := 120) (st' := [.ref 16]) rfl (fun _ => rfl) ?_
                    refine pw_getR (b := 38) h60I E (c := 0) (k := 8) (pc' := 123) rfl rfl rfl rfl rfl rfl rfl ?_
                    refine pw_ld E (pc' := 125) (st' := [pw_i a3, .ref 38]) rfl (fun _ => rfl) ?_
                    refine pw_call (m' := 176) (As := [pw_i a3]) (rest := [.ref 38]) (ls'' := [some (pw_i a3)]) (Nat.le_trans (by decide) hd) E rfl (fun _ => pw_iS rfl rfl rfl) (rfl : pm_ent 176 = some (1, 1, 11, 0, pmc_176)) rfl rfl (cm_176 (pw_dp hd (by decide)) h60I (a3) (by omega) (by omega)) ?_
                    rintro u63 v62 ⟨rfl, x64, rfl, hx64a, hx64b⟩
                    refine ⟨_, rfl, ?_⟩
                    show pw X d h60 178 128 [some (.ref 16), some (pw_i a0), some (pw_i a1), some (pw_i a2), some (pw_i a3), some (pw_i x34)] [pw_i x64, .ref 38] _
                    obtain ⟨f65l, f65h, -⟩ := pw_obj (c := 22) h60I rfl
                    refine pw_call (m' := 9) (As := [.ref 38, pw_i x64]) (rest := []) (ls'' := [some (.ref 38), some (pw_i x64)]) (Nat.le_trans (by decide) hd) E rfl (fun _ => pw_iV rfl rfl rfl rfl (pw_cellI f65h rfl)) (rfl : pm_ent 9 = some (2, 2, 1, 2, pmc_9)) rfl rfl (cm_9 (pw_dp hd (by decide)) h60I 22 (by unfold pw_Fr; omega) (x64) (by omega) (by omega)) ?_
                    rintro u67 v66 ⟨rfl, w68, rfl⟩
                    refine ⟨_, rfl, ?_⟩
                    show pw X d h60 178 131 [some (.ref 16), some (pw_i a0), some (pw_i a1), some (pw_i a2), some (pw_i a3), some (pw_i x34)] [.long w68] _
                    refine pw_lret E rfl ?_
                    exact ⟨h60I, h60F, Or.inr ⟨_, rfl⟩⟩
                · intro hc69
                  change ¬ (a2 ≤ x30) at hc69
                  refine pw_thr E rfl rfl h19I.2 ?_
                  exact ⟨h19I, h19F, Or.inl rfl⟩
            · intro hc70
              change ¬ (x15 ≠ (0 : Int)) at hc70
              exfalso; omega
          · skip
            refine pw_if E (pc' := 34) rfl (by decide) (by omega) (by omega) ?_ ?_
            · intro hc72
              change x15 ≠ (0 : Int) at hc72
              exfalso; omega
            · intro hc73
              change ¬ (x15 ≠ (0 : Int)) at hc73
              refine pw_thr E rfl rfl I.2 ?_
              exact ⟨I, E0, Or.inl rfl⟩
      · skip
        refine pw_if E (pc' := 26) rfl (by decide) (by omega) (by omega) ?_ ?_
        · intro hc75
          change x9 = (0 : Int) at hc75
          refine pw_thr E rfl rfl I.2 ?_
          exact ⟨I, E0, Or.inl rfl⟩
        · intro hc76
          change ¬ (x9 = (0 : Int)) at hc76
          exfalso; omega
  · skip
    refine pw_if E (pc' := 26) rfl (by decide) (by omega) (by omega) ?_ ?_
    · intro hc78
      change x3 = (0 : Int) at hc78
      refine pw_thr E rfl rfl I.2 ?_
      exact ⟨I, E0, Or.inl rfl⟩
    · intro hc79
      change ¬ (x3 = (0 : Int)) at hc79
      exfalso; omega
set_option maxHeartbeats 4000000 in
theorem cm_179 {X : List (Nat × List Value)} {d : Nat} {h : pm_H} (hd : 4 ≤ d) (I : pw_I h) (a0 : Int) (ha01 : (-2147483648) ≤ a0) (ha02 : a0 ≤ 2147483647) (a1 : Int) (ha11 : (-2147483648) ≤ a1) (ha12 : a1 ≤ 2147483647) (a2 : Int) (ha21 : (-2147483648) ≤ a2) (ha22 : a2 ≤ 2147483647) : pw X d h 179 0 [some (.ref 16), some (pw_i a0), some (pw_i a1), some (pw_i a2), none] [] (fun h' v => pw_I h' ∧ pw_E [17, 18, 22] h h' ∧ (v = .inr () ∨ (∃ w : Int64, v = .inl (some (.long w))))) := by
  have E : pm_ent 179 = some (4, 5, 11, 2, pmc_179) := rfl
  have E0 : pw_E [17, 18, 22] h h := pw_E.rf _ _
  refine pw_ld E (pc' := 1) (st' := [pw_i a0]) rfl (fun _ => rfl) ?_
  refine pw_ld E (pc' := 2) (st' := [pw_i a1, pw_i a0]) rfl (fun _ => rfl) ?_
  refine pw_call (m' := 131) (As := [pw_i a0, pw_i a1]) (rest := []) (ls'' := [some (pw_i a0), some (pw_i a1)]) (Nat.le_trans (by decide) hd) E rfl (fun _ => pw_iS rfl rfl rfl) (rfl : pm_ent 131 = some (2, 2, 11, 1, pmc_131)) rfl rfl (cm_131 (pw_dp hd (by decide)) I (a0) (by omega) (by omega) (a1) (by omega) (by omega)) ?_
  rintro u2 v1 ⟨rfl, x3, rfl, hx3a, hx3b, hx3r⟩
  refine ⟨_, rfl, ?_⟩
  show pw X d h 179 5 [some (.ref 16), some (pw_i a0), some (pw_i a1), some (pw_i a2), none] [pw_i x3] _
  change (x3 = 1 ∧ 0 ≤ a0 ∧ a0 ≤ 11 ∧ 0 ≤ a1 ∧ a1 ≤ 11) ∨ x3 = 0 at hx3r
  rcases (by omega : x3 = 1 ∨ x3 = 0) with hb4 | hb4
  · skip
    refine pw_if E (pc' := 15) rfl (by decide) (by omega) (by omega) ?_ ?_
    · intro hc5
      change x3 = (0 : Int) at hc5
      exfalso; omega
    · intro hc6
      change ¬ (x3 = (0 : Int)) at hc6
      refine pw_ld E (pc' := 9) (st' := [pw_i a2]) rfl (fun _ => rfl) ?_
      refine pw_call (m' := 137) (As := [pw_i a2]) (rest := []) (ls'' := [some (pw_i a2)]) (Nat.le_trans (by decide) hd) E rfl (fun _ => pw_iS rfl rfl rfl) (rfl : pm_ent 137 = some (1, 1, 11, 1, pmc_137)) rfl rfl (cm_137 (pw_dp hd (by decide)) I (a2) (by omega) (by omega)) ?_
      rintro u8 v7 ⟨rfl, x9, rfl, hx9a, hx9b, hx9r⟩
      refine ⟨_, rfl, ?_⟩
      show pw X d h 179 12 [some (.ref 16), some (pw_i a0), some (pw_i a1), some (pw_i a2), none] [pw_i x9] _
      change (x9 = 1 ∧ 0 ≤ a2 ∧ a2 ≤ 1) ∨ (x9 = 0 ∧ ¬ (0 ≤ a2 ∧ a2 ≤ 1)) at hx9r
      rcases (by omega : x9 = 1 ∨ x9 = 0) with hb10 | hb10
      · skip
        refine pw_if E (pc' := 23) rfl (by decide) (by omega) (by omega) ?_ ?_
        · intro hc11
          change x9 ≠ (0 : Int) at hc11
          refine pw_ld E (pc' := 24) (st' := [.ref 16]) rfl (fun _ => rfl) ?_
          refine pw_getR (b := 32) I E (c := 0) (k := 7) (pc' := 27) rfl rfl rfl rfl rfl rfl rfl ?_
          obtain ⟨f12l, f12h, -⟩ := pw_obj (c := 16) I rfl
          refine pw_call (m' := 81) (As := [.ref 32]) (rest := []) (ls'' := [some (.ref 32)]) (Nat.le_trans (by decide) hd) E rfl (fun _ => pw_iV rfl rfl rfl rfl (pw_cellI f12h rfl)) (rfl : pm_ent 81 = some (1, 1, 8, 4, pmc_81)) rfl rfl (cm_81 (pw_dp hd (by decide)) I ) ?_
          rintro h13 v14 ⟨h13I, h13E, rfl⟩
          refine ⟨_, rfl, ?_⟩
          have h13F := E0.tr (h13E.wk (W' := [17, 18, 22]) (by first | rfl | simp))
          show pw X d h13 179 30 [some (.ref 16), some (pw_i a0), some (pw_i a1), some (pw_i a2), none] [] _
          refine pw_ld E (pc' := 31) (st' := [pw_i 0]) rfl (fun _ => rfl) ?_
          refine pw_ist E (pc' := 33) (ls' := [some (.ref 16), some (pw_i a0), some (pw_i a1), some (pw_i a2), some (pw_i 0)]) rfl rfl rfl rfl ?_
          have L33 : ∀ (n33 : Nat) (k33_4 : Int) (h33 : pm_H), pw_I h33 → pw_E [17, 18, 22] h h33 → 0 ≤ k33_4 → k33_4 ≤ 24 → (24 - k33_4).toNat = n33 → pw X d h33 179 33 [some (.ref 16), some (pw_i a0), some (pw_i a1), some (pw_i a2), some (pw_i k33_4)] [] (fun h' v => pw_I h' ∧ pw_E [17, 18, 22] h h' ∧ (v = .inr () ∨ (∃ w : Int64, v = .inl (some (.long w))))) := by
            intro n33
            induction n33 using Nat.strongRecOn with
            | ind n33 ih33 =>
              intro k33_4 h33 I33 E33 k33_4a k33_4b hm33
              refine pw_ld E (pc' := 35) (st' := [pw_i k33_4]) rfl (fun _ => rfl) ?_
              refine pw_bip E (pc' := 37) rfl rfl (by decide) ?_
              refine pw_if2 E (pc' := 112) rfl (by decide) (by omega) (by omega) (by decide) (by decide) ?_ ?_
              · intro hc15
                change (24 : Int) ≤ k33_4 at hc15
                refine pw_ld E (pc' := 113) (st' := [.ref 16]) rfl (fun _ => rfl) ?_
                refine pw_getR (b := 32) I33 E (c := 0) (k := 7) (pc' := 116) rfl rfl rfl rfl rfl rfl rfl ?_
                refine pw_ld E (pc' := 117) (st' := [.ref 16, .ref 32]) rfl (fun _ => rfl) ?_
                refine pw_getR (b := 38) I33 E (c := 0) (k := 8) (pc' := 120) rfl rfl rfl rfl rfl rfl rfl ?_
                obtain ⟨f16l, f16h, -⟩ := pw_obj (c := 16) I33 rfl
                refine pw_call (m' := 83) (As := [.ref 32, .ref 38]) (rest := []) (ls'' := [some (.ref 32), some (.ref 38), none, none, none, none]) (Nat.le_trans (by decide) hd) E rfl (fun _ => pw_iV rfl rfl rfl rfl (pw_cellI f16h rfl)) (rfl : pm_ent 83 = some (2, 6, 8, 1, pmc_83)) rfl rfl (cm_83 (pw_dp hd (by decide)) I33 22 (by unfold pw_Fr; omega)) ?_
                rintro h17 v18 ⟨h17I, h17E, x19, rfl, hx19a, hx19b⟩
                refine ⟨_, rfl, ?_⟩
                have h17F := E33.tr (h17E.wk (W' := [17, 18, 22]) (by first | rfl | simp))
                show pw X d h17 179 123 [some (.ref 16), some (pw_i a0), some (pw_i a1), some (pw_i a2), some (pw_i k33_4)] [pw_i x19] _
                refine pw_if E (pc' := 134) rfl (by decide) (by omega) (by omega) ?_ ?_
                · intro hc20
                  change x19 ≠ (0 : Int) at hc20
                  refine pw_ld E (pc' := 135) (st' := [.ref 16]) rfl (fun _ => rfl) ?_
                  refine pw_getR (b := 38) h17I E (c := 0) (k := 8) (pc' := 138) rfl rfl rfl rfl rfl rfl rfl ?_
                  refine pw_ld E (pc' := 139) (st' := [pw_i a2, .ref 38]) rfl (fun _ => rfl) ?_
                  obtain ⟨f21l, f21h, -⟩ := pw_obj (c := 22) h17I rfl
                  refine pw_call (m' := 9) (As := [.ref 38, pw_i a2]) (rest := []) (ls'' := [some (.ref 38), some (pw_i a2)]) (Nat.le_trans (by decide) hd) E rfl (fun _ => pw_iV rfl rfl rfl rfl (pw_cellI f21h rfl)) (rfl : pm_ent 9 = some (2, 2, 1, 2, pmc_9)) rfl rfl (cm_9 (pw_dp hd (by decide)) h17I 22 (by unfold pw_Fr; omega) (a2) (by omega) (by omega)) ?_
                  rintro u23 v22 ⟨rfl, w24, rfl⟩
                  refine ⟨_, rfl, ?_⟩
                  show pw X d h17 179 142 [some (.ref 16), some (pw_i a0), some (pw_i a1), some (pw_i a2), some (pw_i k33_4)] [.long w24] _
                  refine pw_lret E rfl ?_
                  exact ⟨h17I, h17F, Or.inr ⟨_, rfl⟩⟩
                · intro hc25
                  change ¬ (x19 ≠ (0 : Int)) at hc25
                  refine pw_thr E rfl rfl h17I.2 ?_
                  exact ⟨h17I, h17F, Or.inl rfl⟩
              · intro hc26
                change ¬ ((24 : Int) ≤ k33_4) at hc26
                refine pw_ld E (pc' := 41) (st' := [.ref 16]) rfl (fun _ => rfl) ?_
                refine pw_getR (b := 17) I33 E (c := 0) (k := 0) (pc' := 44) rfl rfl rfl rfl rfl rfl rfl ?_
                refine pw_ld E (pc' := 46) (st' := [pw_i k33_4, .ref 17]) rfl (fun _ => rfl) ?_
                refine pw_ld E (pc' := 47) (st' := [pw_i 0, pw_i k33_4, .ref 17]) rfl (fun _ => rfl) ?_
                obtain ⟨f27l, f27h, -⟩ := pw_obj (c := 1) I33 rfl
                refine pw_call (m' := 63) (As := [.ref 17, pw_i k33_4, pw_i 0]) (rest := []) (ls'' := [some (.ref 17), some (pw_i k33_4), some (pw_i 0)]) (Nat.le_trans (by decide) hd) E rfl (fun _ => pw_iV rfl rfl rfl rfl (pw_cellI f27h rfl)) (rfl : pm_ent 63 = some (3, 3, 6, 1, pmc_63)) rfl rfl (cm_63 (pw_dp hd (by decide)) I33 (k33_4) (by omega) (by omega) (0) (by omega) (by omega)) ?_
                rintro u29 v28 ⟨rfl, x30, rfl, hx30a, hx30b⟩
                refine ⟨_, rfl, ?_⟩
                show pw X d h33 179 50 [some (.ref 16), some (pw_i a0), some (pw_i a1), some (pw_i a2), some (pw_i k33_4)] [pw_i x30] _
                refine pw_if E (pc' := 106) rfl (by decide) (by omega) (by omega) ?_ ?_
                · intro hc31
                  change x30 = (0 : Int) at hc31
                  refine pw_inc E (pc' := 109) (ls' := [some (.ref 16), some (pw_i a0), some (pw_i a1), some (pw_i a2), some (pw_i (k33_4 + 1))]) rfl rfl rfl rfl ?_
                  refine pw_goto E (pc' := 33) rfl (by decide) ?_
                  exact ih33 _ (by omega) (k33_4 + 1) h33 I33 E33 (by omega) (by omega)  rfl
                · intro hc32
                  change ¬ (x30 = (0 : Int)) at hc32
                  refine pw_ld E (pc' := 54) (st' := [.ref 16]) rfl (fun _ => rfl) ?_
                  refine pw_getR (b := 26) I33 E (c := 0) (k := 2) (pc' := 57) rfl rfl rfl rfl rfl rfl rfl ?_
                  refine pw_ld E (pc' := 59) (st' := [pw_i k33_4, .ref 26]) rfl (fun _ => rfl) ?_
                  refine pw_ld E (pc' := 60) (st' := [pw_i a0, pw_i k33_4, .ref 26]) rfl (fun _ => rfl) ?_
                  refine pw_ld E (pc' := 61) (st' := [pw_i a1, pw_i a0, pw_i k33_4, .ref 26]) rfl (fun _ => rfl) ?_
                  obtain ⟨f33l, f33h, -⟩ := pw_obj (c := 10) I33 rfl
                  refine pw_call (m' := 23) (As := [.ref 26, pw_i k33_4, pw_i a0, pw_i a1]) (rest := []) (ls'' := [some (.ref 26), some (pw_i k33_4), some (pw_i a0), some (pw_i a1)]) (Nat.le_trans (by decide) hd) E rfl (fun _ => pw_iV rfl rfl rfl rfl (pw_cellI f33h rfl)) (rfl : pm_ent 23 = some (4, 4, 2, 1, pmc_23)) rfl rfl (cm_23 (pw_dp hd (by decide)) I33 10 (by unfold pw_Lg; omega) (k33_4) (by omega) (by omega) (a0) (by omega) (by omega) (a1) (by omega) (by omega)) ?_
                  rintro u35 v34 ⟨rfl, x36, rfl, hx36a, hx36b⟩
                  refine ⟨_, rfl, ?_⟩
                  show pw X d h33 179 64 [some (.ref 16), some (pw_i a0), some (pw_i a1), some (pw_i a2), some (pw_i k33_4)] [pw_i x36] _
                  refine pw_if E (pc' := 106) rfl (by decide) (by omega) (by omega) ?_ ?_
                  · intro hc37
                    change x36 = (0 : Int) at hc37
                    refine pw_inc E (pc' := 109) (ls' := [some (.ref 16), some (pw_i a0), some (pw_i a1), some (pw_i a2), some (pw_i (k33_4 + 1))]) rfl rfl rfl rfl ?_
                    refine pw_goto E (pc' := 33) rfl (by decide) ?_
                    exact ih33 _ (by omega) (k33_4 + 1) h33 I33 E33 (by omega) (by omega)  rfl
                  · intro hc38
                    change ¬ (x36 = (0 : Int)) at hc38
                    refine pw_ld E (pc' := 68) (st' := [.ref 16]) rfl (fun _ => rfl) ?_
                    refine pw_getR (b := 32) I33 E (c := 0) (k := 7) (pc' := 71) rfl rfl rfl rfl rfl rfl rfl ?_
                    refine pw_ld E (pc' := 73) (st' := [pw_i k33_4, .ref 32]) rfl (fun _ => rfl) ?_
                    refine pw_ld E (pc' := 74) (st' := [.ref 16, pw_i k33_4, .ref 32]) rfl (fun _ => rfl) ?_
                    refine pw_ld E (pc' := 76) (st' := [pw_i k33_4, .ref 16, pw_i k33_4, .ref 32]) rfl (fun _ => rfl) ?_
                    refine pw_ld E (pc' := 77) (st' := [pw_i a1, pw_i k33_4, .ref 16, pw_i k33_4, .ref 32]) rfl (fun _ => rfl) ?_
                    obtain ⟨f39l, f39h, -⟩ := pw_obj (c := 0) I33 rfl
                    refine pw_call (m' := 159) (As := [.ref 16, pw_i k33_4, pw_i a1]) (rest := [pw_i k33_4, .ref 32]) (ls'' := [some (.ref 16), some (pw_i k33_4), some (pw_i a1)]) (Nat.le_trans (by decide) hd) E rfl (fun _ => pw_iV rfl rfl rfl rfl (pw_cellI f39h rfl)) (rfl : pm_ent 159 = some (3, 3, 11, 1, pmc_159)) rfl rfl (cm_159 (pw_dp hd (by decide)) I33 (k33_4) (by omega) (by omega) (a1) (by omega) (by omega)) ?_
                    rintro u41 v40 ⟨rfl, x42, rfl, hx42a, hx42b⟩
                    refine ⟨_, rfl, ?_⟩
                    show pw X d h33 179 80 [some (.ref 16), some (pw_i a0), some (pw_i a1), some (pw_i a2), some (pw_i k33_4)] [pw_i x42, pw_i k33_4, .ref 32] _
                    refine pw_if E (pc' := 87) rfl (by decide) (by omega) (by omega) ?_ ?_
                    · intro hc43
                      change x42 = (0 : Int) at hc43
                      refine pw_ld E (pc' := 88) (st' := [pw_i 1, pw_i k33_4, .ref 32]) rfl (fun _ => rfl) ?_
                      refine pw_ld E (pc' := 89) (st' := [.ref 16, pw_i 1, pw_i k33_4, .ref 32]) rfl (fun _ => rfl) ?_
                      refine pw_getR (b := 26) I33 E (c := 0) (k := 2) (pc' := 92) rfl rfl rfl rfl rfl rfl rfl ?_
                      refine pw_ld E (pc' := 94) (st' := [pw_i k33_4, .ref 26, pw_i 1, pw_i k33_4, .ref 32]) rfl (fun _ => rfl) ?_
                      refine pw_ld E (pc' := 95) (st' := [pw_i a0, pw_i k33_4, .ref 26, pw_i 1, pw_i k33_4, .ref 32]) rfl (fun _ => rfl) ?_
                      refine pw_ld E (pc' := 96) (st' := [pw_i a1, pw_i a0, pw_i k33_4, .ref 26, pw_i 1, pw_i k33_4, .ref 32]) rfl (fun _ => rfl) ?_
                      refine pw_ld E (pc' := 97) (st' := [.ref 16, pw_i a1, pw_i a0, pw_i k33_4, .ref 26, pw_i 1, pw_i k33_4, .ref 32]) rfl (fun _ => rfl) ?_
                      refine pw_getI2 I33 E (c := 0) (k := 6) (pc' := 100) rfl rfl rfl rfl rfl rfl (fun hf44a hf44b => ?_)
                      obtain ⟨f45l, f45h, -⟩ := pw_obj (c := 10) I33 rfl
                      refine pw_call (m' := 24) (As := [.ref 26, pw_i k33_4, pw_i a0, pw_i a1, pw_i (pw_g h33 0 6)]) (rest := [pw_i 1, pw_i k33_4, .ref 32]) (ls'' := [some (.ref 26), some (pw_i k33_4), some (pw_i a0), some (pw_i a1), some (pw_i (pw_g h33 0 6))]) (Nat.le_trans (by decide) hd) E rfl (fun _ => pw_iV rfl rfl rfl rfl (pw_cellI f45h rfl)) (rfl : pm_ent 24 = some (5, 5, 2, 0, pmc_24)) rfl rfl (cm_24 (pw_dp hd (by decide)) I33 10 (by unfold pw_Lg; omega) (k33_4) (by omega) (by omega) (a0) (by omega) (by omega) (a1) (by omega) (by omega) (pw_g h33 0 6) (by omega) (by omega)) ?_
                      rintro u47 v46 ⟨rfl, x48, rfl, hx48a, hx48b⟩
                      refine ⟨_, rfl, ?_⟩
                      show pw X d h33 179 103 [some (.ref 16), some (pw_i a0), some (pw_i a1), some (pw_i a2), some (pw_i k33_4)] [pw_i x48, pw_i 1, pw_i k33_4, .ref 32] _
                      obtain ⟨f49l, f49h, -⟩ := pw_obj (c := 16) I33 rfl
                      refine pw_call (m' := 82) (As := [.ref 32, pw_i k33_4, pw_i 1, pw_i x48]) (rest := []) (ls'' := [some (.ref 32), some (pw_i k33_4), some (pw_i 1), some (pw_i x48)]) (Nat.le_trans (by decide) hd) E rfl (fun _ => pw_iV rfl rfl rfl rfl (pw_cellI f49h rfl)) (rfl : pm_ent 82 = some (4, 4, 8, 4, pmc_82)) rfl rfl (cm_82 (pw_dp hd (by decide)) I33 (k33_4) (by omega) (by omega) (1) (by omega) (by omega) (x48) (by omega) (by omega)) ?_
                      rintro h50 v51 ⟨h50I, h50E, rfl⟩
                      refine ⟨_, rfl, ?_⟩
                      have h50F := E33.tr (h50E.wk (W' := [17, 18, 22]) (by first | rfl | simp))
                      show pw X d h50 179 106 [some (.ref 16), some (pw_i a0), some (pw_i a1), some (pw_i a2), some (pw_i k33_4)] [] _
                      refine pw_inc E (pc' := 109) (ls' := [some (.ref 16), some (pw_i a0), some (pw_i a1), some (pw_i a2), some (pw_i (k33_4 + 1))]) rfl rfl rfl rfl ?_
                      refine pw_goto E (pc' := 33) rfl (by decide) ?_
                      exact ih33 _ (by omega) (k33_4 + 1) h50 h50I h50F (by omega) (by omega)  rfl
                    · intro hc52
                      change ¬ (x42 = (0 : Int)) at hc52
                      refine pw_ld E (pc' := 84) (st' := [pw_i 0, pw_i k33_4, .ref 32]) rfl (fun _ => rfl) ?_
                      refine pw_goto E (pc' := 88) rfl (by decide) ?_
                      refine pw_ld E (pc' := 89) (st' := [.ref 16, pw_i 0, pw_i k33_4, .ref 32]) rfl (fun _ => rfl) ?_
                      refine pw_getR (b := 26) I33 E (c := 0) (k := 2) (pc' := 92) rfl rfl rfl rfl rfl rfl rfl ?_
                      refine pw_ld E (pc' := 94) (st' := [pw_i k33_4, .ref 26, pw_i 0, pw_i k33_4, .ref 32]) rfl (fun _ => rfl) ?_
                      refine pw_ld E (pc' := 95) (st' := [pw_i a0, pw_i k33_4, .ref 26, pw_i 0, pw_i k33_4, .ref 32]) rfl (fun _ => rfl) ?_
                      refine pw_ld E (pc' := 96) (st' := [pw_i a1, pw_i a0, pw_i k33_4, .ref 26, pw_i 0, pw_i k33_4, .ref 32]) rfl (fun _ => rfl) ?_
                      refine pw_ld E (pc' := 97) (st' := [.ref 16, pw_i a1, pw_i a0, pw_i k33_4, .ref 26, pw_i 0, pw_i k33_4, .ref 32]) rfl (fun _ => rfl) ?_
                      refine pw_getI2 I33 E (c := 0) (k := 6) (pc' := 100) rfl rfl rfl rfl rfl rfl (fun hf53a hf53b => ?_)
                      obtain ⟨f54l, f54h, -⟩ := pw_obj (c := 10) I33 rfl
                      refine pw_call (m' := 24) (As := [.ref 26, pw_i k33_4, pw_i a0, pw_i a1, pw_i (pw_g h33 0 6)]) (rest := [pw_i 0, pw_i k33_4, .ref 32]) (ls'' := [some (.ref 26), some (pw_i k33_4), some (pw_i a0), some (pw_i a1), some (pw_i (pw_g h33 0 6))]) (Nat.le_trans (by decide) hd) E rfl (fun _ => pw_iV rfl rfl rfl rfl (pw_cellI f54h rfl)) (rfl : pm_ent 24 = some (5, 5, 2, 0, pmc_24)) rfl rfl (cm_24 (pw_dp hd (by decide)) I33 10 (by unfold pw_Lg; omega) (k33_4) (by omega) (by omega) (a0) (by omega) (by omega) (a1) (by omega) (by omega) (pw_g h33 0 6) (by omega) (by omega)) ?_
                      rintro u56 v55 ⟨rfl, x57, rfl, hx57a, hx57b⟩
                      refine ⟨_, rfl, ?_⟩
                      show pw X d h33 179 103 [some (.ref 16), some (pw_i a0), some (pw_i a1), some (pw_i a2), some (pw_i k33_4)] [pw_i x57, pw_i 0, pw_i k33_4, .ref 32] _
                      obtain ⟨f58l, f58h, -⟩ := pw_obj (c := 16) I33 rfl
                      refine pw_call (m' := 82) (As := [.ref 32, pw_i k33_4, pw_i 0, pw_i x57]) (rest := []) (ls'' := [some (.ref 32), some (pw_i k33_4), some (pw_i 0), some (pw_i x57)]) (Nat.le_trans (by decide) hd) E rfl (fun _ => pw_iV rfl rfl rfl rfl (pw_cellI f58h rfl)) (rfl : pm_ent 82 = some (4, 4, 8, 4, pmc_82)) rfl rfl (cm_82 (pw_dp hd (by decide)) I33 (k33_4) (by omega) (by omega) (0) (by omega) (by omega) (x57) (by omega) (by omega)) ?_
                      rintro h59 v60 ⟨h59I, h59E, rfl⟩
                      refine ⟨_, rfl, ?_⟩
                      have h59F := E33.tr (h59E.wk (W' := [17, 18, 22]) (by first | rfl | simp))
                      show pw X d h59 179 106 [some (.ref 16), some (pw_i a0), some (pw_i a1), some (pw_i a2), some (pw_i k33_4)] [] _
                      refine pw_inc E (pc' := 109) (ls' := [some (.ref 16), some (pw_i a0), some (pw_i a1), some (pw_i a2), some (pw_i (k33_4 + 1))]) rfl rfl rfl rfl ?_
                      refine pw_goto E (pc' := 33) rfl (by decide) ?_
                      exact ih33 _ (by omega) (k33_4 + 1) h59 h59I h59F (by omega) (by omega)  rfl
          exact L33 _ (0) h13 h13I h13F (by omega) (by omega)  rfl
        · intro hc61
          change ¬ (x9 ≠ (0 : Int)) at hc61
          exfalso; omega
      · skip
        refine pw_if E (pc' := 23) rfl (by decide) (by omega) (by omega) ?_ ?_
        · intro hc63
          change x9 ≠ (0 : Int) at hc63
          exfalso; omega
        · intro hc64
          change ¬ (x9 ≠ (0 : Int)) at hc64
          refine pw_thr E rfl rfl I.2 ?_
          exact ⟨I, E0, Or.inl rfl⟩
  · skip
    refine pw_if E (pc' := 15) rfl (by decide) (by omega) (by omega) ?_ ?_
    · intro hc66
      change x3 = (0 : Int) at hc66
      refine pw_thr E rfl rfl I.2 ?_
      exact ⟨I, E0, Or.inl rfl⟩
    · intro hc67
      change ¬ (x3 = (0 : Int)) at hc67
      exfalso; omega
set_option maxHeartbeats 4000000 in
theorem cm_181 {X : List (Nat × List Value)} {d : Nat} {h : pm_H} (hd : 3 ≤ d) (I : pw_I h) (z : Int) (hz1 : 0 ≤ z) (hz2 : z ≤ 1) (wt : Int) (hwt1 : (-2147483648) ≤ wt) (hwt2 : wt ≤ 2147483647) : pw X d h 181 0 [some (.ref 16), some (pw_i z), some (pw_i wt)] [] (fun h' v => pw_I h' ∧ pw_E [22] h h' ∧ (v = .inr () ∨ (∃ w : Int64, v = .inl (some (.long w))))) := by
  have E : pm_ent 181 = some (3, 3, 11, 2, pmc_181) := rfl
  have E0 : pw_E [22] h h := pw_E.rf _ _
  refine pw_ld E (pc' := 1) (st' := [pw_i wt]) rfl (fun _ => rfl) ?_
  refine pw_call (m' := 137) (As := [pw_i wt]) (rest := []) (ls'' := [some (pw_i wt)]) (Nat.le_trans (by decide) hd) E rfl (fun _ => pw_iS rfl rfl rfl) (rfl : pm_ent 137 = some (1, 1, 11, 1, pmc_137)) rfl rfl (cm_137 (pw_dp hd (by decide)) I (wt) (by omega) (by omega)) ?_
  rintro u2 v1 ⟨rfl, x3, rfl, hx3a, hx3b, hx3r⟩
  refine ⟨_, rfl, ?_⟩
  show pw X d h 181 4 [some (.ref 16), some (pw_i z), some (pw_i wt)] [pw_i x3] _
  change (x3 = 1 ∧ 0 ≤ wt ∧ wt ≤ 1) ∨ (x3 = 0 ∧ ¬ (0 ≤ wt ∧ wt ≤ 1)) at hx3r
  rcases (by omega : x3 = 1 ∨ x3 = 0) with hb4 | hb4
  · skip
    refine pw_if E (pc' := 18) rfl (by decide) (by omega) (by omega) ?_ ?_
    · intro hc5
      change x3 = (0 : Int) at hc5
      exfalso; omega
    · intro hc6
      change ¬ (x3 = (0 : Int)) at hc6
      refine pw_ld E (pc' := 8) (st' := [.ref 16]) rfl (fun _ => rfl) ?_
      refine pw_getR (b := 116) I E (c := 0) (k := 18) (pc' := 11) rfl rfl rfl rfl rfl rfl rfl ?_
      refine pw_ld E (pc' := 12) (st' := [pw_i z, .ref 116]) rfl (fun _ => rfl) ?_
      obtain ⟨f7l, f7h, -⟩ := pw_obj (c := 100) I rfl
      refine pw_call (m' := 38) (As := [.ref 116, pw_i z]) (rest := []) (ls'' := [some (.ref 116), some (pw_i z), none, none]) (Nat.le_trans (by decide) hd) E rfl (fun _ => pw_iV rfl rfl rfl rfl (pw_cellI f7h rfl)) (rfl : pm_ent 38 = some (2, 4, 4, 0, pmc_38)) rfl rfl (cm_38 (pw_dp hd (by decide)) I (z) (by omega) (by omega)) ?_
      rintro u9 v8 ⟨rfl, x10, rfl, hx10a, hx10b⟩
      refine ⟨_, rfl, ?_⟩
      show pw X d h 181 15 [some (.ref 16), some (pw_i z), some (pw_i wt)] [pw_i x10] _
      refine pw_if E (pc' := 26) rfl (by decide) (by omega) (by omega) ?_ ?_
      · intro hc11
        change x10 ≠ (0 : Int) at hc11
        refine pw_ld E (pc' := 27) (st' := [.ref 16]) rfl (fun _ => rfl) ?_
        refine pw_getR (b := 38) I E (c := 0) (k := 8) (pc' := 30) rfl rfl rfl rfl rfl rfl rfl ?_
        refine pw_ld E (pc' := 31) (st' := [.ref 16, .ref 38]) rfl (fun _ => rfl) ?_
        refine pw_getR (b := 116) I E (c := 0) (k := 18) (pc' := 34) rfl rfl rfl rfl rfl rfl rfl ?_
        refine pw_ld E (pc' := 35) (st' := [pw_i z, .ref 116, .ref 38]) rfl (fun _ => rfl) ?_
        obtain ⟨f12l, f12h, -⟩ := pw_obj (c := 100) I rfl
        refine pw_call (m' := 39) (As := [.ref 116, pw_i z]) (rest := [.ref 38]) (ls'' := [some (.ref 116), some (pw_i z), none, none]) (Nat.le_trans (by decide) hd) E rfl (fun _ => pw_iV rfl rfl rfl rfl (pw_cellI f12h rfl)) (rfl : pm_ent 39 = some (2, 4, 4, 0, pmc_39)) rfl rfl (cm_39 (pw_dp hd (by decide)) I (z) (by omega) (by omega)) ?_
        rintro u14 v13 ⟨rfl, x15, rfl, hx15a, hx15b⟩
        refine ⟨_, rfl, ?_⟩
        show pw X d h 181 38 [some (.ref 16), some (pw_i z), some (pw_i wt)] [pw_i x15, .ref 38] _
        refine pw_ld E (pc' := 39) (st' := [.long ((Int32.ofInt x15).toInt64), .ref 38]) rfl (fun _ => rfl) ?_
        refine pw_ld E (pc' := 40) (st' := [.ref 16, .long ((Int32.ofInt x15).toInt64), .ref 38]) rfl (fun _ => rfl) ?_
        refine pw_getR (b := 116) I E (c := 0) (k := 18) (pc' := 43) rfl rfl rfl rfl rfl rfl rfl ?_
        refine pw_ld E (pc' := 44) (st' := [pw_i z, .ref 116, .long ((Int32.ofInt x15).toInt64), .ref 38]) rfl (fun _ => rfl) ?_
        obtain ⟨f16l, f16h, -⟩ := pw_obj (c := 100) I rfl
        refine pw_call (m' := 38) (As := [.ref 116, pw_i z]) (rest := [.long ((Int32.ofInt x15).toInt64), .ref 38]) (ls'' := [some (.ref 116), some (pw_i z), none, none]) (Nat.le_trans (by decide) hd) E rfl (fun _ => pw_iV rfl rfl rfl rfl (pw_cellI f16h rfl)) (rfl : pm_ent 38 = some (2, 4, 4, 0, pmc_38)) rfl rfl (cm_38 (pw_dp hd (by decide)) I (z) (by omega) (by omega)) ?_
        rintro u18 v17 ⟨rfl, x19, rfl, hx19a, hx19b⟩
        refine ⟨_, rfl, ?_⟩
        show pw X d h 181 47 [some (.ref 16), some (pw_i z), some (pw_i wt)] [pw_i x19, .long ((Int32.ofInt x15).toInt64), .ref 38] _
        refine pw_ld E (pc' := 48) (st' := [.long ((Int32.ofInt x19).toInt64), .long ((Int32.ofInt x15).toInt64), .ref 38]) rfl (fun _ => rfl) ?_
        obtain ⟨f20l, f20h, -⟩ := pw_obj (c := 22) I rfl
        refine pw_call (m' := 6) (As := [.ref 38, .long ((Int32.ofInt x15).toInt64), .long ((Int32.ofInt x19).toInt64)]) (rest := []) (ls'' := [some (.ref 38), some (.long ((Int32.ofInt x15).toInt64)), none, some (.long ((Int32.ofInt x19).toInt64)), none, none, none]) (Nat.le_trans (by decide) hd) E rfl (fun _ => pw_iV rfl rfl rfl rfl (pw_cellI f20h rfl)) (rfl : pm_ent 6 = some (3, 7, 1, 4, pmc_6)) rfl rfl (cm_6 (pw_dp hd (by decide)) I 22 (by unfold pw_Fr; omega) ((Int32.ofInt x15).toInt64) ((Int32.ofInt x19).toInt64)) ?_
        rintro h21 v22 ⟨h21I, h21E, rfl⟩
        refine ⟨_, rfl, ?_⟩
        have h21F := E0.tr (h21E.wk (W' := [22]) (by first | rfl | simp))
        show pw X d h21 181 51 [some (.ref 16), some (pw_i z), some (pw_i wt)] [] _
        refine pw_ld E (pc' := 52) (st' := [.ref 16]) rfl (fun _ => rfl) ?_
        refine pw_getR (b := 38) h21I E (c := 0) (k := 8) (pc' := 55) rfl rfl rfl rfl rfl rfl rfl ?_
        refine pw_ld E (pc' := 56) (st' := [pw_i wt, .ref 38]) rfl (fun _ => rfl) ?_
        obtain ⟨f23l, f23h, -⟩ := pw_obj (c := 22) h21I rfl
        refine pw_call (m' := 9) (As := [.ref 38, pw_i wt]) (rest := []) (ls'' := [some (.ref 38), some (pw_i wt)]) (Nat.le_trans (by decide) hd) E rfl (fun _ => pw_iV rfl rfl rfl rfl (pw_cellI f23h rfl)) (rfl : pm_ent 9 = some (2, 2, 1, 2, pmc_9)) rfl rfl (cm_9 (pw_dp hd (by decide)) h21I 22 (by unfold pw_Fr; omega) (wt) (by omega) (by omega)) ?_
        rintro u25 v24 ⟨rfl, w26, rfl⟩
        refine ⟨_, rfl, ?_⟩
        show pw X d h21 181 59 [some (.ref 16), some (pw_i z), some (pw_i wt)] [.long w26] _
        refine pw_lret E rfl ?_
        exact ⟨h21I, h21F, Or.inr ⟨_, rfl⟩⟩
      · intro hc27
        change ¬ (x10 ≠ (0 : Int)) at hc27
        refine pw_thr E rfl rfl I.2 ?_
        exact ⟨I, E0, Or.inl rfl⟩
  · skip
    refine pw_if E (pc' := 18) rfl (by decide) (by omega) (by omega) ?_ ?_
    · intro hc29
      change x3 = (0 : Int) at hc29
      refine pw_thr E rfl rfl I.2 ?_
      exact ⟨I, E0, Or.inl rfl⟩
    · intro hc30
      change ¬ (x3 = (0 : Int)) at hc30
      exfalso; omega
set_option maxHeartbeats 4000000 in
theorem cm_183 {X : List (Nat × List Value)} {d : Nat} {h : pm_H} (hd : 5 ≤ d) (I : pw_I h) (c : Nat) (hc : pw_Sc c) (tn : Int) (htn1 : (-2147483648) ≤ tn) (htn2 : tn ≤ 2147483647) : pw X d h 183 0 [some (.ref 16), some (.ref (16 + c)), some (pw_i tn), none, none, none] [] (fun h' v => pw_I h' ∧ pw_E [17, 18, 22, 95, c + 5] h h' ∧ ∃ a : Int, v = .inl (some (pw_i a)) ∧ 0 ≤ a ∧ a ≤ 1) := by
  have E : pm_ent 183 = some (3, 6, 11, 1, pmc_183) := rfl
  have E0 : pw_E [17, 18, 22, 95, c + 5] h h := pw_E.rf _ _
  refine pw_ld E (pc' := 1) (st' := [.ref 16]) rfl (fun _ => rfl) ?_
  refine pw_ld E (pc' := 2) (st' := [.ref (16 + c), .ref 16]) rfl (fun _ => rfl) ?_
  obtain ⟨f1l, f1h, -⟩ := pw_obj (c := 0) I rfl
  refine pw_call (m' := 157) (As := [.ref 16, .ref (16 + c)]) (rest := []) (ls'' := [some (.ref 16), some (.ref (16 + c))]) (Nat.le_trans (by decide) hd) E rfl (fun _ => pw_iV rfl rfl rfl rfl (pw_cellI f1h rfl)) (rfl : pm_ent 157 = some (2, 2, 11, 0, pmc_157)) rfl rfl (cm_157 (pw_dp hd (by decide)) I c hc) ?_
  rintro u3 v2 ⟨rfl, x4, rfl, hx4a, hx4b⟩
  refine ⟨_, rfl, ?_⟩
  show pw X d h 183 5 [some (.ref 16), some (.ref (16 + c)), some (pw_i tn), none, none, none] [pw_i x4] _
  refine pw_istn E (pc' := 6) (ls' := [some (.ref 16), some (.ref (16 + c)), some (pw_i tn), some (pw_i x4), none, none]) rfl rfl rfl rfl ?_
  refine pw_ld E (pc' := 7) (st' := [.ref 16]) rfl (fun _ => rfl) ?_
  refine pw_ld E (pc' := 8) (st' := [.ref (16 + c), .ref 16]) rfl (fun _ => rfl) ?_
  obtain ⟨f5l, f5h, -⟩ := pw_obj (c := 0) I rfl
  refine pw_call (m' := 158) (As := [.ref 16, .ref (16 + c)]) (rest := []) (ls'' := [some (.ref 16), some (.ref (16 + c))]) (Nat.le_trans (by decide) hd) E rfl (fun _ => pw_iV rfl rfl rfl rfl (pw_cellI f5h rfl)) (rfl : pm_ent 158 = some (2, 2, 11, 0, pmc_158)) rfl rfl (cm_158 (pw_dp hd (by decide)) I c hc) ?_
  rintro u7 v6 ⟨rfl, x8, rfl, hx8a, hx8b⟩
  refine ⟨_, rfl, ?_⟩
  show pw X d h 183 11 [some (.ref 16), some (.ref (16 + c)), some (pw_i tn), some (pw_i x4), none, none] [pw_i x8] _
  refine pw_ist E (pc' := 13) (ls' := [some (.ref 16), some (.ref (16 + c)), some (pw_i tn), some (pw_i x4), some (pw_i x8), none]) rfl rfl rfl rfl ?_
  refine pw_ld E (pc' := 14) (st' := [pw_i x4]) rfl (fun _ => rfl) ?_
  refine pw_ld E (pc' := 16) (st' := [pw_i x8, pw_i x4]) rfl (fun _ => rfl) ?_
  refine pw_call (m' := 131) (As := [pw_i x4, pw_i x8]) (rest := []) (ls'' := [some (pw_i x4), some (pw_i x8)]) (Nat.le_trans (by decide) hd) E rfl (fun _ => pw_iS rfl rfl rfl) (rfl : pm_ent 131 = some (2, 2, 11, 1, pmc_131)) rfl rfl (cm_131 (pw_dp hd (by decide)) I (x4) (by omega) (by omega) (x8) (by omega) (by omega)) ?_
  rintro u10 v9 ⟨rfl, x11, rfl, hx11a, hx11b, hx11r⟩
  refine ⟨_, rfl, ?_⟩
  show pw X d h 183 19 [some (.ref 16), some (.ref (16 + c)), some (pw_i tn), some (pw_i x4), some (pw_i x8), none] [pw_i x11] _
  change (x11 = 1 ∧ 0 ≤ x4 ∧ x4 ≤ 11 ∧ 0 ≤ x8 ∧ x8 ≤ 11) ∨ x11 = 0 at hx11r
  rcases (by omega : x11 = 1 ∨ x11 = 0) with hb12 | hb12
  · skip
    refine pw_if E (pc' := 24) rfl (by decide) (by omega) (by omega) ?_ ?_
    · intro hc13
      change x11 ≠ (0 : Int) at hc13
      refine pw_ld E (pc' := 25) (st' := [.ref 16]) rfl (fun _ => rfl) ?_
      refine pw_getR (b := 32) I E (c := 0) (k := 7) (pc' := 28) rfl rfl rfl rfl rfl rfl rfl ?_
      obtain ⟨f14l, f14h, -⟩ := pw_obj (c := 16) I rfl
      refine pw_call (m' := 81) (As := [.ref 32]) (rest := []) (ls'' := [some (.ref 32)]) (Nat.le_trans (by decide) hd) E rfl (fun _ => pw_iV rfl rfl rfl rfl (pw_cellI f14h rfl)) (rfl : pm_ent 81 = some (1, 1, 8, 4, pmc_81)) rfl rfl (cm_81 (pw_dp hd (by decide)) I ) ?_
      rintro h15 v16 ⟨h15I, h15E, rfl⟩
      refine ⟨_, rfl, ?_⟩
      have h15F := E0.tr (h15E.wk (W' := [17, 18, 22, 95, c + 5]) (by first | rfl | simp))
      show pw X d h15 183 31 [some (.ref 16), some (.ref (16 + c)), some (pw_i tn), some (pw_i x4), some (pw_i x8), none] [] _
      refine pw_ld E (pc' := 32) (st' := [pw_i 0]) rfl (fun _ => rfl) ?_
      refine pw_ist E (pc' := 34) (ls' := [some (.ref 16), some (.ref (16 + c)), some (pw_i tn), some (pw_i x4), some (pw_i x8), some (pw_i 0)]) rfl rfl rfl rfl ?_
      have L34 : ∀ (n34 : Nat) (k34_5 : Int) (h34 : pm_H), pw_I h34 → pw_E [17, 18, 22, 95, c + 5] h h34 → 0 ≤ k34_5 → k34_5 ≤ 24 → (24 - k34_5).toNat = n34 → pw X d h34 183 34 [some (.ref 16), some (.ref (16 + c)), some (pw_i tn), some (pw_i x4), some (pw_i x8), some (pw_i k34_5)] [] (fun h' v => pw_I h' ∧ pw_E [17, 18, 22, 95, c + 5] h h' ∧ ∃ a : Int, v = .inl (some (pw_i a)) ∧ 0 ≤ a ∧ a ≤ 1) := by
        intro n34
        induction n34 using Nat.strongRecOn with
        | ind n34 ih34 =>
          intro k34_5 h34 I34 E34 k34_5a k34_5b hm34
          refine pw_ld E (pc' := 36) (st' := [pw_i k34_5]) rfl (fun _ => rfl) ?_
          refine pw_bip E (pc' := 38) rfl rfl (by decide) ?_
          refine pw_if2 E (pc' := 116) rfl (by decide) (by omega) (by omega) (by decide) (by decide) ?_ ?_
          · intro hc17
            change (24 : Int) ≤ k34_5 at hc17
            refine pw_ld E (pc' := 117) (st' := [.ref 16]) rfl (fun _ => rfl) ?_
            refine pw_getR (b := 32) I34 E (c := 0) (k := 7) (pc' := 120) rfl rfl rfl rfl rfl rfl rfl ?_
            refine pw_ld E (pc' := 121) (st' := [.ref 16, .ref 32]) rfl (fun _ => rfl) ?_
            refine pw_getR (b := 38) I34 E (c := 0) (k := 8) (pc' := 124) rfl rfl rfl rfl rfl rfl rfl ?_
            obtain ⟨f18l, f18h, -⟩ := pw_obj (c := 16) I34 rfl
            refine pw_call (m' := 83) (As := [.ref 32, .ref 38]) (rest := []) (ls'' := [some (.ref 32), some (.ref 38), none, none, none, none]) (Nat.le_trans (by decide) hd) E rfl (fun _ => pw_iV rfl rfl rfl rfl (pw_cellI f18h rfl)) (rfl : pm_ent 83 = some (2, 6, 8, 1, pmc_83)) rfl rfl (cm_83 (pw_dp hd (by decide)) I34 22 (by unfold pw_Fr; omega)) ?_
            rintro h19 v20 ⟨h19I, h19E, x21, rfl, hx21a, hx21b⟩
            refine ⟨_, rfl, ?_⟩
            have h19F := E34.tr (h19E.wk (W' := [17, 18, 22, 95, c + 5]) (by first | rfl | simp))
            show pw X d h19 183 127 [some (.ref 16), some (.ref (16 + c)), some (pw_i tn), some (pw_i x4), some (pw_i x8), some (pw_i k34_5)] [pw_i x21] _
            refine pw_zret E rfl (by omega) ?_
            exact ⟨h19I, h19F, ⟨_, rfl, by omega, by omega⟩⟩
          · intro hc22
            change ¬ ((24 : Int) ≤ k34_5) at hc22
            refine pw_ld E (pc' := 42) (st' := [.ref 16]) rfl (fun _ => rfl) ?_
            refine pw_getR (b := 17) I34 E (c := 0) (k := 0) (pc' := 45) rfl rfl rfl rfl rfl rfl rfl ?_
            refine pw_ld E (pc' := 47) (st' := [pw_i k34_5, .ref 17]) rfl (fun _ => rfl) ?_
            obtain ⟨f23l, f23h, -⟩ := pw_obj (c := 1) I34 rfl
            refine pw_call (m' := 59) (As := [.ref 17, pw_i k34_5]) (rest := []) (ls'' := [some (.ref 17), some (pw_i k34_5)]) (Nat.le_trans (by decide) hd) E rfl (fun _ => pw_iV rfl rfl rfl rfl (pw_cellI f23h rfl)) (rfl : pm_ent 59 = some (2, 2, 6, 1, pmc_59)) rfl rfl (cm_59 (pw_dp hd (by decide)) I34 (k34_5) (by omega) (by omega)) ?_
            rintro u25 v24 ⟨rfl, x26, rfl, hx26a, hx26b, hx26r⟩
            refine ⟨_, rfl, ?_⟩
            show pw X d h34 183 50 [some (.ref 16), some (.ref (16 + c)), some (pw_i tn), some (pw_i x4), some (pw_i x8), some (pw_i k34_5)] [pw_i x26] _
            change x26 = pw_g h34 2 k34_5.toNat at hx26r
            rcases (by omega : x26 = 1 ∨ x26 = 0) with hb27 | hb27
            · skip
              refine pw_if E (pc' := 110) rfl (by decide) (by omega) (by omega) ?_ ?_
              · intro hc28
                change x26 = (0 : Int) at hc28
                exfalso; omega
              · intro hc29
                change ¬ (x26 = (0 : Int)) at hc29
                refine pw_ld E (pc' := 54) (st' := [.ref 16]) rfl (fun _ => rfl) ?_
                refine pw_getR (b := 26) I34 E (c := 0) (k := 2) (pc' := 57) rfl rfl rfl rfl rfl rfl rfl ?_
                refine pw_ld E (pc' := 59) (st' := [pw_i k34_5, .ref 26]) rfl (fun _ => rfl) ?_
                refine pw_ld E (pc' := 60) (st' := [pw_i x4, pw_i k34_5, .ref 26]) rfl (fun _ => rfl) ?_
                refine pw_ld E (pc' := 62) (st' := [pw_i x8, pw_i x4, pw_i k34_5, .ref 26]) rfl (fun _ => rfl) ?_
                obtain ⟨f30l, f30h, -⟩ := pw_obj (c := 10) I34 rfl
                refine pw_call (m' := 23) (As := [.ref 26, pw_i k34_5, pw_i x4, pw_i x8]) (rest := []) (ls'' := [some (.ref 26), some (pw_i k34_5), some (pw_i x4), some (pw_i x8)]) (Nat.le_trans (by decide) hd) E rfl (fun _ => pw_iV rfl rfl rfl rfl (pw_cellI f30h rfl)) (rfl : pm_ent 23 = some (4, 4, 2, 1, pmc_23)) rfl rfl (cm_23 (pw_dp hd (by decide)) I34 10 (by unfold pw_Lg; omega) (k34_5) (by omega) (by omega) (x4) (by omega) (by omega) (x8) (by omega) (by omega)) ?_
                rintro u32 v31 ⟨rfl, x33, rfl, hx33a, hx33b⟩
                refine ⟨_, rfl, ?_⟩
                show pw X d h34 183 65 [some (.ref 16), some (.ref (16 + c)), some (pw_i tn), some (pw_i x4), some (pw_i x8), some (pw_i k34_5)] [pw_i x33] _
                refine pw_if E (pc' := 110) rfl (by decide) (by omega) (by omega) ?_ ?_
                · intro hc34
                  change x33 = (0 : Int) at hc34
                  refine pw_inc E (pc' := 113) (ls' := [some (.ref 16), some (.ref (16 + c)), some (pw_i tn), some (pw_i x4), some (pw_i x8), some (pw_i (k34_5 + 1))]) rfl rfl rfl rfl ?_
                  refine pw_goto E (pc' := 34) rfl (by decide) ?_
                  exact ih34 _ (by omega) (k34_5 + 1) h34 I34 E34 (by omega) (by omega)  rfl
                · intro hc35
                  change ¬ (x33 = (0 : Int)) at hc35
                  refine pw_ld E (pc' := 69) (st' := [.ref 16]) rfl (fun _ => rfl) ?_
                  refine pw_ld E (pc' := 70) (st' := [.ref (16 + c), .ref 16]) rfl (fun _ => rfl) ?_
                  refine pw_ld E (pc' := 72) (st' := [pw_i k34_5, .ref (16 + c), .ref 16]) rfl (fun _ => rfl) ?_
                  refine pw_ld E (pc' := 73) (st' := [pw_i tn, pw_i k34_5, .ref (16 + c), .ref 16]) rfl (fun _ => rfl) ?_
                  obtain ⟨f36l, f36h, -⟩ := pw_obj (c := 0) I34 rfl
                  refine pw_call (m' := 156) (As := [.ref 16, .ref (16 + c), pw_i k34_5, pw_i tn]) (rest := []) (ls'' := [some (.ref 16), some (.ref (16 + c)), some (pw_i k34_5), some (pw_i tn), none]) (Nat.le_trans (by decide) hd) E rfl (fun _ => pw_iV rfl rfl rfl rfl (pw_cellI f36h rfl)) (rfl : pm_ent 156 = some (4, 5, 11, 1, pmc_156)) rfl rfl (cm_156 (pw_dp hd (by decide)) I34 c hc (k34_5) (by omega) (by omega) (tn) (by omega) (by omega)) ?_
                  rintro h37 v38 ⟨h37I, h37E, x39, rfl, hx39a, hx39b⟩
                  refine ⟨_, rfl, ?_⟩
                  have h37F := E34.tr (h37E.wk (W' := [17, 18, 22, 95, c + 5]) (by first | rfl | simp))
                  show pw X d h37 183 76 [some (.ref 16), some (.ref (16 + c)), some (pw_i tn), some (pw_i x4), some (pw_i x8), some (pw_i k34_5)] [pw_i x39] _
                  refine pw_if E (pc' := 110) rfl (by decide) (by omega) (by omega) ?_ ?_
                  · intro hc40
                    change x39 = (0 : Int) at hc40
                    refine pw_inc E (pc' := 113) (ls' := [some (.ref 16), some (.ref (16 + c)), some (pw_i tn), some (pw_i x4), some (pw_i x8), some (pw_i (k34_5 + 1))]) rfl rfl rfl rfl ?_
                    refine pw_goto E (pc' := 34) rfl (by decide) ?_
                    exact ih34 _ (by omega) (k34_5 + 1) h37 h37I h37F (by omega) (by omega)  rfl
                  · intro hc41
                    change ¬ (x39 = (0 : Int)) at hc41
                    refine pw_ld E (pc' := 80) (st' := [.ref 16]) rfl (fun _ => rfl) ?_
                    refine pw_getR (b := 32) h37I E (c := 0) (k := 7) (pc' := 83) rfl rfl rfl rfl rfl rfl rfl ?_
                    refine pw_ld E (pc' := 85) (st' := [pw_i k34_5, .ref 32]) rfl (fun _ => rfl) ?_
                    refine pw_ld E (pc' := 86) (st' := [.ref 16, pw_i k34_5, .ref 32]) rfl (fun _ => rfl) ?_
                    refine pw_getR (b := 17) h37I E (c := 0) (k := 0) (pc' := 89) rfl rfl rfl rfl rfl rfl rfl ?_
                    refine pw_ld E (pc' := 91) (st' := [pw_i k34_5, .ref 17, pw_i k34_5, .ref 32]) rfl (fun _ => rfl) ?_
                    obtain ⟨f42l, f42h, -⟩ := pw_obj (c := 1) h37I rfl
                    refine pw_call (m' := 60) (As := [.ref 17, pw_i k34_5]) (rest := [pw_i k34_5, .ref 32]) (ls'' := [some (.ref 17), some (pw_i k34_5)]) (Nat.le_trans (by decide) hd) E rfl (fun _ => pw_iV rfl rfl rfl rfl (pw_cellI f42h rfl)) (rfl : pm_ent 60 = some (2, 2, 6, 0, pmc_60)) rfl rfl (cm_60 (pw_dp hd (by decide)) h37I (k34_5) (by omega) (by omega)) ?_
                    rintro u44 v43 ⟨rfl, x45, rfl, hx45a, hx45b, hx45r⟩
                    refine ⟨_, rfl, ?_⟩
                    show pw X d h37 183 94 [some (.ref 16), some (.ref (16 + c)), some (pw_i tn), some (pw_i x4), some (pw_i x8), some (pw_i k34_5)] [pw_i x45, pw_i k34_5, .ref 32] _
                    change x45 = pw_g h37 4 k34_5.toNat at hx45r
                    refine pw_ld E (pc' := 95) (st' := [.ref 16, pw_i x45, pw_i k34_5, .ref 32]) rfl (fun _ => rfl) ?_
                    refine pw_getR (b := 26) h37I E (c := 0) (k := 2) (pc' := 98) rfl rfl rfl rfl rfl rfl rfl ?_
                    refine pw_ld E (pc' := 100) (st' := [pw_i k34_5, .ref 26, pw_i x45, pw_i k34_5, .ref 32]) rfl (fun _ => rfl) ?_
                    refine pw_ld E (pc' := 101) (st' := [pw_i x4, pw_i k34_5, .ref 26, pw_i x45, pw_i k34_5, .ref 32]) rfl (fun _ => rfl) ?_
                    refine pw_ld E (pc' := 103) (st' := [pw_i x8, pw_i x4, pw_i k34_5, .ref 26, pw_i x45, pw_i k34_5, .ref 32]) rfl (fun _ => rfl) ?_
                    refine pw_ld E (pc' := 104) (st' := [pw_i tn, pw_i x8, pw_i x4, pw_i k34_5, .ref 26, pw_i x45, pw_i k34_5, .ref 32]) rfl (fun _ => rfl) ?_
                    obtain ⟨f46l, f46h, -⟩ := pw_obj (c := 10) h37I rfl
                    refine pw_call (m' := 24) (As := [.ref 26, pw_i k34_5, pw_i x4, pw_i x8, pw_i tn]) (rest := [pw_i x45, pw_i k34_5, .ref 32]) (ls'' := [some (.ref 26), some (pw_i k34_5), some (pw_i x4), some (pw_i x8), some (pw_i tn)]) (Nat.le_trans (by decide) hd) E rfl (fun _ => pw_iV rfl rfl rfl rfl (pw_cellI f46h rfl)) (rfl : pm_ent 24 = some (5, 5, 2, 0, pmc_24)) rfl rfl (cm_24 (pw_dp hd (by decide)) h37I 10 (by unfold pw_Lg; omega) (k34_5) (by omega) (by omega) (x4) (by omega) (by omega) (x8) (by omega) (by omega) (tn) (by omega) (by omega)) ?_
                    rintro u48 v47 ⟨rfl, x49, rfl, hx49a, hx49b⟩
                    refine ⟨_, rfl, ?_⟩
                    show pw X d h37 183 107 [some (.ref 16), some (.ref (16 + c)), some (pw_i tn), some (pw_i x4), some (pw_i x8), some (pw_i k34_5)] [pw_i x49, pw_i x45, pw_i k34_5, .ref 32] _
                    obtain ⟨f50l, f50h, -⟩ := pw_obj (c := 16) h37I rfl
                    refine pw_call (m' := 82) (As := [.ref 32, pw_i k34_5, pw_i x45, pw_i x49]) (rest := []) (ls'' := [some (.ref 32), some (pw_i k34_5), some (pw_i x45), some (pw_i x49)]) (Nat.le_trans (by decide) hd) E rfl (fun _ => pw_iV rfl rfl rfl rfl (pw_cellI f50h rfl)) (rfl : pm_ent 82 = some (4, 4, 8, 4, pmc_82)) rfl rfl (cm_82 (pw_dp hd (by decide)) h37I (k34_5) (by omega) (by omega) (x45) (by omega) (by omega) (x49) (by omega) (by omega)) ?_
                    rintro h51 v52 ⟨h51I, h51E, rfl⟩
                    refine ⟨_, rfl, ?_⟩
                    have h51F := h37F.tr (h51E.wk (W' := [17, 18, 22, 95, c + 5]) (by first | rfl | simp))
                    show pw X d h51 183 110 [some (.ref 16), some (.ref (16 + c)), some (pw_i tn), some (pw_i x4), some (pw_i x8), some (pw_i k34_5)] [] _
                    refine pw_inc E (pc' := 113) (ls' := [some (.ref 16), some (.ref (16 + c)), some (pw_i tn), some (pw_i x4), some (pw_i x8), some (pw_i (k34_5 + 1))]) rfl rfl rfl rfl ?_
                    refine pw_goto E (pc' := 34) rfl (by decide) ?_
                    exact ih34 _ (by omega) (k34_5 + 1) h51 h51I h51F (by omega) (by omega)  rfl
            · skip
              refine pw_if E (pc' := 110) rfl (by decide) (by omega) (by omega) ?_ ?_
              · intro hc54
                change x26 = (0 : Int) at hc54
                refine pw_inc E (pc' := 113) (ls' := [some (.ref 16), some (.ref (16 + c)), some (pw_i tn), some (pw_i x4), some (pw_i x8), some (pw_i (k34_5 + 1))]) rfl rfl rfl rfl ?_
                refine pw_goto E (pc' := 34) rfl (by decide) ?_
                exact ih34 _ (by omega) (k34_5 + 1) h34 I34 E34 (by omega) (by omega)  rfl
              · intro hc55
                change ¬ (x26 = (0 : Int)) at hc55
                exfalso; omega
      exact L34 _ (0) h15 h15I h15F (by omega) (by omega)  rfl
    · intro hc56
      change ¬ (x11 ≠ (0 : Int)) at hc56
      exfalso; omega
  · skip
    refine pw_if E (pc' := 24) rfl (by decide) (by omega) (by omega) ?_ ?_
    · intro hc58
      change x11 ≠ (0 : Int) at hc58
      exfalso; omega
    · intro hc59
      change ¬ (x11 ≠ (0 : Int)) at hc59
      refine pw_ld E (pc' := 23) (st' := [pw_i 0]) rfl (fun _ => rfl) ?_
      refine pw_zret E rfl (by omega) ?_
      exact ⟨I, E0, ⟨_, rfl, by omega, by omega⟩⟩
set_option maxHeartbeats 4000000 in
theorem cm_182 {X : List (Nat × List Value)} {d : Nat} {h : pm_H} (hd : 6 ≤ d) (I : pw_I h) (wr : Int) (hwr1 : (-2147483648) ≤ wr) (hwr2 : wr ≤ 2147483647) (wt : Int) (hwt1 : (-2147483648) ≤ wt) (hwt2 : wt ≤ 2147483647) : pw X d h 182 0 [some (.ref 16), some (pw_i wr), some (pw_i wt), none] [] (fun h' v => pw_I h' ∧ pw_E [17, 18, 22, 95, 51, 65, 79, 93] h h' ∧ (v = .inr () ∨ (∃ w : Int64, v = .inl (some (.long w))))) := by
  have E : pm_ent 182 = some (3, 4, 11, 2, pmc_182) := rfl
  have E0 : pw_E [17, 18, 22, 95, 51, 65, 79, 93] h h := pw_E.rf _ _
  refine pw_ld E (pc' := 1) (st' := [pw_i wr]) rfl (fun _ => rfl) ?_
  refine pw_call (m' := 142) (As := [pw_i wr]) (rest := []) (ls'' := [some (pw_i wr)]) (Nat.le_trans (by decide) hd) E rfl (fun _ => pw_iS rfl rfl rfl) (rfl : pm_ent 142 = some (1, 1, 11, 1, pmc_142)) rfl rfl (cm_142 (pw_dp hd (by decide)) I (wr) (by omega) (by omega)) ?_
  rintro u2 v1 ⟨rfl, x3, rfl, hx3a, hx3b, hx3r⟩
  refine ⟨_, rfl, ?_⟩
  show pw X d h 182 4 [some (.ref 16), some (pw_i wr), some (pw_i wt), none] [pw_i x3] _
  change (x3 = 1 ∧ 0 ≤ wr ∧ wr ≤ 3) ∨ (x3 = 0 ∧ ¬ (0 ≤ wr ∧ wr ≤ 3)) at hx3r
  rcases (by omega : x3 = 1 ∨ x3 = 0) with hb4 | hb4
  · skip
    refine pw_if E (pc' := 14) rfl (by decide) (by omega) (by omega) ?_ ?_
    · intro hc5
      change x3 = (0 : Int) at hc5
      exfalso; omega
    · intro hc6
      change ¬ (x3 = (0 : Int)) at hc6
      refine pw_ld E (pc' := 8) (st' := [pw_i wt]) rfl (fun _ => rfl) ?_
      refine pw_call (m' := 137) (As := [pw_i wt]) (rest := []) (ls'' := [some (pw_i wt)]) (Nat.le_trans (by decide) hd) E rfl (fun _ => pw_iS rfl rfl rfl) (rfl : pm_ent 137 = some (1, 1, 11, 1, pmc_137)) rfl rfl (cm_137 (pw_dp hd (by decide)) I (wt) (by omega) (by omega)) ?_
      rintro u8 v7 ⟨rfl, x9, rfl, hx9a, hx9b, hx9r⟩
      refine ⟨_, rfl, ?_⟩
      show pw X d h 182 11 [some (.ref 16), some (pw_i wr), some (pw_i wt), none] [pw_i x9] _
      change (x9 = 1 ∧ 0 ≤ wt ∧ wt ≤ 1) ∨ (x9 = 0 ∧ ¬ (0 ≤ wt ∧ wt ≤ 1)) at hx9r
      rcases (by omega : x9 = 1 ∨ x9 = 0) with hb10 | hb10
      · skip
        refine pw_if E (pc' := 22) rfl (by decide) (by omega) (by omega) ?_ ?_
        · intro hc11
          change x9 ≠ (0 : Int) at hc11
          refine pw_ld E (pc' := 23) (st' := [.ref 16]) rfl (fun _ => rfl) ?_
          refine pw_getR (b := 54) I E (c := 0) (k := 15) (pc' := 26) rfl rfl rfl rfl rfl rfl rfl ?_
          refine pw_ld E (pc' := 27) (st' := [pw_i wr, .ref 54]) rfl (fun _ => rfl) ?_
          rcases (by omega : wr = 0 ∨ wr = 1 ∨ wr = 2 ∨ wr = 3) with hj12 | hj12 | hj12 | hj12
          · refine pw_aald (b := 62) I E (c := 38) (pc' := 28) rfl rfl (by decide) rfl (by decide) (by omega) (by omega) (by rw [hj12]; rfl) rfl ?_
            refine pw_astn E (pc' := 29) (ls' := [some (.ref 16), some (pw_i wr), some (pw_i wt), some (.ref 62)]) rfl rfl rfl rfl ?_
            refine pw_ld E (pc' := 30) (st' := [.ref 16]) rfl (fun _ => rfl) ?_
            refine pw_ld E (pc' := 31) (st' := [.ref 62, .ref 16]) rfl (fun _ => rfl) ?_
            refine pw_ld E (pc' := 32) (st' := [.ref 16, .ref 62, .ref 16]) rfl (fun _ => rfl) ?_
            refine pw_ld E (pc' := 33) (st' := [.ref 62, .ref 16, .ref 62, .ref 16]) rfl (fun _ => rfl) ?_
            obtain ⟨f13l, f13h, -⟩ := pw_obj (c := 0) I rfl
            refine pw_call (m' := 155) (As := [.ref 16, .ref 62]) (rest := [.ref 62, .ref 16]) (ls'' := [some (.ref 16), some (.ref 62)]) (Nat.le_trans (by decide) hd) E rfl (fun _ => pw_iV rfl rfl rfl rfl (pw_cellI f13h rfl)) (rfl : pm_ent 155 = some (2, 2, 11, 0, pmc_155)) rfl rfl (cm_155 (pw_dp hd (by decide)) I 46 (by unfold pw_Sc; omega)) ?_
            rintro u15 v14 ⟨rfl, x16, rfl, hx16a, hx16b⟩
            refine ⟨_, rfl, ?_⟩
            show pw X d h 182 36 [some (.ref 16), some (pw_i wr), some (pw_i wt), some (.ref 62)] [pw_i x16, .ref 62, .ref 16] _
            obtain ⟨f17l, f17h, -⟩ := pw_obj (c := 0) I rfl
            refine pw_call (m' := 183) (As := [.ref 16, .ref 62, pw_i x16]) (rest := []) (ls'' := [some (.ref 16), some (.ref 62), some (pw_i x16), none, none, none]) (Nat.le_trans (by decide) hd) E rfl (fun _ => pw_iV rfl rfl rfl rfl (pw_cellI f17h rfl)) (rfl : pm_ent 183 = some (3, 6, 11, 1, pmc_183)) rfl rfl (cm_183 (pw_dp hd (by decide)) I 46 (by unfold pw_Sc; omega) (x16) (by omega) (by omega)) ?_
            rintro h18 v19 ⟨h18I, h18E, x20, rfl, hx20a, hx20b⟩
            refine ⟨_, rfl, ?_⟩
            have h18F := E0.tr (h18E.wk (W' := [17, 18, 22, 95, 51, 65, 79, 93]) (by first | rfl | simp))
            show pw X d h18 182 39 [some (.ref 16), some (pw_i wr), some (pw_i wt), some (.ref 62)] [pw_i x20] _
            refine pw_if E (pc' := 50) rfl (by decide) (by omega) (by omega) ?_ ?_
            · intro hc21
              change x20 ≠ (0 : Int) at hc21
              refine pw_ld E (pc' := 51) (st' := [.ref 16]) rfl (fun _ => rfl) ?_
              refine pw_getR (b := 38) h18I E (c := 0) (k := 8) (pc' := 54) rfl rfl rfl rfl rfl rfl rfl ?_
              refine pw_ld E (pc' := 55) (st' := [pw_i wt, .ref 38]) rfl (fun _ => rfl) ?_
              obtain ⟨f22l, f22h, -⟩ := pw_obj (c := 22) h18I rfl
              refine pw_call (m' := 9) (As := [.ref 38, pw_i wt]) (rest := []) (ls'' := [some (.ref 38), some (pw_i wt)]) (Nat.le_trans (by decide) hd) E rfl (fun _ => pw_iV rfl rfl rfl rfl (pw_cellI f22h rfl)) (rfl : pm_ent 9 = some (2, 2, 1, 2, pmc_9)) rfl rfl (cm_9 (pw_dp hd (by decide)) h18I 22 (by unfold pw_Fr; omega) (wt) (by omega) (by omega)) ?_
              rintro u24 v23 ⟨rfl, w25, rfl⟩
              refine ⟨_, rfl, ?_⟩
              show pw X d h18 182 58 [some (.ref 16), some (pw_i wr), some (pw_i wt), some (.ref 62)] [.long w25] _
              refine pw_lret E rfl ?_
              exact ⟨h18I, h18F, Or.inr ⟨_, rfl⟩⟩
            · intro hc26
              change ¬ (x20 ≠ (0 : Int)) at hc26
              refine pw_thr E rfl rfl h18I.2 ?_
              exact ⟨h18I, h18F, Or.inl rfl⟩
          · refine pw_aald (b := 76) I E (c := 38) (pc' := 28) rfl rfl (by decide) rfl (by decide) (by omega) (by omega) (by rw [hj12]; rfl) rfl ?_
            refine pw_astn E (pc' := 29) (ls' := [some (.ref 16), some (pw_i wr), some (pw_i wt), some (.ref 76)]) rfl rfl rfl rfl ?_
            refine pw_ld E (pc' := 30) (st' := [.ref 16]) rfl (fun _ => rfl) ?_
            refine pw_ld E (pc' := 31) (st' := [.ref 76, .ref 16]) rfl (fun _ => rfl) ?_
            refine pw_ld E (pc' := 32) (st' := [.ref 16, .ref 76, .ref 16]) rfl (fun _ => rfl) ?_
            refine pw_ld E (pc' := 33) (st' := [.ref 76, .ref 16, .ref 76, .ref 16]) rfl (fun _ => rfl) ?_
            obtain ⟨f27l, f27h, -⟩ := pw_obj (c := 0) I rfl
            refine pw_call (m' := 155) (As := [.ref 16, .ref 76]) (rest := [.ref 76, .ref 16]) (ls'' := [some (.ref 16), some (.ref 76)]) (Nat.le_trans (by decide) hd) E rfl (fun _ => pw_iV rfl rfl rfl rfl (pw_cellI f27h rfl)) (rfl : pm_ent 155 = some (2, 2, 11, 0, pmc_155)) rfl rfl (cm_155 (pw_dp hd (by decide)) I 60 (by unfold pw_Sc; omega)) ?_
            rintro u29 v28 ⟨rfl, x30, rfl, hx30a, hx30b⟩
            refine ⟨_, rfl, ?_⟩
            show pw X d h 182 36 [some (.ref 16), some (pw_i wr), some (pw_i wt), some (.ref 76)] [pw_i x30, .ref 76, .ref 16] _
            obtain ⟨f31l, f31h, -⟩ := pw_obj (c := 0) I rfl
            refine pw_call (m' := 183) (As := [.ref 16, .ref 76, pw_i x30]) (rest := []) (ls'' := [some (.ref 16), some (.ref 76), some (pw_i x30), none, none, none]) (Nat.le_trans (by decide) hd) E rfl (fun _ => pw_iV rfl rfl rfl rfl (pw_cellI f31h rfl)) (rfl : pm_ent 183 = some (3, 6, 11, 1, pmc_183)) rfl rfl (cm_183 (pw_dp hd (by decide)) I 60 (by unfold pw_Sc; omega) (x30) (by omega) (by omega)) ?_
            rintro h32 v33 ⟨h32I, h32E, x34, rfl, hx34a, hx34b⟩
            refine ⟨_, rfl, ?_⟩
            have h32F := E0.tr (h32E.wk (W' := [17, 18, 22, 95, 51, 65, 79, 93]) (by first | rfl | simp))
            show pw X d h32 182 39 [some (.ref 16), some (pw_i wr), some (pw_i wt), some (.ref 76)] [pw_i x34] _
            refine pw_if E (pc' := 50) rfl (by decide) (by omega) (by omega) ?_ ?_
            · intro hc35
              change x34 ≠ (0 : Int) at hc35
              refine pw_ld E (pc' := 51) (st' := [.ref 16]) rfl (fun _ => rfl) ?_
              refine pw_getR (b := 38) h32I E (c := 0) (k := 8) (pc' := 54) rfl rfl rfl rfl rfl rfl rfl ?_
              refine pw_ld E (pc' := 55) (st' := [pw_i wt, .ref 38]) rfl (fun _ => rfl) ?_
              obtain ⟨f36l, f36h, -⟩ := pw_obj (c := 22) h32I rfl
              refine pw_call (m' := 9) (As := [.ref 38, pw_i wt]) (rest := []) (ls'' := [some (.ref 38), some (pw_i wt)]) (Nat.le_trans (by decide) hd) E rfl (fun _ => pw_iV rfl rfl rfl rfl (pw_cellI f36h rfl)) (rfl : pm_ent 9 = some (2, 2, 1, 2, pmc_9)) rfl rfl (cm_9 (pw_dp hd (by decide)) h32I 22 (by unfold pw_Fr; omega) (wt) (by omega) (by omega)) ?_
              rintro u38 v37 ⟨rfl, w39, rfl⟩
              refine ⟨_, rfl, ?_⟩
              show pw X d h32 182 58 [some (.ref 16), some (pw_i wr), some (pw_i wt), some (.ref 76)] [.long w39] _
              refine pw_lret E rfl ?_
              exact ⟨h32I, h32F, Or.inr ⟨_, rfl⟩⟩
            · intro hc40
              change ¬ (x34 ≠ (0 : Int)) at hc40
              refine pw_thr E rfl rfl h32I.2 ?_
              exact ⟨h32I, h32F, Or.inl rfl⟩
          · refine pw_aald (b := 90) I E (c := 38) (pc' := 28) rfl rfl (by decide) rfl (by decide) (by omega) (by omega) (by rw [hj12]; rfl) rfl ?_
            refine pw_astn E (pc' := 29) (ls' := [some (.ref 16), some (pw_i wr), some (pw_i wt), some (.ref 90)]) rfl rfl rfl rfl ?_
            refine pw_ld E (pc' := 30) (st' := [.ref 16]) rfl (fun _ => rfl) ?_
            refine pw_ld E (pc' := 31) (st' := [.ref 90, .ref 16]) rfl (fun _ => rfl) ?_
            refine pw_ld E (pc' := 32) (st' := [.ref 16, .ref 90, .ref 16]) rfl (fun _ => rfl) ?_
            refine pw_ld E (pc' := 33) (st' := [.ref 90, .ref 16, .ref 90, .ref 16]) rfl (fun _ => rfl) ?_
            obtain ⟨f41l, f41h, -⟩ := pw_obj (c := 0) I rfl
            refine pw_call (m' := 155) (As := [.ref 16, .ref 90]) (rest := [.ref 90, .ref 16]) (ls'' := [some (.ref 16), some (.ref 90)]) (Nat.le_trans (by decide) hd) E rfl (fun _ => pw_iV rfl rfl rfl rfl (pw_cellI f41h rfl)) (rfl : pm_ent 155 = some (2, 2, 11, 0, pmc_155)) rfl rfl (cm_155 (pw_dp hd (by decide)) I 74 (by unfold pw_Sc; omega)) ?_
            rintro u43 v42 ⟨rfl, x44, rfl, hx44a, hx44b⟩
            refine ⟨_, rfl, ?_⟩
            show pw X d h 182 36 [some (.ref 16), some (pw_i wr), some (pw_i wt), some (.ref 90)] [pw_i x44, .ref 90, .ref 16] _
            obtain ⟨f45l, f45h, -⟩ := pw_obj (c := 0) I rfl
            refine pw_call (m' := 183) (As := [.ref 16, .ref 90, pw_i x44]) (rest := []) (ls'' := [some (.ref 16), some (.ref 90), some (pw_i x44), none, none, none]) (Nat.le_trans (by decide) hd) E rfl (fun _ => pw_iV rfl rfl rfl rfl (pw_cellI f45h rfl)) (rfl : pm_ent 183 = some (3, 6, 11, 1, pmc_183)) rfl rfl (cm_183 (pw_dp hd (by decide)) I 74 (by unfold pw_Sc; omega) (x44) (by omega) (by omega)) ?_
            rintro h46 v47 ⟨h46I, h46E, x48, rfl, hx48a, hx48b⟩
            refine ⟨_, rfl, ?_⟩
            have h46F := E0.tr (h46E.wk (W' := [17, 18, 22, 95, 51, 65, 79, 93]) (by first | rfl | simp))
            show pw X d h46 182 39 [some (.ref 16), some (pw_i wr), some (pw_i wt), some (.ref 90)] [pw_i x48] _
            refine pw_if E (pc' := 50) rfl (by decide) (by omega) (by omega) ?_ ?_
            · intro hc49
              change x48 ≠ (0 : Int) at hc49
              refine pw_ld E (pc' := 51) (st' := [.ref 16]) rfl (fun _ => rfl) ?_
              refine pw_getR (b := 38) h46I E (c := 0) (k := 8) (pc' := 54) rfl rfl rfl rfl rfl rfl rfl ?_
              refine pw_ld E (pc' := 55) (st' := [pw_i wt, .ref 38]) rfl (fun _ => rfl) ?_
              obtain ⟨f50l, f50h, -⟩ := pw_obj (c := 22) h46I rfl
              refine pw_call (m' := 9) (As := [.ref 38, pw_i wt]) (rest := []) (ls'' := [some (.ref 38), some (pw_i wt)]) (Nat.le_trans (by decide) hd) E rfl (fun _ => pw_iV rfl rfl rfl rfl (pw_cellI f50h rfl)) (rfl : pm_ent 9 = some (2, 2, 1, 2, pmc_9)) rfl rfl (cm_9 (pw_dp hd (by decide)) h46I 22 (by unfold pw_Fr; omega) (wt) (by omega) (by omega)) ?_
              rintro u52 v51 ⟨rfl, w53, rfl⟩
              refine ⟨_, rfl, ?_⟩
              show pw X d h46 182 58 [some (.ref 16), some (pw_i wr), some (pw_i wt), some (.ref 90)] [.long w53] _
              refine pw_lret E rfl ?_
              exact ⟨h46I, h46F, Or.inr ⟨_, rfl⟩⟩
            · intro hc54
              change ¬ (x48 ≠ (0 : Int)) at hc54
              refine pw_thr E rfl rfl h46I.2 ?_
              exact ⟨h46I, h46F, Or.inl rfl⟩
          · refine pw_aald (b := 104) I E (c := 38) (pc' := 28) rfl rfl (by decide) rfl (by decide) (by omega) (by omega) (by rw [hj12]; rfl) rfl ?_
            refine pw_astn E (pc' := 29) (ls' := [some (.ref 16), some (pw_i wr), some (pw_i wt), some (.ref 104)]) rfl rfl rfl rfl ?_
            refine pw_ld E (pc' := 30) (st' := [.ref 16]) rfl (fun _ => rfl) ?_
            refine pw_ld E (pc' := 31) (st' := [.ref 104, .ref 16]) rfl (fun _ => rfl) ?_
            refine pw_ld E (pc' := 32) (st' := [.ref 16, .ref 104, .ref 16]) rfl (fun _ => rfl) ?_
            refine pw_ld E (pc' := 33) (st' := [.ref 104, .ref 16, .ref 104, .ref 16]) rfl (fun _ => rfl) ?_
            obtain ⟨f55l, f55h, -⟩ := pw_obj (c := 0) I rfl
            refine pw_call (m' := 155) (As := [.ref 16, .ref 104]) (rest := [.ref 104, .ref 16]) (ls'' := [some (.ref 16), some (.ref 104)]) (Nat.le_trans (by decide) hd) E rfl (fun _ => pw_iV rfl rfl rfl rfl (pw_cellI f55h rfl)) (rfl : pm_ent 155 = some (2, 2, 11, 0, pmc_155)) rfl rfl (cm_155 (pw_dp hd (by decide)) I 88 (by unfold pw_Sc; omega)) ?_
            rintro u57 v56 ⟨rfl, x58, rfl, hx58a, hx58b⟩
            refine ⟨_, rfl, ?_⟩
            show pw X d h 182 36 [some (.ref 16), some (pw_i wr), some (pw_i wt), some (.ref 104)] [pw_i x58, .ref 104, .ref 16] _
            obtain ⟨f59l, f59h, -⟩ := pw_obj (c := 0) I rfl
            refine pw_call (m' := 183) (As := [.ref 16, .ref 104, pw_i x58]) (rest := []) (ls'' := [some (.ref 16), some (.ref 104), some (pw_i x58), none, none, none]) (Nat.le_trans (by decide) hd) E rfl (fun _ => pw_iV rfl rfl rfl rfl (pw_cellI f59h rfl)) (rfl : pm_ent 183 = some (3, 6, 11, 1, pmc_183)) rfl rfl (cm_183 (pw_dp hd (by decide)) I 88 (by unfold pw_Sc; omega) (x58) (by omega) (by omega)) ?_
            rintro h60 v61 ⟨h60I, h60E, x62, rfl, hx62a, hx62b⟩
            refine ⟨_, rfl, ?_⟩
            have h60F := E0.tr (h60E.wk (W' := [17, 18, 22, 95, 51, 65, 79, 93]) (by first | rfl | simp))
            show pw X d h60 182 39 [some (.ref 16), some (pw_i wr), some (pw_i wt), some (.ref 104)] [pw_i x62] _
            refine pw_if E (pc' := 50) rfl (by decide) (by omega) (by omega) ?_ ?_
            · intro hc63
              change x62 ≠ (0 : Int) at hc63
              refine pw_ld E (pc' := 51) (st' := [.ref 16]) rfl (fun _ => rfl) ?_
              refine pw_getR (b := 38) h60I E (c := 0) (k := 8) (pc' := 54) rfl rfl rfl rfl rfl rfl rfl ?_
              refine pw_ld E (pc' := 55) (st' := [pw_i wt, .ref 38]) rfl (fun _ => rfl) ?_
              obtain ⟨f64l, f64h, -⟩ := pw_obj (c := 22) h60I rfl
              refine pw_call (m' := 9) (As := [.ref 38, pw_i wt]) (rest := []) (ls'' := [some (.ref 38), some (pw_i wt)]) (Nat.le_trans (by decide) hd) E rfl (fun _ => pw_iV rfl rfl rfl rfl (pw_cellI f64h rfl)) (rfl : pm_ent 9 = some (2, 2, 1, 2, pmc_9)) rfl rfl (cm_9 (pw_dp hd (by decide)) h60I 22 (by unfold pw_Fr; omega) (wt) (by omega) (by omega)) ?_
              rintro u66 v65 ⟨rfl, w67, rfl⟩
              refine ⟨_, rfl, ?_⟩
              show pw X d h60 182 58 [some (.ref 16), some (pw_i wr), some (pw_i wt), some (.ref 104)] [.long w67] _
              refine pw_lret E rfl ?_
              exact ⟨h60I, h60F, Or.inr ⟨_, rfl⟩⟩
            · intro hc68
              change ¬ (x62 ≠ (0 : Int)) at hc68
              refine pw_thr E rfl rfl h60I.2 ?_
              exact ⟨h60I, h60F, Or.inl rfl⟩
        · intro hc69
          change ¬ (x9 ≠ (0 : Int)) at hc69
          exfalso; omega
      · skip
        refine pw_if E (pc' := 22) rfl (by decide) (by omega) (by omega) ?_ ?_
        · intro hc71
          change x9 ≠ (0 : Int) at hc71
          exfalso; omega
        · intro hc72
          change ¬ (x9 ≠ (0 : Int)) at hc72
          refine pw_thr E rfl rfl I.2 ?_
          exact ⟨I, E0, Or.inl rfl⟩
  · skip
    refine pw_if E (pc' := 14) rfl (by decide) (by omega) (by omega) ?_ ?_
    · intro hc74
      change x3 = (0 : Int) at hc74
      refine pw_thr E rfl rfl I.2 ?_
      exact ⟨I, E0, Or.inl rfl⟩
    · intro hc75
      change ¬ (x3 = (0 : Int)) at hc75
      exfalso; omega
set_option maxHeartbeats 4000000 in
theorem cm_185 {X : List (Nat × List Value)} {d : Nat} {h : pm_H} (hd : 3 ≤ d) (I : pw_I h) (wt : Int) (hwt1 : (-2147483648) ≤ wt) (hwt2 : wt ≤ 2147483647) : pw X d h 185 0 [some (.ref 16), some (pw_i wt)] [] (fun h' v => h = h' ∧ ∃ a : Int, v = .inl (some (pw_i a)) ∧ 0 ≤ a ∧ a ≤ 1) := by
  have E : pm_ent 185 = some (2, 2, 11, 1, pmc_185) := rfl
  refine pw_ld E (pc' := 1) (st' := [pw_i wt]) rfl (fun _ => rfl) ?_
  refine pw_if E (pc' := 34) rfl (by decide) (by omega) (by omega) ?_ ?_
  · intro hc1
    change wt = (0 : Int) at hc1
    refine pw_ld E (pc' := 35) (st' := [pw_i 1]) rfl (fun _ => rfl) ?_
    refine pw_goto E (pc' := 39) rfl (by decide) ?_
    refine pw_zret E rfl (by omega) ?_
    exact ⟨rfl, ⟨_, rfl, by omega, by omega⟩⟩
  · intro hc2
    change ¬ (wt = (0 : Int)) at hc2
    refine pw_ld E (pc' := 5) (st' := [pw_i wt]) rfl (fun _ => rfl) ?_
    refine pw_ld E (pc' := 6) (st' := [pw_i 1, pw_i wt]) rfl (fun _ => rfl) ?_
    refine pw_if2 E (pc' := 19) rfl (by decide) (by omega) (by omega) (by decide) (by decide) ?_ ?_
    · intro hc3
      change wt ≠ (1 : Int) at hc3
      refine pw_ld E (pc' := 20) (st' := [pw_i wt]) rfl (fun _ => rfl) ?_
      refine pw_ld E (pc' := 21) (st' := [pw_i 2, pw_i wt]) rfl (fun _ => rfl) ?_
      refine pw_if2 E (pc' := 38) rfl (by decide) (by omega) (by omega) (by decide) (by decide) ?_ ?_
      · intro hc4
        change wt ≠ (2 : Int) at hc4
        refine pw_ld E (pc' := 39) (st' := [pw_i 0]) rfl (fun _ => rfl) ?_
        refine pw_zret E rfl (by omega) ?_
        exact ⟨rfl, ⟨_, rfl, by omega, by omega⟩⟩
      · intro hc5
        change ¬ (wt ≠ (2 : Int)) at hc5
        refine pw_ld E (pc' := 25) (st' := [.ref 16]) rfl (fun _ => rfl) ?_
        refine pw_getR (b := 38) I E (c := 0) (k := 8) (pc' := 28) rfl rfl rfl rfl rfl rfl rfl ?_
        obtain ⟨f6l, f6h, -⟩ := pw_obj (c := 22) I rfl
        refine pw_call (m' := 8) (As := [.ref 38]) (rest := []) (ls'' := [some (.ref 38)]) (Nat.le_trans (by decide) hd) E rfl (fun _ => pw_iV rfl rfl rfl rfl (pw_cellI f6h rfl)) (rfl : pm_ent 8 = some (1, 1, 1, 0, pmc_8)) rfl rfl (cm_8 (pw_dp hd (by decide)) I 22 (by unfold pw_Fr; omega)) ?_
        rintro u8 v7 ⟨rfl, x9, rfl, hx9a, hx9b⟩
        refine ⟨_, rfl, ?_⟩
        show pw X d h 185 31 [some (.ref 16), some (pw_i wt)] [pw_i x9] _
        refine pw_if E (pc' := 38) rfl (by decide) (by omega) (by omega) ?_ ?_
        · intro hc10
          change x9 ≤ (0 : Int) at hc10
          refine pw_ld E (pc' := 39) (st' := [pw_i 0]) rfl (fun _ => rfl) ?_
          refine pw_zret E rfl (by omega) ?_
          exact ⟨rfl, ⟨_, rfl, by omega, by omega⟩⟩
        · intro hc11
          change ¬ (x9 ≤ (0 : Int)) at hc11
          refine pw_ld E (pc' := 35) (st' := [pw_i 1]) rfl (fun _ => rfl) ?_
          refine pw_goto E (pc' := 39) rfl (by decide) ?_
          refine pw_zret E rfl (by omega) ?_
          exact ⟨rfl, ⟨_, rfl, by omega, by omega⟩⟩
    · intro hc12
      change ¬ (wt ≠ (1 : Int)) at hc12
      refine pw_ld E (pc' := 10) (st' := [.ref 16]) rfl (fun _ => rfl) ?_
      refine pw_getR (b := 38) I E (c := 0) (k := 8) (pc' := 13) rfl rfl rfl rfl rfl rfl rfl ?_
      obtain ⟨f13l, f13h, -⟩ := pw_obj (c := 22) I rfl
      refine pw_call (m' := 8) (As := [.ref 38]) (rest := []) (ls'' := [some (.ref 38)]) (Nat.le_trans (by decide) hd) E rfl (fun _ => pw_iV rfl rfl rfl rfl (pw_cellI f13h rfl)) (rfl : pm_ent 8 = some (1, 1, 1, 0, pmc_8)) rfl rfl (cm_8 (pw_dp hd (by decide)) I 22 (by unfold pw_Fr; omega)) ?_
      rintro u15 v14 ⟨rfl, x16, rfl, hx16a, hx16b⟩
      refine ⟨_, rfl, ?_⟩
      show pw X d h 185 16 [some (.ref 16), some (pw_i wt)] [pw_i x16] _
      refine pw_if E (pc' := 34) rfl (by decide) (by omega) (by omega) ?_ ?_
      · intro hc17
        change x16 < (0 : Int) at hc17
        refine pw_ld E (pc' := 35) (st' := [pw_i 1]) rfl (fun _ => rfl) ?_
        refine pw_goto E (pc' := 39) rfl (by decide) ?_
        refine pw_zret E rfl (by omega) ?_
        exact ⟨rfl, ⟨_, rfl, by omega, by omega⟩⟩
      · intro hc18
        change ¬ (x16 < (0 : Int)) at hc18
        refine pw_ld E (pc' := 20) (st' := [pw_i wt]) rfl (fun _ => rfl) ?_
        refine pw_ld E (pc' := 21) (st' := [pw_i 2, pw_i wt]) rfl (fun _ => rfl) ?_
        refine pw_if2 E (pc' := 38) rfl (by decide) (by omega) (by omega) (by decide) (by decide) ?_ ?_
        · intro hc19
          change wt ≠ (2 : Int) at hc19
          refine pw_ld E (pc' := 39) (st' := [pw_i 0]) rfl (fun _ => rfl) ?_
          refine pw_zret E rfl (by omega) ?_
          exact ⟨rfl, ⟨_, rfl, by omega, by omega⟩⟩
        · intro hc20
          change ¬ (wt ≠ (2 : Int)) at hc20
          exfalso; omega
set_option maxHeartbeats 4000000 in
theorem cm_186 {X : List (Nat × List Value)} {d : Nat} {h : pm_H} (hd : 2 ≤ d) (I : pw_I h) (z : Int) (hz1 : 0 ≤ z) (hz2 : z ≤ 1) (y : Int) (hy1 : 0 ≤ y) (hy2 : y ≤ 1) : pw X d h 186 0 [some (.ref 16), some (pw_i z), some (pw_i y), none] [] (fun h' v => pw_I h' ∧ pw_E [23] h h' ∧ v = .inl none) := by
  have E : pm_ent 186 = some (3, 4, 11, 4, pmc_186) := rfl
  have E0 : pw_E [23] h h := pw_E.rf _ _
  refine pw_ld E (pc' := 1) (st' := [pw_i y]) rfl (fun _ => rfl) ?_
  refine pw_if E (pc' := 18) rfl (by decide) (by omega) (by omega) ?_ ?_
  · intro hc1
    change y = (0 : Int) at hc1
    refine pw_ld E (pc' := 19) (st' := [.ref 16]) rfl (fun _ => rfl) ?_
    refine pw_getR (b := 38) I E (c := 0) (k := 8) (pc' := 22) rfl rfl rfl rfl rfl rfl rfl ?_
    refine pw_ld E (pc' := 23) (st' := [.ref 16, .ref 38]) rfl (fun _ => rfl) ?_
    refine pw_getR (b := 39) I E (c := 0) (k := 9) (pc' := 26) rfl rfl rfl rfl rfl rfl rfl ?_
    obtain ⟨f2l, f2h, -⟩ := pw_obj (c := 22) I rfl
    refine pw_call (m' := 11) (As := [.ref 38, .ref 39]) (rest := []) (ls'' := [some (.ref 38), some (.ref 39)]) (Nat.le_trans (by decide) hd) E rfl (fun _ => pw_iV rfl rfl rfl rfl (pw_cellI f2h rfl)) (rfl : pm_ent 11 = some (2, 2, 1, 1, pmc_11)) rfl rfl (cm_11 (pw_dp hd (by decide)) I 22 (by unfold pw_Fr; omega) 23 (by unfold pw_Fr; omega)) ?_
    rintro u4 v3 ⟨rfl, x5, rfl, hx5a, hx5b⟩
    refine ⟨_, rfl, ?_⟩
    show pw X d h 186 29 [some (.ref 16), some (pw_i z), some (pw_i y), none] [pw_i x5] _
    refine pw_istn E (pc' := 30) (ls' := [some (.ref 16), some (pw_i z), some (pw_i y), some (pw_i x5)]) rfl rfl rfl rfl ?_
    refine pw_ld E (pc' := 31) (st' := [pw_i z]) rfl (fun _ => rfl) ?_
    refine pw_if E (pc' := 38) rfl (by decide) (by omega) (by omega) ?_ ?_
    · intro hc6
      change z ≠ (0 : Int) at hc6
      refine pw_ld E (pc' := 39) (st' := [.ref 16]) rfl (fun _ => rfl) ?_
      refine pw_getR (b := 39) I E (c := 0) (k := 9) (pc' := 42) rfl rfl rfl rfl rfl rfl rfl ?_
      refine pw_ld E (pc' := 43) (st' := [.ref 16, .ref 39]) rfl (fun _ => rfl) ?_
      refine pw_getR (b := 38) I E (c := 0) (k := 8) (pc' := 46) rfl rfl rfl rfl rfl rfl rfl ?_
      obtain ⟨f7l, f7h, -⟩ := pw_obj (c := 23) I rfl
      refine pw_call (m' := 12) (As := [.ref 39, .ref 38]) (rest := []) (ls'' := [some (.ref 39), some (.ref 38)]) (Nat.le_trans (by decide) hd) E rfl (fun _ => pw_iV rfl rfl rfl rfl (pw_cellI f7h rfl)) (rfl : pm_ent 12 = some (2, 2, 1, 4, pmc_12)) rfl rfl (cm_12 (pw_dp hd (by decide)) I 23 (by unfold pw_Fr; omega) 22 (by unfold pw_Fr; omega)) ?_
      rintro h8 v9 ⟨h8I, h8E, rfl⟩
      refine ⟨_, rfl, ?_⟩
      have h8F := E0.tr (h8E.wk (W' := [23]) (by first | rfl | simp))
      show pw X d h8 186 49 [some (.ref 16), some (pw_i z), some (pw_i y), some (pw_i x5)] [] _
      refine pw_vret E rfl ?_
      exact ⟨h8I, h8F, rfl⟩
    · intro hc10
      change ¬ (z ≠ (0 : Int)) at hc10
      refine pw_ld E (pc' := 35) (st' := [pw_i x5]) rfl (fun _ => rfl) ?_
      refine pw_if E (pc' := 49) rfl (by decide) (by omega) (by omega) ?_ ?_
      · intro hc11
        change x5 = (0 : Int) at hc11
        refine pw_vret E rfl ?_
        exact ⟨I, E0, rfl⟩
      · intro hc12
        change ¬ (x5 = (0 : Int)) at hc12
        refine pw_ld E (pc' := 39) (st' := [.ref 16]) rfl (fun _ => rfl) ?_
        refine pw_getR (b := 39) I E (c := 0) (k := 9) (pc' := 42) rfl rfl rfl rfl rfl rfl rfl ?_
        refine pw_ld E (pc' := 43) (st' := [.ref 16, .ref 39]) rfl (fun _ => rfl) ?_
        refine pw_getR (b := 38) I E (c := 0) (k := 8) (pc' := 46) rfl rfl rfl rfl rfl rfl rfl ?_
        obtain ⟨f13l, f13h, -⟩ := pw_obj (c := 23) I rfl
        refine pw_call (m' := 12) (As := [.ref 39, .ref 38]) (rest := []) (ls'' := [some (.ref 39), some (.ref 38)]) (Nat.le_trans (by decide) hd) E rfl (fun _ => pw_iV rfl rfl rfl rfl (pw_cellI f13h rfl)) (rfl : pm_ent 12 = some (2, 2, 1, 4, pmc_12)) rfl rfl (cm_12 (pw_dp hd (by decide)) I 23 (by unfold pw_Fr; omega) 22 (by unfold pw_Fr; omega)) ?_
        rintro h14 v15 ⟨h14I, h14E, rfl⟩
        refine ⟨_, rfl, ?_⟩
        have h14F := E0.tr (h14E.wk (W' := [23]) (by first | rfl | simp))
        show pw X d h14 186 49 [some (.ref 16), some (pw_i z), some (pw_i y), some (pw_i x5)] [] _
        refine pw_vret E rfl ?_
        exact ⟨h14I, h14F, rfl⟩
  · intro hc16
    change ¬ (y = (0 : Int)) at hc16
    refine pw_ld E (pc' := 5) (st' := [.ref 16]) rfl (fun _ => rfl) ?_
    refine pw_getR (b := 39) I E (c := 0) (k := 9) (pc' := 8) rfl rfl rfl rfl rfl rfl rfl ?_
    refine pw_ld E (pc' := 9) (st' := [.ref 16, .ref 39]) rfl (fun _ => rfl) ?_
    refine pw_getR (b := 38) I E (c := 0) (k := 8) (pc' := 12) rfl rfl rfl rfl rfl rfl rfl ?_
    obtain ⟨f17l, f17h, -⟩ := pw_obj (c := 23) I rfl
    refine pw_call (m' := 11) (As := [.ref 39, .ref 38]) (rest := []) (ls'' := [some (.ref 39), some (.ref 38)]) (Nat.le_trans (by decide) hd) E rfl (fun _ => pw_iV rfl rfl rfl rfl (pw_cellI f17h rfl)) (rfl : pm_ent 11 = some (2, 2, 1, 1, pmc_11)) rfl rfl (cm_11 (pw_dp hd (by decide)) I 23 (by unfold pw_Fr; omega) 22 (by unfold pw_Fr; omega)) ?_
    rintro u19 v18 ⟨rfl, x20, rfl, hx20a, hx20b⟩
    refine ⟨_, rfl, ?_⟩
    show pw X d h 186 15 [some (.ref 16), some (pw_i z), some (pw_i y), none] [pw_i x20] _
    refine pw_goto E (pc' := 29) rfl (by decide) ?_
    refine pw_istn E (pc' := 30) (ls' := [some (.ref 16), some (pw_i z), some (pw_i y), some (pw_i x20)]) rfl rfl rfl rfl ?_
    refine pw_ld E (pc' := 31) (st' := [pw_i z]) rfl (fun _ => rfl) ?_
    refine pw_if E (pc' := 38) rfl (by decide) (by omega) (by omega) ?_ ?_
    · intro hc21
      change z ≠ (0 : Int) at hc21
      refine pw_ld E (pc' := 39) (st' := [.ref 16]) rfl (fun _ => rfl) ?_
      refine pw_getR (b := 39) I E (c := 0) (k := 9) (pc' := 42) rfl rfl rfl rfl rfl rfl rfl ?_
      refine pw_ld E (pc' := 43) (st' := [.ref 16, .ref 39]) rfl (fun _ => rfl) ?_
      refine pw_getR (b := 38) I E (c := 0) (k := 8) (pc' := 46) rfl rfl rfl rfl rfl rfl rfl ?_
      obtain ⟨f22l, f22h, -⟩ := pw_obj (c := 23) I rfl
      refine pw_call (m' := 12) (As := [.ref 39, .ref 38]) (rest := []) (ls'' := [some (.ref 39), some (.ref 38)]) (Nat.le_trans (by decide) hd) E rfl (fun _ => pw_iV rfl rfl rfl rfl (pw_cellI f22h rfl)) (rfl : pm_ent 12 = some (2, 2, 1, 4, pmc_12)) rfl rfl (cm_12 (pw_dp hd (by decide)) I 23 (by unfold pw_Fr; omega) 22 (by unfold pw_Fr; omega)) ?_
      rintro h23 v24 ⟨h23I, h23E, rfl⟩
      refine ⟨_, rfl, ?_⟩
      have h23F := E0.tr (h23E.wk (W' := [23]) (by first | rfl | simp))
      show pw X d h23 186 49 [some (.ref 16), some (pw_i z), some (pw_i y), some (pw_i x20)] [] _
      refine pw_vret E rfl ?_
      exact ⟨h23I, h23F, rfl⟩
    · intro hc25
      change ¬ (z ≠ (0 : Int)) at hc25
      refine pw_ld E (pc' := 35) (st' := [pw_i x20]) rfl (fun _ => rfl) ?_
      refine pw_if E (pc' := 49) rfl (by decide) (by omega) (by omega) ?_ ?_
      · intro hc26
        change x20 = (0 : Int) at hc26
        refine pw_vret E rfl ?_
        exact ⟨I, E0, rfl⟩
      · intro hc27
        change ¬ (x20 = (0 : Int)) at hc27
        refine pw_ld E (pc' := 39) (st' := [.ref 16]) rfl (fun _ => rfl) ?_
        refine pw_getR (b := 39) I E (c := 0) (k := 9) (pc' := 42) rfl rfl rfl rfl rfl rfl rfl ?_
        refine pw_ld E (pc' := 43) (st' := [.ref 16, .ref 39]) rfl (fun _ => rfl) ?_
        refine pw_getR (b := 38) I E (c := 0) (k := 8) (pc' := 46) rfl rfl rfl rfl rfl rfl rfl ?_
        obtain ⟨f28l, f28h, -⟩ := pw_obj (c := 23) I rfl
        refine pw_call (m' := 12) (As := [.ref 39, .ref 38]) (rest := []) (ls'' := [some (.ref 39), some (.ref 38)]) (Nat.le_trans (by decide) hd) E rfl (fun _ => pw_iV rfl rfl rfl rfl (pw_cellI f28h rfl)) (rfl : pm_ent 12 = some (2, 2, 1, 4, pmc_12)) rfl rfl (cm_12 (pw_dp hd (by decide)) I 23 (by unfold pw_Fr; omega) 22 (by unfold pw_Fr; omega)) ?_
        rintro h29 v30 ⟨h29I, h29E, rfl⟩
        refine ⟨_, rfl, ?_⟩
        have h29F := E0.tr (h29E.wk (W' := [23]) (by first | rfl | simp))
        show pw X d h29 186 49 [some (.ref 16), some (pw_i z), some (pw_i y), some (pw_i x20)] [] _
        refine pw_vret E rfl ?_
        exact ⟨h29I, h29F, rfl⟩
set_option maxHeartbeats 4000000 in
theorem cm_184 {X : List (Nat × List Value)} {d : Nat} {h : pm_H} (hd : 6 ≤ d) (I : pw_I h) (wt : Int) (hwt1 : (-2147483648) ≤ wt) (hwt2 : wt ≤ 2147483647) : pw X d h 184 0 [some (.ref 16), some (pw_i wt), none, none, none, none] [] (fun h' v => pw_I h' ∧ pw_E [17, 18, 22, 23, 95, 51, 65, 79, 93] h h' ∧ (v = .inr () ∨ (∃ w : Int64, v = .inl (some (.long w))))) := by
  have E : pm_ent 184 = some (2, 6, 11, 2, pmc_184) := rfl
  have E0 : pw_E [17, 18, 22, 23, 95, 51, 65, 79, 93] h h := pw_E.rf _ _
  refine pw_ld E (pc' := 1) (st' := [pw_i wt]) rfl (fun _ => rfl) ?_
  refine pw_ld E (pc' := 2) (st' := [pw_i 0, pw_i wt]) rfl (fun _ => rfl) ?_
  refine pw_bip E (pc' := 4) rfl rfl (by decide) ?_
  refine pw_call (m' := 121) (As := [pw_i wt, pw_i 0, pw_i 6]) (rest := []) (ls'' := [some (pw_i wt), some (pw_i 0), some (pw_i 6)]) (Nat.le_trans (by decide) hd) E rfl (fun _ => pw_iS rfl rfl rfl) (rfl : pm_ent 121 = some (3, 3, 11, 1, pmc_121)) rfl rfl (cm_121 (pw_dp hd (by decide)) I (wt) (by omega) (by omega) (0) (by omega) (by omega) (6) (by omega) (by omega)) ?_
  rintro u2 v1 ⟨rfl, x3, rfl, hx3a, hx3b, hx3r⟩
  refine ⟨_, rfl, ?_⟩
  show pw X d h 184 7 [some (.ref 16), some (pw_i wt), none, none, none, none] [pw_i x3] _
  change (x3 = 1 ∧ 0 ≤ wt ∧ wt ≤ 6) ∨ (x3 = 0 ∧ ¬ (0 ≤ wt ∧ wt ≤ 6)) at hx3r
  rcases (by omega : x3 = 1 ∨ x3 = 0) with hb4 | hb4
  · skip
    refine pw_if E (pc' := 18) rfl (by decide) (by omega) (by omega) ?_ ?_
    · intro hc5
      change x3 ≠ (0 : Int) at hc5
      refine pw_ld E (pc' := 19) (st' := [pw_i 0]) rfl (fun _ => rfl) ?_
      refine pw_istn E (pc' := 20) (ls' := [some (.ref 16), some (pw_i wt), some (pw_i 0), none, none, none]) rfl rfl rfl rfl ?_
      refine pw_ld E (pc' := 21) (st' := [pw_i 0]) rfl (fun _ => rfl) ?_
      refine pw_istn E (pc' := 22) (ls' := [some (.ref 16), some (pw_i wt), some (pw_i 0), some (pw_i 0), none, none]) rfl rfl rfl rfl ?_
      refine pw_ld E (pc' := 23) (st' := [pw_i 0]) rfl (fun _ => rfl) ?_
      refine pw_ist E (pc' := 25) (ls' := [some (.ref 16), some (pw_i wt), some (pw_i 0), some (pw_i 0), some (pw_i 0), none]) rfl rfl rfl rfl ?_
      have L25 : ∀ (n25 : Nat) (k25_2 : Int) (k25_3 : Int) (k25_4 : Int) (k25_5 : Option Value) (h25 : pm_H), pw_I h25 → pw_E [17, 18, 22, 23, 95, 51, 65, 79, 93] h h25 → 0 ≤ k25_2 → k25_2 ≤ 44 → (-2147483648) ≤ k25_3 → k25_3 ≤ 2147483647 → 0 ≤ k25_4 → k25_4 ≤ 4 → k25_2 ≤ 11 * k25_4 → (4 - k25_4).toNat = n25 → pw X d h25 184 25 [some (.ref 16), some (pw_i wt), some (pw_i k25_2), some (pw_i k25_3), some (pw_i k25_4), k25_5] [] (fun h' v => pw_I h' ∧ pw_E [17, 18, 22, 23, 95, 51, 65, 79, 93] h h' ∧ (v = .inr () ∨ (∃ w : Int64, v = .inl (some (.long w))))) := by
        intro n25
        induction n25 using Nat.strongRecOn with
        | ind n25 ih25 =>
          intro k25_2 k25_3 k25_4 k25_5 h25 I25 E25 k25_2a k25_2b k25_3a k25_3b k25_4a k25_4b hx25_0 hm25
          refine pw_ld E (pc' := 27) (st' := [pw_i k25_4]) rfl (fun _ => rfl) ?_
          refine pw_ld E (pc' := 28) (st' := [pw_i 4, pw_i k25_4]) rfl (fun _ => rfl) ?_
          refine pw_if2 E (pc' := 111) rfl (by decide) (by omega) (by omega) (by decide) (by decide) ?_ ?_
          · intro hc6
            change (4 : Int) ≤ k25_4 at hc6
            refine pw_ld E (pc' := 112) (st' := [pw_i wt]) rfl (fun _ => rfl) ?_
            refine pw_ld E (pc' := 113) (st' := [pw_i 2, pw_i wt]) rfl (fun _ => rfl) ?_
            refine pw_if2 E (pc' := 119) rfl (by decide) (by omega) (by omega) (by decide) (by decide) ?_ ?_
            · intro hc7
              change (2 : Int) < wt at hc7
              refine pw_ld E (pc' := 120) (st' := [pw_i k25_2]) rfl (fun _ => rfl) ?_
              refine pw_if E (pc' := 131) rfl (by decide) (by omega) (by omega) ?_ ?_
              · intro hc8
                change k25_2 ≠ (0 : Int) at hc8
                refine pw_ld E (pc' := 132) (st' := [.ref 16]) rfl (fun _ => rfl) ?_
                refine pw_getR (b := 39) I25 E (c := 0) (k := 9) (pc' := 135) rfl rfl rfl rfl rfl rfl rfl ?_
                refine pw_ld E (pc' := 136) (st' := [pw_i wt, .ref 39]) rfl (fun _ => rfl) ?_
                refine pw_ld E (pc' := 137) (st' := [pw_i 3, pw_i wt, .ref 39]) rfl (fun _ => rfl) ?_
                refine pw_sub E (pc' := 138) rfl rfl ?_
                refine pw_ld E (pc' := 139) (st' := [pw_i 2, pw_i (wt - 3), .ref 39]) rfl (fun _ => rfl) ?_
                refine pw_rem E (pc' := 140) rfl rfl (by omega) (by omega) (by decide) (by decide) ?_
                obtain ⟨f9l, f9h, -⟩ := pw_obj (c := 23) I25 rfl
                refine pw_call (m' := 9) (As := [.ref 39, pw_i ((wt - 3) % 2)]) (rest := []) (ls'' := [some (.ref 39), some (pw_i ((wt - 3) % 2))]) (Nat.le_trans (by decide) hd) E rfl (fun _ => pw_iV rfl rfl rfl rfl (pw_cellI f9h rfl)) (rfl : pm_ent 9 = some (2, 2, 1, 2, pmc_9)) rfl rfl (cm_9 (pw_dp hd (by decide)) I25 23 (by unfold pw_Fr; omega) ((wt - 3) % 2) (by omega) (by omega)) ?_
                rintro u11 v10 ⟨rfl, w12, rfl⟩
                refine ⟨_, rfl, ?_⟩
                show pw X d h25 184 143 [some (.ref 16), some (pw_i wt), some (pw_i k25_2), some (pw_i k25_3), some (pw_i k25_4), k25_5] [.long w12] _
                refine pw_lret E rfl ?_
                exact ⟨I25, E25, Or.inr ⟨_, rfl⟩⟩
              · intro hc13
                change ¬ (k25_2 ≠ (0 : Int)) at hc13
                refine pw_thr E rfl rfl I25.2 ?_
                exact ⟨I25, E25, Or.inl rfl⟩
            · intro hc14
              change ¬ ((2 : Int) < wt) at hc14
              refine pw_ld E (pc' := 117) (st' := [pw_i k25_3]) rfl (fun _ => rfl) ?_
              refine pw_ld E (pc' := 118) (st' := [.long ((Int32.ofInt k25_3).toInt64)]) rfl (fun _ => rfl) ?_
              refine pw_lret E rfl ?_
              exact ⟨I25, E25, Or.inr ⟨_, rfl⟩⟩
          · intro hc15
            change ¬ ((4 : Int) ≤ k25_4) at hc15
            refine pw_ld E (pc' := 32) (st' := [pw_i 0]) rfl (fun _ => rfl) ?_
            refine pw_ist E (pc' := 34) (ls' := [some (.ref 16), some (pw_i wt), some (pw_i k25_2), some (pw_i k25_3), some (pw_i k25_4), some (pw_i 0)]) rfl rfl rfl rfl ?_
            have L34 : ∀ (n34 : Nat) (k34_2 : Int) (k34_3 : Int) (k34_5 : Int) (h34 : pm_H), pw_I h34 → pw_E [17, 18, 22, 23, 95, 51, 65, 79, 93] h h34 → 0 ≤ k34_2 → k34_2 ≤ 44 → (-2147483648) ≤ k34_3 → k34_3 ≤ 2147483647 → 0 ≤ k34_5 → k34_5 ≤ 11 → k34_2 ≤ 11 * k25_4 + k34_5 → (11 - k34_5).toNat = n34 → pw X d h34 184 34 [some (.ref 16), some (pw_i wt), some (pw_i k34_2), some (pw_i k34_3), some (pw_i k25_4), some (pw_i k34_5)] [] (fun h' v => pw_I h' ∧ pw_E [17, 18, 22, 23, 95, 51, 65, 79, 93] h h' ∧ (v = .inr () ∨ (∃ w : Int64, v = .inl (some (.long w))))) := by
              intro n34
              induction n34 using Nat.strongRecOn with
              | ind n34 ih34 =>
                intro k34_2 k34_3 k34_5 h34 I34 E34 k34_2a k34_2b k34_3a k34_3b k34_5a k34_5b hx34_0 hm34
                refine pw_ld E (pc' := 36) (st' := [pw_i k34_5]) rfl (fun _ => rfl) ?_
                refine pw_bip E (pc' := 38) rfl rfl (by decide) ?_
                refine pw_if2 E (pc' := 105) rfl (by decide) (by omega) (by omega) (by decide) (by decide) ?_ ?_
                · intro hc16
                  change (10 : Int) < k34_5 at hc16
                  refine pw_inc E (pc' := 108) (ls' := [some (.ref 16), some (pw_i wt), some (pw_i k34_2), some (pw_i k34_3), some (pw_i (k25_4 + 1)), some (pw_i k34_5)]) rfl rfl rfl rfl ?_
                  refine pw_goto E (pc' := 25) rfl (by decide) ?_
                  exact ih25 _ (by omega) (k34_2) (k34_3) (k25_4 + 1) (some (pw_i k34_5)) h34 I34 E34 (by omega) (by omega) (by omega) (by omega) (by omega) (by omega) (by omega) rfl
                · intro hc17
                  change ¬ ((10 : Int) < k34_5) at hc17
                  refine pw_ld E (pc' := 42) (st' := [.ref 16]) rfl (fun _ => rfl) ?_
                  refine pw_ld E (pc' := 43) (st' := [.ref 16, .ref 16]) rfl (fun _ => rfl) ?_
                  refine pw_getR (b := 54) I34 E (c := 0) (k := 15) (pc' := 46) rfl rfl rfl rfl rfl rfl rfl ?_
                  refine pw_ld E (pc' := 48) (st' := [pw_i k25_4, .ref 54, .ref 16]) rfl (fun _ => rfl) ?_
                  rcases (by omega : k25_4 = 0 ∨ k25_4 = 1 ∨ k25_4 = 2 ∨ k25_4 = 3) with hj18 | hj18 | hj18 | hj18
                  · refine pw_aald (b := 62) I34 E (c := 38) (pc' := 49) rfl rfl (by decide) rfl (by decide) (by omega) (by omega) (by rw [hj18]; rfl) rfl ?_
                    refine pw_ld E (pc' := 51) (st' := [pw_i k34_5, .ref 62, .ref 16]) rfl (fun _ => rfl) ?_
                    obtain ⟨f19l, f19h, -⟩ := pw_obj (c := 0) I34 rfl
                    refine pw_call (m' := 183) (As := [.ref 16, .ref 62, pw_i k34_5]) (rest := []) (ls'' := [some (.ref 16), some (.ref 62), some (pw_i k34_5), none, none, none]) (Nat.le_trans (by decide) hd) E rfl (fun _ => pw_iV rfl rfl rfl rfl (pw_cellI f19h rfl)) (rfl : pm_ent 183 = some (3, 6, 11, 1, pmc_183)) rfl rfl (cm_183 (pw_dp hd (by decide)) I34 46 (by unfold pw_Sc; omega) (k34_5) (by omega) (by omega)) ?_
                    rintro h20 v21 ⟨h20I, h20E, x22, rfl, hx22a, hx22b⟩
                    refine ⟨_, rfl, ?_⟩
                    have h20F := E34.tr (h20E.wk (W' := [17, 18, 22, 23, 95, 51, 65, 79, 93]) (by first | rfl | simp))
                    show pw X d h20 184 54 [some (.ref 16), some (pw_i wt), some (pw_i k34_2), some (pw_i k34_3), some (pw_i k25_4), some (pw_i k34_5)] [pw_i x22] _
                    refine pw_if E (pc' := 99) rfl (by decide) (by omega) (by omega) ?_ ?_
                    · intro hc23
                      change x22 = (0 : Int) at hc23
                      refine pw_inc E (pc' := 102) (ls' := [some (.ref 16), some (pw_i wt), some (pw_i k34_2), some (pw_i k34_3), some (pw_i k25_4), some (pw_i (k34_5 + 1))]) rfl rfl rfl rfl ?_
                      refine pw_goto E (pc' := 34) rfl (by decide) ?_
                      exact ih34 _ (by omega) (k34_2) (k34_3) (k34_5 + 1) h20 h20I h20F (by omega) (by omega) (by omega) (by omega) (by omega) (by omega) (by omega) rfl
                    · intro hc24
                      change ¬ (x22 = (0 : Int)) at hc24
                      refine pw_ld E (pc' := 58) (st' := [pw_i k34_3]) rfl (fun _ => rfl) ?_
                      refine pw_ld E (pc' := 59) (st' := [.ref 16, pw_i k34_3]) rfl (fun _ => rfl) ?_
                      refine pw_ld E (pc' := 60) (st' := [pw_i wt, .ref 16, pw_i k34_3]) rfl (fun _ => rfl) ?_
                      obtain ⟨f25l, f25h, -⟩ := pw_obj (c := 0) h20I rfl
                      refine pw_call (m' := 185) (As := [.ref 16, pw_i wt]) (rest := [pw_i k34_3]) (ls'' := [some (.ref 16), some (pw_i wt)]) (Nat.le_trans (by decide) hd) E rfl (fun _ => pw_iV rfl rfl rfl rfl (pw_cellI f25h rfl)) (rfl : pm_ent 185 = some (2, 2, 11, 1, pmc_185)) rfl rfl (cm_185 (pw_dp hd (by decide)) h20I (wt) (by omega) (by omega)) ?_
                      rintro u27 v26 ⟨rfl, x28, rfl, hx28a, hx28b⟩
                      refine ⟨_, rfl, ?_⟩
                      show pw X d h20 184 63 [some (.ref 16), some (pw_i wt), some (pw_i k34_2), some (pw_i k34_3), some (pw_i k25_4), some (pw_i k34_5)] [pw_i x28, pw_i k34_3] _
                      refine pw_if E (pc' := 70) rfl (by decide) (by omega) (by omega) ?_ ?_
                      · intro hc29
                        change x28 = (0 : Int) at hc29
                        refine pw_ld E (pc' := 71) (st' := [pw_i 0, pw_i k34_3]) rfl (fun _ => rfl) ?_
                        refine pw_add E (pc' := 72) rfl rfl ?_
                        refine pw_istn E (pc' := 73) (ls' := [some (.ref 16), some (pw_i wt), some (pw_i k34_2), some (pw_i (k34_3 + 0)), some (pw_i k25_4), some (pw_i k34_5)]) rfl rfl rfl rfl ?_
                        refine pw_ld E (pc' := 74) (st' := [.ref 16]) rfl (fun _ => rfl) ?_
                        refine pw_ld E (pc' := 75) (st' := [pw_i k34_2, .ref 16]) rfl (fun _ => rfl) ?_
                        refine pw_if E (pc' := 82) rfl (by decide) (by omega) (by omega) ?_ ?_
                        · intro hc30
                          change k34_2 ≠ (0 : Int) at hc30
                          refine pw_ld E (pc' := 83) (st' := [pw_i 0, .ref 16]) rfl (fun _ => rfl) ?_
                          refine pw_ld E (pc' := 84) (st' := [pw_i wt, pw_i 0, .ref 16]) rfl (fun _ => rfl) ?_
                          refine pw_ld E (pc' := 85) (st' := [pw_i 5, pw_i wt, pw_i 0, .ref 16]) rfl (fun _ => rfl) ?_
                          refine pw_if2 E (pc' := 92) rfl (by decide) (by omega) (by omega) (by decide) (by decide) ?_ ?_
                          · intro hc31
                            change wt < (5 : Int) at hc31
                            refine pw_ld E (pc' := 93) (st' := [pw_i 0, pw_i 0, .ref 16]) rfl (fun _ => rfl) ?_
                            obtain ⟨f32l, f32h, -⟩ := pw_obj (c := 0) h20I rfl
                            refine pw_call (m' := 186) (As := [.ref 16, pw_i 0, pw_i 0]) (rest := []) (ls'' := [some (.ref 16), some (pw_i 0), some (pw_i 0), none]) (Nat.le_trans (by decide) hd) E rfl (fun _ => pw_iV rfl rfl rfl rfl (pw_cellI f32h rfl)) (rfl : pm_ent 186 = some (3, 4, 11, 4, pmc_186)) rfl rfl (cm_186 (pw_dp hd (by decide)) h20I (0) (by omega) (by omega) (0) (by omega) (by omega)) ?_
                            rintro h33 v34 ⟨h33I, h33E, rfl⟩
                            refine ⟨_, rfl, ?_⟩
                            have h33F := h20F.tr (h33E.wk (W' := [17, 18, 22, 23, 95, 51, 65, 79, 93]) (by first | rfl | simp))
                            show pw X d h33 184 96 [some (.ref 16), some (pw_i wt), some (pw_i k34_2), some (pw_i (k34_3 + 0)), some (pw_i k25_4), some (pw_i k34_5)] [] _
                            refine pw_inc E (pc' := 99) (ls' := [some (.ref 16), some (pw_i wt), some (pw_i (k34_2 + 1)), some (pw_i (k34_3 + 0)), some (pw_i k25_4), some (pw_i k34_5)]) rfl rfl rfl rfl ?_
                            refine pw_inc E (pc' := 102) (ls' := [some (.ref 16), some (pw_i wt), some (pw_i (k34_2 + 1)), some (pw_i (k34_3 + 0)), some (pw_i k25_4), some (pw_i (k34_5 + 1))]) rfl rfl rfl rfl ?_
                            refine pw_goto E (pc' := 34) rfl (by decide) ?_
                            exact ih34 _ (by omega) (k34_2 + 1) (k34_3 + 0) (k34_5 + 1) h33 h33I h33F (by omega) (by omega) (by omega) (by omega) (by omega) (by omega) (by omega) rfl
                          · intro hc35
                            change ¬ (wt < (5 : Int)) at hc35
                            refine pw_ld E (pc' := 89) (st' := [pw_i 1, pw_i 0, .ref 16]) rfl (fun _ => rfl) ?_
                            refine pw_goto E (pc' := 93) rfl (by decide) ?_
                            obtain ⟨f36l, f36h, -⟩ := pw_obj (c := 0) h20I rfl
                            refine pw_call (m' := 186) (As := [.ref 16, pw_i 0, pw_i 1]) (rest := []) (ls'' := [some (.ref 16), some (pw_i 0), some (pw_i 1), none]) (Nat.le_trans (by decide) hd) E rfl (fun _ => pw_iV rfl rfl rfl rfl (pw_cellI f36h rfl)) (rfl : pm_ent 186 = some (3, 4, 11, 4, pmc_186)) rfl rfl (cm_186 (pw_dp hd (by decide)) h20I (0) (by omega) (by omega) (1) (by omega) (by omega)) ?_
                            rintro h37 v38 ⟨h37I, h37E, rfl⟩
                            refine ⟨_, rfl, ?_⟩
                            have h37F := h20F.tr (h37E.wk (W' := [17, 18, 22, 23, 95, 51, 65, 79, 93]) (by first | rfl | simp))
                            show pw X d h37 184 96 [some (.ref 16), some (pw_i wt), some (pw_i k34_2), some (pw_i (k34_3 + 0)), some (pw_i k25_4), some (pw_i k34_5)] [] _
                            refine pw_inc E (pc' := 99) (ls' := [some (.ref 16), some (pw_i wt), some (pw_i (k34_2 + 1)), some (pw_i (k34_3 + 0)), some (pw_i k25_4), some (pw_i k34_5)]) rfl rfl rfl rfl ?_
                            refine pw_inc E (pc' := 102) (ls' := [some (.ref 16), some (pw_i wt), some (pw_i (k34_2 + 1)), some (pw_i (k34_3 + 0)), some (pw_i k25_4), some (pw_i (k34_5 + 1))]) rfl rfl rfl rfl ?_
                            refine pw_goto E (pc' := 34) rfl (by decide) ?_
                            exact ih34 _ (by omega) (k34_2 + 1) (k34_3 + 0) (k34_5 + 1) h37 h37I h37F (by omega) (by omega) (by omega) (by omega) (by omega) (by omega) (by omega) rfl
                        · intro hc39
                          change ¬ (k34_2 ≠ (0 : Int)) at hc39
                          refine pw_ld E (pc' := 79) (st' := [pw_i 1, .ref 16]) rfl (fun _ => rfl) ?_
                          refine pw_goto E (pc' := 83) rfl (by decide) ?_
                          refine pw_ld E (pc' := 84) (st' := [pw_i wt, pw_i 1, .ref 16]) rfl (fun _ => rfl) ?_
                          refine pw_ld E (pc' := 85) (st' := [pw_i 5, pw_i wt, pw_i 1, .ref 16]) rfl (fun _ => rfl) ?_
                          refine pw_if2 E (pc' := 92) rfl (by decide) (by omega) (by omega) (by decide) (by decide) ?_ ?_
                          · intro hc40
                            change wt < (5 : Int) at hc40
                            refine pw_ld E (pc' := 93) (st' := [pw_i 0, pw_i 1, .ref 16]) rfl (fun _ => rfl) ?_
                            obtain ⟨f41l, f41h, -⟩ := pw_obj (c := 0) h20I rfl
                            refine pw_call (m' := 186) (As := [.ref 16, pw_i 1, pw_i 0]) (rest := []) (ls'' := [some (.ref 16), some (pw_i 1), some (pw_i 0), none]) (Nat.le_trans (by decide) hd) E rfl (fun _ => pw_iV rfl rfl rfl rfl (pw_cellI f41h rfl)) (rfl : pm_ent 186 = some (3, 4, 11, 4, pmc_186)) rfl rfl (cm_186 (pw_dp hd (by decide)) h20I (1) (by omega) (by omega) (0) (by omega) (by omega)) ?_
                            rintro h42 v43 ⟨h42I, h42E, rfl⟩
                            refine ⟨_, rfl, ?_⟩
                            have h42F := h20F.tr (h42E.wk (W' := [17, 18, 22, 23, 95, 51, 65, 79, 93]) (by first | rfl | simp))
                            show pw X d h42 184 96 [some (.ref 16), some (pw_i wt), some (pw_i k34_2), some (pw_i (k34_3 + 0)), some (pw_i k25_4), some (pw_i k34_5)] [] _
                            refine pw_inc E (pc' := 99) (ls' := [some (.ref 16), some (pw_i wt), some (pw_i (k34_2 + 1)), some (pw_i (k34_3 + 0)), some (pw_i k25_4), some (pw_i k34_5)]) rfl rfl rfl rfl ?_
                            refine pw_inc E (pc' := 102) (ls' := [some (.ref 16), some (pw_i wt), some (pw_i (k34_2 + 1)), some (pw_i (k34_3 + 0)), some (pw_i k25_4), some (pw_i (k34_5 + 1))]) rfl rfl rfl rfl ?_
                            refine pw_goto E (pc' := 34) rfl (by decide) ?_
                            exact ih34 _ (by omega) (k34_2 + 1) (k34_3 + 0) (k34_5 + 1) h42 h42I h42F (by omega) (by omega) (by omega) (by omega) (by omega) (by omega) (by omega) rfl
                          · intro hc44
                            change ¬ (wt < (5 : Int)) at hc44
                            refine pw_ld E (pc' := 89) (st' := [pw_i 1, pw_i 1, .ref 16]) rfl (fun _ => rfl) ?_
                            refine pw_goto E (pc' := 93) rfl (by decide) ?_
                            obtain ⟨f45l, f45h, -⟩ := pw_obj (c := 0) h20I rfl
                            refine pw_call (m' := 186) (As := [.ref 16, pw_i 1, pw_i 1]) (rest := []) (ls'' := [some (.ref 16), some (pw_i 1), some (pw_i 1), none]) (Nat.le_trans (by decide) hd) E rfl (fun _ => pw_iV rfl rfl rfl rfl (pw_cellI f45h rfl)) (rfl : pm_ent 186 = some (3, 4, 11, 4, pmc_186)) rfl rfl (cm_186 (pw_dp hd (by decide)) h20I (1) (by omega) (by omega) (1) (by omega) (by omega)) ?_
                            rintro h46 v47 ⟨h46I, h46E, rfl⟩
                            refine ⟨_, rfl, ?_⟩
                            have h46F := h20F.tr (h46E.wk (W' := [17, 18, 22, 23, 95, 51, 65, 79, 93]) (by first | rfl | simp))
                            show pw X d h46 184 96 [some (.ref 16), some (pw_i wt), some (pw_i k34_2), some (pw_i (k34_3 + 0)), some (pw_i k25_4), some (pw_i k34_5)] [] _
                            refine pw_inc E (pc' := 99) (ls' := [some (.ref 16), some (pw_i wt), some (pw_i (k34_2 + 1)), some (pw_i (k34_3 + 0)), some (pw_i k25_4), some (pw_i k34_5)]) rfl rfl rfl rfl ?_
                            refine pw_inc E (pc' := 102) (ls' := [some (.ref 16), some (pw_i wt), some (pw_i (k34_2 + 1)), some (pw_i (k34_3 + 0)), some (pw_i k25_4), some (pw_i (k34_5 + 1))]) rfl rfl rfl rfl ?_
                            refine pw_goto E (pc' := 34) rfl (by decide) ?_
                            exact ih34 _ (by omega) (k34_2 + 1) (k34_3 + 0) (k34_5 + 1) h46 h46I h46F (by omega) (by omega) (by omega) (by omega) (by omega) (by omega) (by omega) rfl
                      · intro hc48
                        change ¬ (x28 = (0 : Int)) at hc48
                        refine pw_ld E (pc' := 67) (st' := [pw_i 1, pw_i k34_3]) rfl (fun _ => rfl) ?_
                        refine pw_goto E (pc' := 71) rfl (by decide) ?_
                        refine pw_add E (pc' := 72) rfl rfl ?_
                        refine pw_nm (fun x49 hx49a hx49b => ?_)
                        refine pw_istn E (pc' := 73) (ls' := [some (.ref 16), some (pw_i wt), some (pw_i k34_2), some (pw_i x49), some (pw_i k25_4), some (pw_i k34_5)]) rfl rfl rfl rfl ?_
                        refine pw_ld E (pc' := 74) (st' := [.ref 16]) rfl (fun _ => rfl) ?_
                        refine pw_ld E (pc' := 75) (st' := [pw_i k34_2, .ref 16]) rfl (fun _ => rfl) ?_
                        refine pw_if E (pc' := 82) rfl (by decide) (by omega) (by omega) ?_ ?_
                        · intro hc50
                          change k34_2 ≠ (0 : Int) at hc50
                          refine pw_ld E (pc' := 83) (st' := [pw_i 0, .ref 16]) rfl (fun _ => rfl) ?_
                          refine pw_ld E (pc' := 84) (st' := [pw_i wt, pw_i 0, .ref 16]) rfl (fun _ => rfl) ?_
                          refine pw_ld E (pc' := 85) (st' := [pw_i 5, pw_i wt, pw_i 0, .ref 16]) rfl (fun _ => rfl) ?_
                          refine pw_if2 E (pc' := 92) rfl (by decide) (by omega) (by omega) (by decide) (by decide) ?_ ?_
                          · intro hc51
                            change wt < (5 : Int) at hc51
                            refine pw_ld E (pc' := 93) (st' := [pw_i 0, pw_i 0, .ref 16]) rfl (fun _ => rfl) ?_
                            obtain ⟨f52l, f52h, -⟩ := pw_obj (c := 0) h20I rfl
                            refine pw_call (m' := 186) (As := [.ref 16, pw_i 0, pw_i 0]) (rest := []) (ls'' := [some (.ref 16), some (pw_i 0), some (pw_i 0), none]) (Nat.le_trans (by decide) hd) E rfl (fun _ => pw_iV rfl rfl rfl rfl (pw_cellI f52h rfl)) (rfl : pm_ent 186 = some (3, 4, 11, 4, pmc_186)) rfl rfl (cm_186 (pw_dp hd (by decide)) h20I (0) (by omega) (by omega) (0) (by omega) (by omega)) ?_
                            rintro h53 v54 ⟨h53I, h53E, rfl⟩
                            refine ⟨_, rfl, ?_⟩
                            have h53F := h20F.tr (h53E.wk (W' := [17, 18, 22, 23, 95, 51, 65, 79, 93]) (by first | rfl | simp))
                            show pw X d h53 184 96 [some (.ref 16), some (pw_i wt), some (pw_i k34_2), some (pw_i x49), some (pw_i k25_4), some (pw_i k34_5)] [] _
                            refine pw_inc E (pc' := 99) (ls' := [some (.ref 16), some (pw_i wt), some (pw_i (k34_2 + 1)), some (pw_i x49), some (pw_i k25_4), some (pw_i k34_5)]) rfl rfl rfl rfl ?_
                            refine pw_inc E (pc' := 102) (ls' := [some (.ref 16), some (pw_i wt), some (pw_i (k34_2 + 1)), some (pw_i x49), some (pw_i k25_4), some (pw_i (k34_5 + 1))]) rfl rfl rfl rfl ?_
                            refine pw_goto E (pc' := 34) rfl (by decide) ?_
                            exact ih34 _ (by omega) (k34_2 + 1) (x49) (k34_5 + 1) h53 h53I h53F (by omega) (by omega) (by omega) (by omega) (by omega) (by omega) (by omega) rfl
                          · intro hc55
                            change ¬ (wt < (5 : Int)) at hc55
                            refine pw_ld E (pc' := 89) (st' := [pw_i 1, pw_i 0, .ref 16]) rfl (fun _ => rfl) ?_
                            refine pw_goto E (pc' := 93) rfl (by decide) ?_
                            obtain ⟨f56l, f56h, -⟩ := pw_obj (c := 0) h20I rfl
                            refine pw_call (m' := 186) (As := [.ref 16, pw_i 0, pw_i 1]) (rest := []) (ls'' := [some (.ref 16), some (pw_i 0), some (pw_i 1), none]) (Nat.le_trans (by decide) hd) E rfl (fun _ => pw_iV rfl rfl rfl rfl (pw_cellI f56h rfl)) (rfl : pm_ent 186 = some (3, 4, 11, 4, pmc_186)) rfl rfl (cm_186 (pw_dp hd (by decide)) h20I (0) (by omega) (by omega) (1) (by omega) (by omega)) ?_
                            rintro h57 v58 ⟨h57I, h57E, rfl⟩
                            refine ⟨_, rfl, ?_⟩
                            have h57F := h20F.tr (h57E.wk (W' := [17, 18, 22, 23, 95, 51, 65, 79, 93]) (by first | rfl | simp))
                            show pw X d h57 184 96 [some (.ref 16), some (pw_i wt), some (pw_i k34_2), some (pw_i x49), some (pw_i k25_4), some (pw_i k34_5)] [] _
                            refine pw_inc E (pc' := 99) (ls' := [some (.ref 16), some (pw_i wt), some (pw_i (k34_2 + 1)), some (pw_i x49), some (pw_i k25_4), some (pw_i k34_5)]) rfl rfl rfl rfl ?_
                            refine pw_inc E (pc' := 102) (ls' := [some (.ref 16), some (pw_i wt), some (pw_i (k34_2 + 1)), some (pw_i x49), some (pw_i k25_4), some (pw_i (k34_5 + 1))]) rfl rfl rfl rfl ?_
                            refine pw_goto E (pc' := 34) rfl (by decide) ?_
                            exact ih34 _ (by omega) (k34_2 + 1) (x49) (k34_5 + 1) h57 h57I h57F (by omega) (by omega) (by omega) (by omega) (by omega) (by omega) (by omega) rfl
                        · intro hc59
                          change ¬ (k34_2 ≠ (0 : Int)) at hc59
                          refine pw_ld E (pc' := 79) (st' := [pw_i 1, .ref 16]) rfl (fun _ => rfl) ?_
                          refine pw_goto E (pc' := 83) rfl (by decide) ?_
                          refine pw_ld E (pc' := 84) (st' := [pw_i wt, pw_i 1, .ref 16]) rfl (fun _ => rfl) ?_
                          refine pw_ld E (pc' := 85) (st' := [pw_i 5, pw_i wt, pw_i 1, .ref 16]) rfl (fun _ => rfl) ?_
                          refine pw_if2 E (pc' := 92) rfl (by decide) (by omega) (by omega) (by decide) (by decide) ?_ ?_
                          · intro hc60
                            change wt < (5 : Int) at hc60
                            refine pw_ld E (pc' := 93) (st' := [pw_i 0, pw_i 1, .ref 16]) rfl (fun _ => rfl) ?_
                            obtain ⟨f61l, f61h, -⟩ := pw_obj (c := 0) h20I rfl
                            refine pw_call (m' := 186) (As := [.ref 16, pw_i 1, pw_i 0]) (rest := []) (ls'' := [some (.ref 16), some (pw_i 1), some (pw_i 0), none]) (Nat.le_trans (by decide) hd) E rfl (fun _ => pw_iV rfl rfl rfl rfl (pw_cellI f61h rfl)) (rfl : pm_ent 186 = some (3, 4, 11, 4, pmc_186)) rfl rfl (cm_186 (pw_dp hd (by decide)) h20I (1) (by omega) (by omega) (0) (by omega) (by omega)) ?_
                            rintro h62 v63 ⟨h62I, h62E, rfl⟩
                            refine ⟨_, rfl, ?_⟩
                            have h62F := h20F.tr (h62E.wk (W' := [17, 18, 22, 23, 95, 51, 65, 79, 93]) (by first | rfl | simp))
                            show pw X d h62 184 96 [some (.ref 16), some (pw_i wt), some (pw_i k34_2), some (pw_i x49), some (pw_i k25_4), some (pw_i k34_5)] [] _
                            refine pw_inc E (pc' := 99) (ls' := [some (.ref 16), some (pw_i wt), some (pw_i (k34_2 + 1)), some (pw_i x49), some (pw_i k25_4), some (pw_i k34_5)]) rfl rfl rfl rfl ?_
                            refine pw_inc E (pc' := 102) (ls' := [some (.ref 16), some (pw_i wt), some (pw_i (k34_2 + 1)), some (pw_i x49), some (pw_i k25_4), some (pw_i (k34_5 + 1))]) rfl rfl rfl rfl ?_
                            refine pw_goto E (pc' := 34) rfl (by decide) ?_
                            exact ih34 _ (by omega) (k34_2 + 1) (x49) (k34_5 + 1) h62 h62I h62F (by omega) (by omega) (by omega) (by omega) (by omega) (by omega) (by omega) rfl
                          · intro hc64
                            change ¬ (wt < (5 : Int)) at hc64
                            refine pw_ld E (pc' := 89) (st' := [pw_i 1, pw_i 1, .ref 16]) rfl (fun _ => rfl) ?_
                            refine pw_goto E (pc' := 93) rfl (by decide) ?_
                            obtain ⟨f65l, f65h, -⟩ := pw_obj (c := 0) h20I rfl
                            refine pw_call (m' := 186) (As := [.ref 16, pw_i 1, pw_i 1]) (rest := []) (ls'' := [some (.ref 16), some (pw_i 1), some (pw_i 1), none]) (Nat.le_trans (by decide) hd) E rfl (fun _ => pw_iV rfl rfl rfl rfl (pw_cellI f65h rfl)) (rfl : pm_ent 186 = some (3, 4, 11, 4, pmc_186)) rfl rfl (cm_186 (pw_dp hd (by decide)) h20I (1) (by omega) (by omega) (1) (by omega) (by omega)) ?_
                            rintro h66 v67 ⟨h66I, h66E, rfl⟩
                            refine ⟨_, rfl, ?_⟩
                            have h66F := h20F.tr (h66E.wk (W' := [17, 18, 22, 23, 95, 51, 65, 79, 93]) (by first | rfl | simp))
                            show pw X d h66 184 96 [some (.ref 16), some (pw_i wt), some (pw_i k34_2), some (pw_i x49), some (pw_i k25_4), some (pw_i k34_5)] [] _
                            refine pw_inc E (pc' := 99) (ls' := [some (.ref 16), some (pw_i wt), some (pw_i (k34_2 + 1)), some (pw_i x49), some (pw_i k25_4), some (pw_i k34_5)]) rfl rfl rfl rfl ?_
                            refine pw_inc E (pc' := 102) (ls' := [some (.ref 16), some (pw_i wt), some (pw_i (k34_2 + 1)), some (pw_i x49), some (pw_i k25_4), some (pw_i (k34_5 + 1))]) rfl rfl rfl rfl ?_
                            refine pw_goto E (pc' := 34) rfl (by decide) ?_
                            exact ih34 _ (by omega) (k34_2 + 1) (x49) (k34_5 + 1) h66 h66I h66F (by omega) (by omega) (by omega) (by omega) (by omega) (by omega) (by omega) rfl
                  · refine pw_aald (b := 76) I34 E (c := 38) (pc' := 49) rfl rfl (by decide) rfl (by decide) (by omega) (by omega) (by rw [hj18]; rfl) rfl ?_
                    refine pw_ld E (pc' := 51) (st' := [pw_i k34_5, .ref 76, .ref 16]) rfl (fun _ => rfl) ?_
                    obtain ⟨f68l, f68h, -⟩ := pw_obj (c := 0) I34 rfl
                    refine pw_call (m' := 183) (As := [.ref 16, .ref 76, pw_i k34_5]) (rest := []) (ls'' := [some (.ref 16), some (.ref 76), some (pw_i k34_5), none, none, none]) (Nat.le_trans (by decide) hd) E rfl (fun _ => pw_iV rfl rfl rfl rfl (pw_cellI f68h rfl)) (rfl : pm_ent 183 = some (3, 6, 11, 1, pmc_183)) rfl rfl (cm_183 (pw_dp hd (by decide)) I34 60 (by unfold pw_Sc; omega) (k34_5) (by omega) (by omega)) ?_
                    rintro h69 v70 ⟨h69I, h69E, x71, rfl, hx71a, hx71b⟩
                    refine ⟨_, rfl, ?_⟩
                    have h69F := E34.tr (h69E.wk (W' := [17, 18, 22, 23, 95, 51, 65, 79, 93]) (by first | rfl | simp))
                    show pw X d h69 184 54 [some (.ref 16), some (pw_i wt), some (pw_i k34_2), some (pw_i k34_3), some (pw_i k25_4), some (pw_i k34_5)] [pw_i x71] _
                    refine pw_if E (pc' := 99) rfl (by decide) (by omega) (by omega) ?_ ?_
                    · intro hc72
                      change x71 = (0 : Int) at hc72
                      refine pw_inc E (pc' := 102) (ls' := [some (.ref 16), some (pw_i wt), some (pw_i k34_2), some (pw_i k34_3), some (pw_i k25_4), some (pw_i (k34_5 + 1))]) rfl rfl rfl rfl ?_
                      refine pw_goto E (pc' := 34) rfl (by decide) ?_
                      exact ih34 _ (by omega) (k34_2) (k34_3) (k34_5 + 1) h69 h69I h69F (by omega) (by omega) (by omega) (by omega) (by omega) (by omega) (by omega) rfl
                    · intro hc73
                      change ¬ (x71 = (0 : Int)) at hc73
                      refine pw_ld E (pc' := 58) (st' := [pw_i k34_3]) rfl (fun _ => rfl) ?_
                      refine pw_ld E (pc' := 59) (st' := [.ref 16, pw_i k34_3]) rfl (fun _ => rfl) ?_
                      refine pw_ld E (pc' := 60) (st' := [pw_i wt, .ref 16, pw_i k34_3]) rfl (fun _ => rfl) ?_
                      obtain ⟨f74l, f74h, -⟩ := pw_obj (c := 0) h69I rfl
                      refine pw_call (m' := 185) (As := [.ref 16, pw_i wt]) (rest := [pw_i k34_3]) (ls'' := [some (.ref 16), some (pw_i wt)]) (Nat.le_trans (by decide) hd) E rfl (fun _ => pw_iV rfl rfl rfl rfl (pw_cellI f74h rfl)) (rfl : pm_ent 185 = some (2, 2, 11, 1, pmc_185)) rfl rfl (cm_185 (pw_dp hd (by decide)) h69I (wt) (by omega) (by omega)) ?_
                      rintro u76 v75 ⟨rfl, x77, rfl, hx77a, hx77b⟩
                      refine ⟨_, rfl, ?_⟩
                      show pw X d h69 184 63 [some (.ref 16), some (pw_i wt), some (pw_i k34_2), some (pw_i k34_3), some (pw_i k25_4), some (pw_i k34_5)] [pw_i x77, pw_i k34_3] _
                      refine pw_if E (pc' := 70) rfl (by decide) (by omega) (by omega) ?_ ?_
                      · intro hc78
                        change x77 = (0 : Int) at hc78
                        refine pw_ld E (pc' := 71) (st' := [pw_i 0, pw_i k34_3]) rfl (fun _ => rfl) ?_
                        refine pw_add E (pc' := 72) rfl rfl ?_
                        refine pw_istn E (pc' := 73) (ls' := [some (.ref 16), some (pw_i wt), some (pw_i k34_2), some (pw_i (k34_3 + 0)), some (pw_i k25_4), some (pw_i k34_5)]) rfl rfl rfl rfl ?_
                        refine pw_ld E (pc' := 74) (st' := [.ref 16]) rfl (fun _ => rfl) ?_
                        refine pw_ld E (pc' := 75) (st' := [pw_i k34_2, .ref 16]) rfl (fun _ => rfl) ?_
                        refine pw_if E (pc' := 82) rfl (by decide) (by omega) (by omega) ?_ ?_
                        · intro hc79
                          change k34_2 ≠ (0 : Int) at hc79
                          refine pw_ld E (pc' := 83) (st' := [pw_i 0, .ref 16]) rfl (fun _ => rfl) ?_
                          refine pw_ld E (pc' := 84) (st' := [pw_i wt, pw_i 0, .ref 16]) rfl (fun _ => rfl) ?_
                          refine pw_ld E (pc' := 85) (st' := [pw_i 5, pw_i wt, pw_i 0, .ref 16]) rfl (fun _ => rfl) ?_
                          refine pw_if2 E (pc' := 92) rfl (by decide) (by omega) (by omega) (by decide) (by decide) ?_ ?_
                          · intro hc80
                            change wt < (5 : Int) at hc80
                            refine pw_ld E (pc' := 93) (st' := [pw_i 0, pw_i 0, .ref 16]) rfl (fun _ => rfl) ?_
                            obtain ⟨f81l, f81h, -⟩ := pw_obj (c := 0) h69I rfl
                            refine pw_call (m' := 186) (As := [.ref 16, pw_i 0, pw_i 0]) (rest := []) (ls'' := [some (.ref 16), some (pw_i 0), some (pw_i 0), none]) (Nat.le_trans (by decide) hd) E rfl (fun _ => pw_iV rfl rfl rfl rfl (pw_cellI f81h rfl)) (rfl : pm_ent 186 = some (3, 4, 11, 4, pmc_186)) rfl rfl (cm_186 (pw_dp hd (by decide)) h69I (0) (by omega) (by omega) (0) (by omega) (by omega)) ?_
                            rintro h82 v83 ⟨h82I, h82E, rfl⟩
                            refine ⟨_, rfl, ?_⟩
                            have h82F := h69F.tr (h82E.wk (W' := [17, 18, 22, 23, 95, 51, 65, 79, 93]) (by first | rfl | simp))
                            show pw X d h82 184 96 [some (.ref 16), some (pw_i wt), some (pw_i k34_2), some (pw_i (k34_3 + 0)), some (pw_i k25_4), some (pw_i k34_5)] [] _
                            refine pw_inc E (pc' := 99) (ls' := [some (.ref 16), some (pw_i wt), some (pw_i (k34_2 + 1)), some (pw_i (k34_3 + 0)), some (pw_i k25_4), some (pw_i k34_5)]) rfl rfl rfl rfl ?_
                            refine pw_inc E (pc' := 102) (ls' := [some (.ref 16), some (pw_i wt), some (pw_i (k34_2 + 1)), some (pw_i (k34_3 + 0)), some (pw_i k25_4), some (pw_i (k34_5 + 1))]) rfl rfl rfl rfl ?_
                            refine pw_goto E (pc' := 34) rfl (by decide) ?_
                            exact ih34 _ (by omega) (k34_2 + 1) (k34_3 + 0) (k34_5 + 1) h82 h82I h82F (by omega) (by omega) (by omega) (by omega) (by omega) (by omega) (by omega) rfl
                          · intro hc84
                            change ¬ (wt < (5 : Int)) at hc84
                            refine pw_ld E (pc' := 89) (st' := [pw_i 1, pw_i 0, .ref 16]) rfl (fun _ => rfl) ?_
                            refine pw_goto E (pc' := 93) rfl (by decide) ?_
                            obtain ⟨f85l, f85h, -⟩ := pw_obj (c := 0) h69I rfl
                            refine pw_call (m' := 186) (As := [.ref 16, pw_i 0, pw_i 1]) (rest := []) (ls'' := [some (.ref 16), some (pw_i 0), some (pw_i 1), none]) (Nat.le_trans (by decide) hd) E rfl (fun _ => pw_iV rfl rfl rfl rfl (pw_cellI f85h rfl)) (rfl : pm_ent 186 = some (3, 4, 11, 4, pmc_186)) rfl rfl (cm_186 (pw_dp hd (by decide)) h69I (0) (by omega) (by omega) (1) (by omega) (by omega)) ?_
                            rintro h86 v87 ⟨h86I, h86E, rfl⟩
                            refine ⟨_, rfl, ?_⟩
                            have h86F := h69F.tr (h86E.wk (W' := [17, 18, 22, 23, 95, 51, 65, 79, 93]) (by first | rfl | simp))
                            show pw X d h86 184 96 [some (.ref 16), some (pw_i wt), some (pw_i k34_2), some (pw_i (k34_3 + 0)), some (pw_i k25_4), some (pw_i k34_5)] [] _
                            refine pw_inc E (pc' := 99) (ls' := [some (.ref 16), some (pw_i wt), some (pw_i (k34_2 + 1)), some (pw_i (k34_3 + 0)), some (pw_i k25_4), some (pw_i k34_5)]) rfl rfl rfl rfl ?_
                            refine pw_inc E (pc' := 102) (ls' := [some (.ref 16), some (pw_i wt), some (pw_i (k34_2 + 1)), some (pw_i (k34_3 + 0)), some (pw_i k25_4), some (pw_i (k34_5 + 1))]) rfl rfl rfl rfl ?_
                            refine pw_goto E (pc' := 34) rfl (by decide) ?_
                            exact ih34 _ (by omega) (k34_2 + 1) (k34_3 + 0) (k34_5 + 1) h86 h86I h86F (by omega) (by omega) (by omega) (by omega) (by omega) (by omega) (by omega) rfl
                        · intro hc88
                          change ¬ (k34_2 ≠ (0 : Int)) at hc88
                          refine pw_ld E (pc' := 79) (st' := [pw_i 1, .ref 16]) rfl (fun _ => rfl) ?_
                          refine pw_goto E (pc' := 83) rfl (by decide) ?_
                          refine pw_ld E (pc' := 84) (st' := [pw_i wt, pw_i 1, .ref 16]) rfl (fun _ => rfl) ?_
                          refine pw_ld E (pc' := 85) (st' := [pw_i 5, pw_i wt, pw_i 1, .ref 16]) rfl (fun _ => rfl) ?_
                          refine pw_if2 E (pc' := 92) rfl (by decide) (by omega) (by omega) (by decide) (by decide) ?_ ?_
                          · intro hc89
                            change wt < (5 : Int) at hc89
                            refine pw_ld E (pc' := 93) (st' := [pw_i 0, pw_i 1, .ref 16]) rfl (fun _ => rfl) ?_
                            obtain ⟨f90l, f90h, -⟩ := pw_obj (c := 0) h69I rfl
                            refine pw_call (m' := 186) (As := [.ref 16, pw_i 1, pw_i 0]) (rest := []) (ls'' := [some (.ref 16), some (pw_i 1), some (pw_i 0), none]) (Nat.le_trans (by decide) hd) E rfl (fun _ => pw_iV rfl rfl rfl rfl (pw_cellI f90h rfl)) (rfl : pm_ent 186 = some (3, 4, 11, 4, pmc_186)) rfl rfl (cm_186 (pw_dp hd (by decide)) h69I (1) (by omega) (by omega) (0) (by omega) (by omega)) ?_
                            rintro h91 v92 ⟨h91I, h91E, rfl⟩
                            refine ⟨_, rfl, ?_⟩
                            have h91F := h69F.tr (h91E.wk (W' := [17, 18, 22, 23, 95, 51, 65, 79, 93]) (by first | rfl | simp))
                            show pw X d h91 184 96 [some (.ref 16), some (pw_i wt), some (pw_i k34_2), some (pw_i (k34_3 + 0)), some (pw_i k25_4), some (pw_i k34_5)] [] _
                            refine pw_inc E (pc' := 99) (ls' := [some (.ref 16), some (pw_i wt), some (pw_i (k34_2 + 1)), some (pw_i (k34_3 + 0)), some (pw_i k25_4), some (pw_i k34_5)]) rfl rfl rfl rfl ?_
                            refine pw_inc E (pc' := 102) (ls' := [some (.ref 16), some (pw_i wt), some (pw_i (k34_2 + 1)), some (pw_i (k34_3 + 0)), some (pw_i k25_4), some (pw_i (k34_5 + 1))]) rfl rfl rfl rfl ?_
                            refine pw_goto E (pc' := 34) rfl (by decide) ?_
                            exact ih34 _ (by omega) (k34_2 + 1) (k34_3 + 0) (k34_5 + 1) h91 h91I h91F (by omega) (by omega) (by omega) (by omega) (by omega) (by omega) (by omega) rfl
                          · intro hc93
                            change ¬ (wt < (5 : Int)) at hc93
                            refine pw_ld E (pc' := 89) (st' := [pw_i 1, pw_i 1, .ref 16]) rfl (fun _ => rfl) ?_
                            refine pw_goto E (pc' := 93) rfl (by decide) ?_
                            obtain ⟨f94l, f94h, -⟩ := pw_obj (c := 0) h69I rfl
                            refine pw_call (m' := 186) (As := [.ref 16, pw_i 1, pw_i 1]) (rest := []) (ls'' := [some (.ref 16), some (pw_i 1), some (pw_i 1), none]) (Nat.le_trans (by decide) hd) E rfl (fun _ => pw_iV rfl rfl rfl rfl (pw_cellI f94h rfl)) (rfl : pm_ent 186 = some (3, 4, 11, 4, pmc_186)) rfl rfl (cm_186 (pw_dp hd (by decide)) h69I (1) (by omega) (by omega) (1) (by omega) (by omega)) ?_
                            rintro h95 v96 ⟨h95I, h95E, rfl⟩
                            refine ⟨_, rfl, ?_⟩
                            have h95F := h69F.tr (h95E.wk (W' := [17, 18, 22, 23, 95, 51, 65, 79, 93]) (by first | rfl | simp))
                            show pw X d h95 184 96 [some (.ref 16), some (pw_i wt), some (pw_i k34_2), some (pw_i (k34_3 + 0)), some (pw_i k25_4), some (pw_i k34_5)] [] _
                            refine pw_inc E (pc' := 99) (ls' := [some (.ref 16), some (pw_i wt), some (pw_i (k34_2 + 1)), some (pw_i (k34_3 + 0)), some (pw_i k25_4), some (pw_i k34_5)]) rfl rfl rfl rfl ?_
                            refine pw_inc E (pc' := 102) (ls' := [some (.ref 16), some (pw_i wt), some (pw_i (k34_2 + 1)), some (pw_i (k34_3 + 0)), some (pw_i k25_4), some (pw_i (k34_5 + 1))]) rfl rfl rfl rfl ?_
                            refine pw_goto E (pc' := 34) rfl (by decide) ?_
                            exact ih34 _ (by omega) (k34_2 + 1) (k34_3 + 0) (k34_5 + 1) h95 h95I h95F (by omega) (by omega) (by omega) (by omega) (by omega) (by omega) (by omega) rfl
                      · intro hc97
                        change ¬ (x77 = (0 : Int)) at hc97
                        refine pw_ld E (pc' := 67) (st' := [pw_i 1, pw_i k34_3]) rfl (fun _ => rfl) ?_
                        refine pw_goto E (pc' := 71) rfl (by decide) ?_
                        refine pw_add E (pc' := 72) rfl rfl ?_
                        refine pw_nm (fun x98 hx98a hx98b => ?_)
                        refine pw_istn E (pc' := 73) (ls' := [some (.ref 16), some (pw_i wt), some (pw_i k34_2), some (pw_i x98), some (pw_i k25_4), some (pw_i k34_5)]) rfl rfl rfl rfl ?_
                        refine pw_ld E (pc' := 74) (st' := [.ref 16]) rfl (fun _ => rfl) ?_
                        refine pw_ld E (pc' := 75) (st' := [pw_i k34_2, .ref 16]) rfl (fun _ => rfl) ?_
                        refine pw_if E (pc' := 82) rfl (by decide) (by omega) (by omega) ?_ ?_
                        · intro hc99
                          change k34_2 ≠ (0 : Int) at hc99
                          refine pw_ld E (pc' := 83) (st' := [pw_i 0, .ref 16]) rfl (fun _ => rfl) ?_
                          refine pw_ld E (pc' := 84) (st' := [pw_i wt, pw_i 0, .ref 16]) rfl (fun _ => rfl) ?_
                          refine pw_ld E (pc' := 85) (st' := [pw_i 5, pw_i wt, pw_i 0, .ref 16]) rfl (fun _ => rfl) ?_
                          refine pw_if2 E (pc' := 92) rfl (by decide) (by omega) (by omega) (by decide) (by decide) ?_ ?_
                          · intro hc100
                            change wt < (5 : Int) at hc100
                            refine pw_ld E (pc' := 93) (st' := [pw_i 0, pw_i 0, .ref 16]) rfl (fun _ => rfl) ?_
                            obtain ⟨f101l, f101h, -⟩ := pw_obj (c := 0) h69I rfl
                            refine pw_call (m' := 186) (As := [.ref 16, pw_i 0, pw_i 0]) (rest := []) (ls'' := [some (.ref 16), some (pw_i 0), some (pw_i 0), none]) (Nat.le_trans (by decide) hd) E rfl (fun _ => pw_iV rfl rfl rfl rfl (pw_cellI f101h rfl)) (rfl : pm_ent 186 = some (3, 4, 11, 4, pmc_186)) rfl rfl (cm_186 (pw_dp hd (by decide)) h69I (0) (by omega) (by omega) (0) (by omega) (by omega)) ?_
                            rintro h102 v103 ⟨h102I, h102E, rfl⟩
                            refine ⟨_, rfl, ?_⟩
                            have h102F := h69F.tr (h102E.wk (W' := [17, 18, 22, 23, 95, 51, 65, 79, 93]) (by first | rfl | simp))
                            show pw X d h102 184 96 [some (.ref 16), some (pw_i wt), some (pw_i k34_2), some (pw_i x98), some (pw_i k25_4), some (pw_i k34_5)] [] _
                            refine pw_inc E (pc' := 99) (ls' := [some (.ref 16), some (pw_i wt), some (pw_i (k34_2 + 1)), some (pw_i x98), some (pw_i k25_4), some (pw_i k34_5)]) rfl rfl rfl rfl ?_
                            refine pw_inc E (pc' := 102) (ls' := [some (.ref 16), some (pw_i wt), some (pw_i (k34_2 + 1)), some (pw_i x98), some (pw_i k25_4), some (pw_i (k34_5 + 1))]) rfl rfl rfl rfl ?_
                            refine pw_goto E (pc' := 34) rfl (by decide) ?_
                            exact ih34 _ (by omega) (k34_2 + 1) (x98) (k34_5 + 1) h102 h102I h102F (by omega) (by omega) (by omega) (by omega) (by omega) (by omega) (by omega) rfl
                          · intro hc104
                            change ¬ (wt < (5 : Int)) at hc104
                            refine pw_ld E (pc' := 89) (st' := [pw_i 1, pw_i 0, .ref 16]) rfl (fun _ => rfl) ?_
                            refine pw_goto E (pc' := 93) rfl (by decide) ?_
                            obtain ⟨f105l, f105h, -⟩ := pw_obj (c := 0) h69I rfl
                            refine pw_call (m' := 186) (As := [.ref 16, pw_i 0, pw_i 1]) (rest := []) (ls'' := [some (.ref 16), some (pw_i 0), some (pw_i 1), none]) (Nat.le_trans (by decide) hd) E rfl (fun _ => pw_iV rfl rfl rfl rfl (pw_cellI f105h rfl)) (rfl : pm_ent 186 = some (3, 4, 11, 4, pmc_186)) rfl rfl (cm_186 (pw_dp hd (by decide)) h69I (0) (by omega) (by omega) (1) (by omega) (by omega)) ?_
                            rintro h106 v107 ⟨h106I, h106E, rfl⟩
                            refine ⟨_, rfl, ?_⟩
                            have h106F := h69F.tr (h106E.wk (W' := [17, 18, 22, 23, 95, 51, 65, 79, 93]) (by first | rfl | simp))
                            show pw X d h106 184 96 [some (.ref 16), some (pw_i wt), some (pw_i k34_2), some (pw_i x98), some (pw_i k25_4), some (pw_i k34_5)] [] _
                            refine pw_inc E (pc' := 99) (ls' := [some (.ref 16), some (pw_i wt), some (pw_i (k34_2 + 1)), some (pw_i x98), some (pw_i k25_4), some (pw_i k34_5)]) rfl rfl rfl rfl ?_
                            refine pw_inc E (pc' := 102) (ls' := [some (.ref 16), some (pw_i wt), some (pw_i (k34_2 + 1)), some (pw_i x98), some (pw_i k25_4), some (pw_i (k34_5 + 1))]) rfl rfl rfl rfl ?_
                            refine pw_goto E (pc' := 34) rfl (by decide) ?_
                            exact ih34 _ (by omega) (k34_2 + 1) (x98) (k34_5 + 1) h106 h106I h106F (by omega) (by omega) (by omega) (by omega) (by omega) (by omega) (by omega) rfl
                        · intro hc108
                          change ¬ (k34_2 ≠ (0 : Int)) at hc108
                          refine pw_ld E (pc' := 79) (st' := [pw_i 1, .ref 16]) rfl (fun _ => rfl) ?_
                          refine pw_goto E (pc' := 83) rfl (by decide) ?_
                          refine pw_ld E (pc' := 84) (st' := [pw_i wt, pw_i 1, .ref 16]) rfl (fun _ => rfl) ?_
                          refine pw_ld E (pc' := 85) (st' := [pw_i 5, pw_i wt, pw_i 1, .ref 16]) rfl (fun _ => rfl) ?_
                          refine pw_if2 E (pc' := 92) rfl (by decide) (by omega) (by omega) (by decide) (by decide) ?_ ?_
                          · intro hc109
                            change wt < (5 : Int) at hc109
                            refine pw_ld E (pc' := 93) (st' := [pw_i 0, pw_i 1, .ref 16]) rfl (fun _ => rfl) ?_
                            obtain ⟨f110l, f110h, -⟩ := pw_obj (c := 0) h69I rfl
                            refine pw_call (m' := 186) (As := [.ref 16, pw_i 1, pw_i 0]) (rest := []) (ls'' := [some (.ref 16), some (pw_i 1), some (pw_i 0), none]) (Nat.le_trans (by decide) hd) E rfl (fun _ => pw_iV rfl rfl rfl rfl (pw_cellI f110h rfl)) (rfl : pm_ent 186 = some (3, 4, 11, 4, pmc_186)) rfl rfl (cm_186 (pw_dp hd (by decide)) h69I (1) (by omega) (by omega) (0) (by omega) (by omega)) ?_
                            rintro h111 v112 ⟨h111I, h111E, rfl⟩
                            refine ⟨_, rfl, ?_⟩
                            have h111F := h69F.tr (h111E.wk (W' := [17, 18, 22, 23, 95, 51, 65, 79, 93]) (by first | rfl | simp))
                            show pw X d h111 184 96 [some (.ref 16), some (pw_i wt), some (pw_i k34_2), some (pw_i x98), some (pw_i k25_4), some (pw_i k34_5)] [] _
                            refine pw_inc E (pc' := 99) (ls' := [some (.ref 16), some (pw_i wt), some (pw_i (k34_2 + 1)), some (pw_i x98), some (pw_i k25_4), some (pw_i k34_5)]) rfl rfl rfl rfl ?_
                            refine pw_inc E (pc' := 102) (ls' := [some (.ref 16), some (pw_i wt), some (pw_i (k34_2 + 1)), some (pw_i x98), some (pw_i k25_4), some (pw_i (k34_5 + 1))]) rfl rfl rfl rfl ?_
                            refine pw_goto E (pc' := 34) rfl (by decide) ?_
                            exact ih34 _ (by omega) (k34_2 + 1) (x98) (k34_5 + 1) h111 h111I h111F (by omega) (by omega) (by omega) (by omega) (by omega) (by omega) (by omega) rfl
                          · intro hc113
                            change ¬ (wt < (5 : Int)) at hc113
                            refine pw_ld E (pc' := 89) (st' := [pw_i 1, pw_i 1, .ref 16]) rfl (fun _ => rfl) ?_
                            refine pw_goto E (pc' := 93) rfl (by decide) ?_
                            obtain ⟨f114l, f114h, -⟩ := pw_obj (c := 0) h69I rfl
                            refine pw_call (m' := 186) (As := [.ref 16, pw_i 1, pw_i 1]) (rest := []) (ls'' := [some (.ref 16), some (pw_i 1), some (pw_i 1), none]) (Nat.le_trans (by decide) hd) E rfl (fun _ => pw_iV rfl rfl rfl rfl (pw_cellI f114h rfl)) (rfl : pm_ent 186 = some (3, 4, 11, 4, pmc_186)) rfl rfl (cm_186 (pw_dp hd (by decide)) h69I (1) (by omega) (by omega) (1) (by omega) (by omega)) ?_
                            rintro h115 v116 ⟨h115I, h115E, rfl⟩
                            refine ⟨_, rfl, ?_⟩
                            have h115F := h69F.tr (h115E.wk (W' := [17, 18, 22, 23, 95, 51, 65, 79, 93]) (by first | rfl | simp))
                            show pw X d h115 184 96 [some (.ref 16), some (pw_i wt), some (pw_i k34_2), some (pw_i x98), some (pw_i k25_4), some (pw_i k34_5)] [] _
                            refine pw_inc E (pc' := 99) (ls' := [some (.ref 16), some (pw_i wt), some (pw_i (k34_2 + 1)), some (pw_i x98), some (pw_i k25_4), some (pw_i k34_5)]) rfl rfl rfl rfl ?_
                            refine pw_inc E (pc' := 102) (ls' := [some (.ref 16), some (pw_i wt), some (pw_i (k34_2 + 1)), some (pw_i x98), some (pw_i k25_4), some (pw_i (k34_5 + 1))]) rfl rfl rfl rfl ?_
                            refine pw_goto E (pc' := 34) rfl (by decide) ?_
                            exact ih34 _ (by omega) (k34_2 + 1) (x98) (k34_5 + 1) h115 h115I h115F (by omega) (by omega) (by omega) (by omega) (by omega) (by omega) (by omega) rfl
                  · refine pw_aald (b := 90) I34 E (c := 38) (pc' := 49) rfl rfl (by decide) rfl (by decide) (by omega) (by omega) (by rw [hj18]; rfl) rfl ?_
                    refine pw_ld E (pc' := 51) (st' := [pw_i k34_5, .ref 90, .ref 16]) rfl (fun _ => rfl) ?_
                    obtain ⟨f117l, f117h, -⟩ := pw_obj (c := 0) I34 rfl
                    refine pw_call (m' := 183) (As := [.ref 16, .ref 90, pw_i k34_5]) (rest := []) (ls'' := [some (.ref 16), some (.ref 90), some (pw_i k34_5), none, none, none]) (Nat.le_trans (by decide) hd) E rfl (fun _ => pw_iV rfl rfl rfl rfl (pw_cellI f117h rfl)) (rfl : pm_ent 183 = some (3, 6, 11, 1, pmc_183)) rfl rfl (cm_183 (pw_dp hd (by decide)) I34 74 (by unfold pw_Sc; omega) (k34_5) (by omega) (by omega)) ?_
                    rintro h118 v119 ⟨h118I, h118E, x120, rfl, hx120a, hx120b⟩
                    refine ⟨_, rfl, ?_⟩
                    have h118F := E34.tr (h118E.wk (W' := [17, 18, 22, 23, 95, 51, 65, 79, 93]) (by first | rfl | simp))
                    show pw X d h118 184 54 [some (.ref 16), some (pw_i wt), some (pw_i k34_2), some (pw_i k34_3), some (pw_i k25_4), some (pw_i k34_5)] [pw_i x120] _
                    refine pw_if E (pc' := 99) rfl (by decide) (by omega) (by omega) ?_ ?_
                    · intro hc121
                      change x120 = (0 : Int) at hc121
                      refine pw_inc E (pc' := 102) (ls' := [some (.ref 16), some (pw_i wt), some (pw_i k34_2), some (pw_i k34_3), some (pw_i k25_4), some (pw_i (k34_5 + 1))]) rfl rfl rfl rfl ?_
                      refine pw_goto E (pc' := 34) rfl (by decide) ?_
                      exact ih34 _ (by omega) (k34_2) (k34_3) (k34_5 + 1) h118 h118I h118F (by omega) (by omega) (by omega) (by omega) (by omega) (by omega) (by omega) rfl
                    · intro hc122
                      change ¬ (x120 = (0 : Int)) at hc122
                      refine pw_ld E (pc' := 58) (st' := [pw_i k34_3]) rfl (fun _ => rfl) ?_
                      refine pw_ld E (pc' := 59) (st' := [.ref 16, pw_i k34_3]) rfl (fun _ => rfl) ?_
                      refine pw_ld E (pc' := 60) (st' := [pw_i wt, .ref 16, pw_i k34_3]) rfl (fun _ => rfl) ?_
                      obtain ⟨f123l, f123h, -⟩ := pw_obj (c := 0) h118I rfl
                      refine pw_call (m' := 185) (As := [.ref 16, pw_i wt]) (rest := [pw_i k34_3]) (ls'' := [some (.ref 16), some (pw_i wt)]) (Nat.le_trans (by decide) hd) E rfl (fun _ => pw_iV rfl rfl rfl rfl (pw_cellI f123h rfl)) (rfl : pm_ent 185 = some (2, 2, 11, 1, pmc_185)) rfl rfl (cm_185 (pw_dp hd (by decide)) h118I (wt) (by omega) (by omega)) ?_
                      rintro u125 v124 ⟨rfl, x126, rfl, hx126a, hx126b⟩
                      refine ⟨_, rfl, ?_⟩
                      show pw X d h118 184 63 [some (.ref 16), some (pw_i wt), some (pw_i k34_2), some (pw_i k34_3), some (pw_i k25_4), some (pw_i k34_5)] [pw_i x126, pw_i k34_3] _
                      refine pw_if E (pc' := 70) rfl (by decide) (by omega) (by omega) ?_ ?_
                      · intro hc127
                        change x126 = (0 : Int) at hc127
                        refine pw_ld E (pc' := 71) (st' := [pw_i 0, pw_i k34_3]) rfl (fun _ => rfl) ?_
                        refine pw_add E (pc' := 72) rfl rfl ?_
                        refine pw_istn E (pc' := 73) (ls' := [some (.ref 16), some (pw_i wt), some (pw_i k34_2), some (pw_i (k34_3 + 0)), some (pw_i k25_4), some (pw_i k34_5)]) rfl rfl rfl rfl ?_
                        refine pw_ld E (pc' := 74) (st' := [.ref 16]) rfl (fun _ => rfl) ?_
                        refine pw_ld E (pc' := 75) (st' := [pw_i k34_2, .ref 16]) rfl (fun _ => rfl) ?_
                        refine pw_if E (pc' := 82) rfl (by decide) (by omega) (by omega) ?_ ?_
                        · intro hc128
                          change k34_2 ≠ (0 : Int) at hc128
                          refine pw_ld E (pc' := 83) (st' := [pw_i 0, .ref 16]) rfl (fun _ => rfl) ?_
                          refine pw_ld E (pc' := 84) (st' := [pw_i wt, pw_i 0, .ref 16]) rfl (fun _ => rfl) ?_
                          refine pw_ld E (pc' := 85) (st' := [pw_i 5, pw_i wt, pw_i 0, .ref 16]) rfl (fun _ => rfl) ?_
                          refine pw_if2 E (pc' := 92) rfl (by decide) (by omega) (by omega) (by decide) (by decide) ?_ ?_
                          · intro hc129
                            change wt < (5 : Int) at hc129
                            refine pw_ld E (pc' := 93) (st' := [pw_i 0, pw_i 0, .ref 16]) rfl (fun _ => rfl) ?_
                            obtain ⟨f130l, f130h, -⟩ := pw_obj (c := 0) h118I rfl
                            refine pw_call (m' := 186) (As := [.ref 16, pw_i 0, pw_i 0]) (rest := []) (ls'' := [some (.ref 16), some (pw_i 0), some (pw_i 0), none]) (Nat.le_trans (by decide) hd) E rfl (fun _ => pw_iV rfl rfl rfl rfl (pw_cellI f130h rfl)) (rfl : pm_ent 186 = some (3, 4, 11, 4, pmc_186)) rfl rfl (cm_186 (pw_dp hd (by decide)) h118I (0) (by omega) (by omega) (0) (by omega) (by omega)) ?_
                            rintro h131 v132 ⟨h131I, h131E, rfl⟩
                            refine ⟨_, rfl, ?_⟩
                            have h131F := h118F.tr (h131E.wk (W' := [17, 18, 22, 23, 95, 51, 65, 79, 93]) (by first | rfl | simp))
                            show pw X d h131 184 96 [some (.ref 16), some (pw_i wt), some (pw_i k34_2), some (pw_i (k34_3 + 0)), some (pw_i k25_4), some (pw_i k34_5)] [] _
                            refine pw_inc E (pc' := 99) (ls' := [some (.ref 16), some (pw_i wt), some (pw_i (k34_2 + 1)), some (pw_i (k34_3 + 0)), some (pw_i k25_4), some (pw_i k34_5)]) rfl rfl rfl rfl ?_
                            refine pw_inc E (pc' := 102) (ls' := [some (.ref 16), some (pw_i wt), some (pw_i (k34_2 + 1)), some (pw_i (k34_3 + 0)), some (pw_i k25_4), some (pw_i (k34_5 + 1))]) rfl rfl rfl rfl ?_
                            refine pw_goto E (pc' := 34) rfl (by decide) ?_
                            exact ih34 _ (by omega) (k34_2 + 1) (k34_3 + 0) (k34_5 + 1) h131 h131I h131F (by omega) (by omega) (by omega) (by omega) (by omega) (by omega) (by omega) rfl
                          · intro hc133
                            change ¬ (wt < (5 : Int)) at hc133
                            refine pw_ld E (pc' := 89) (st' := [pw_i 1, pw_i 0, .ref 16]) rfl (fun _ => rfl) ?_
                            refine pw_goto E (pc' := 93) rfl (by decide) ?_
                            obtain ⟨f134l, f134h, -⟩ := pw_obj (c := 0) h118I rfl
                            refine pw_call (m' := 186) (As := [.ref 16, pw_i 0, pw_i 1]) (rest := []) (ls'' := [some (.ref 16), some (pw_i 0), some (pw_i 1), none]) (Nat.le_trans (by decide) hd) E rfl (fun _ => pw_iV rfl rfl rfl rfl (pw_cellI f134h rfl)) (rfl : pm_ent 186 = some (3, 4, 11, 4, pmc_186)) rfl rfl (cm_186 (pw_dp hd (by decide)) h118I (0) (by omega) (by omega) (1) (by omega) (by omega)) ?_
                            rintro h135 v136 ⟨h135I, h135E, rfl⟩
                            refine ⟨_, rfl, ?_⟩
                            have h135F := h118F.tr (h135E.wk (W' := [17, 18, 22, 23, 95, 51, 65, 79, 93]) (by first | rfl | simp))
                            show pw X d h135 184 96 [some (.ref 16), some (pw_i wt), some (pw_i k34_2), some (pw_i (k34_3 + 0)), some (pw_i k25_4), some (pw_i k34_5)] [] _
                            refine pw_inc E (pc' := 99) (ls' := [some (.ref 16), some (pw_i wt), some (pw_i (k34_2 + 1)), some (pw_i (k34_3 + 0)), some (pw_i k25_4), some (pw_i k34_5)]) rfl rfl rfl rfl ?_
                            refine pw_inc E (pc' := 102) (ls' := [some (.ref 16), some (pw_i wt), some (pw_i (k34_2 + 1)), some (pw_i (k34_3 + 0)), some (pw_i k25_4), some (pw_i (k34_5 + 1))]) rfl rfl rfl rfl ?_
                            refine pw_goto E (pc' := 34) rfl (by decide) ?_
                            exact ih34 _ (by omega) (k34_2 + 1) (k34_3 + 0) (k34_5 + 1) h135 h135I h135F (by omega) (by omega) (by omega) (by omega) (by omega) (by omega) (by omega) rfl
                        · intro hc137
                          change ¬ (k34_2 ≠ (0 : Int)) at hc137
                          refine pw_ld E (pc' := 79) (st' := [pw_i 1, .ref 16]) rfl (fun _ => rfl) ?_
                          refine pw_goto E (pc' := 83) rfl (by decide) ?_
                          refine pw_ld E (pc' := 84) (st' := [pw_i wt, pw_i 1, .ref 16]) rfl (fun _ => rfl) ?_
                          refine pw_ld E (pc' := 85) (st' := [pw_i 5, pw_i wt, pw_i 1, .ref 16]) rfl (fun _ => rfl) ?_
                          refine pw_if2 E (pc' := 92) rfl (by decide) (by omega) (by omega) (by decide) (by decide) ?_ ?_
                          · intro hc138
                            change wt < (5 : Int) at hc138
                            refine pw_ld E (pc' := 93) (st' := [pw_i 0, pw_i 1, .ref 16]) rfl (fun _ => rfl) ?_
                            obtain ⟨f139l, f139h, -⟩ := pw_obj (c := 0) h118I rfl
                            refine pw_call (m' := 186) (As := [.ref 16, pw_i 1, pw_i 0]) (rest := []) (ls'' := [some (.ref 16), some (pw_i 1), some (pw_i 0), none]) (Nat.le_trans (by decide) hd) E rfl (fun _ => pw_iV rfl rfl rfl rfl (pw_cellI f139h rfl)) (rfl : pm_ent 186 = some (3, 4, 11, 4, pmc_186)) rfl rfl (cm_186 (pw_dp hd (by decide)) h118I (1) (by omega) (by omega) (0) (by omega) (by omega)) ?_
                            rintro h140 v141 ⟨h140I, h140E, rfl⟩
                            refine ⟨_, rfl, ?_⟩
                            have h140F := h118F.tr (h140E.wk (W' := [17, 18, 22, 23, 95, 51, 65, 79, 93]) (by first | rfl | simp))
                            show pw X d h140 184 96 [some (.ref 16), some (pw_i wt), some (pw_i k34_2), some (pw_i (k34_3 + 0)), some (pw_i k25_4), some (pw_i k34_5)] [] _
                            refine pw_inc E (pc' := 99) (ls' := [some (.ref 16), some (pw_i wt), some (pw_i (k34_2 + 1)), some (pw_i (k34_3 + 0)), some (pw_i k25_4), some (pw_i k34_5)]) rfl rfl rfl rfl ?_
                            refine pw_inc E (pc' := 102) (ls' := [some (.ref 16), some (pw_i wt), some (pw_i (k34_2 + 1)), some (pw_i (k34_3 + 0)), some (pw_i k25_4), some (pw_i (k34_5 + 1))]) rfl rfl rfl rfl ?_
                            refine pw_goto E (pc' := 34) rfl (by decide) ?_
                            exact ih34 _ (by omega) (k34_2 + 1) (k34_3 + 0) (k34_5 + 1) h140 h140I h140F (by omega) (by omega) (by omega) (by omega) (by omega) (by omega) (by omega) rfl
                          · intro hc142
                            change ¬ (wt < (5 : Int)) at hc142
                            refine pw_ld E (pc' := 89) (st' := [pw_i 1, pw_i 1, .ref 16]) rfl (fun _ => rfl) ?_
                            refine pw_goto E (pc' := 93) rfl (by decide) ?_
                            obtain ⟨f143l, f143h, -⟩ := pw_obj (c := 0) h118I rfl
                            refine pw_call (m' := 186) (As := [.ref 16, pw_i 1, pw_i 1]) (rest := []) (ls'' := [some (.ref 16), some (pw_i 1), some (pw_i 1), none]) (Nat.le_trans (by decide) hd) E rfl (fun _ => pw_iV rfl rfl rfl rfl (pw_cellI f143h rfl)) (rfl : pm_ent 186 = some (3, 4, 11, 4, pmc_186)) rfl rfl (cm_186 (pw_dp hd (by decide)) h118I (1) (by omega) (by omega) (1) (by omega) (by omega)) ?_
                            rintro h144 v145 ⟨h144I, h144E, rfl⟩
                            refine ⟨_, rfl, ?_⟩
                            have h144F := h118F.tr (h144E.wk (W' := [17, 18, 22, 23, 95, 51, 65, 79, 93]) (by first | rfl | simp))
                            show pw X d h144 184 96 [some (.ref 16), some (pw_i wt), some (pw_i k34_2), some (pw_i (k34_3 + 0)), some (pw_i k25_4), some (pw_i k34_5)] [] _
                            refine pw_inc E (pc' := 99) (ls' := [some (.ref 16), some (pw_i wt), some (pw_i (k34_2 + 1)), some (pw_i (k34_3 + 0)), some (pw_i k25_4), some (pw_i k34_5)]) rfl rfl rfl rfl ?_
                            refine pw_inc E (pc' := 102) (ls' := [some (.ref 16), some (pw_i wt), some (pw_i (k34_2 + 1)), some (pw_i (k34_3 + 0)), some (pw_i k25_4), some (pw_i (k34_5 + 1))]) rfl rfl rfl rfl ?_
                            refine pw_goto E (pc' := 34) rfl (by decide) ?_
                            exact ih34 _ (by omega) (k34_2 + 1) (k34_3 + 0) (k34_5 + 1) h144 h144I h144F (by omega) (by omega) (by omega) (by omega) (by omega) (by omega) (by omega) rfl
                      · intro hc146
                        change ¬ (x126 = (0 : Int)) at hc146
                        refine pw_ld E (pc' := 67) (st' := [pw_i 1, pw_i k34_3]) rfl (fun _ => rfl) ?_
                        refine pw_goto E (pc' := 71) rfl (by decide) ?_
                        refine pw_add E (pc' := 72) rfl rfl ?_
                        refine pw_nm (fun x147 hx147a hx147b => ?_)
                        refine pw_istn E (pc' := 73) (ls' := [some (.ref 16), some (pw_i wt), some (pw_i k34_2), some (pw_i x147), some (pw_i k25_4), some (pw_i k34_5)]) rfl rfl rfl rfl ?_
                        refine pw_ld E (pc' := 74) (st' := [.ref 16]) rfl (fun _ => rfl) ?_
                        refine pw_ld E (pc' := 75) (st' := [pw_i k34_2, .ref 16]) rfl (fun _ => rfl) ?_
                        refine pw_if E (pc' := 82) rfl (by decide) (by omega) (by omega) ?_ ?_
                        · intro hc148
                          change k34_2 ≠ (0 : Int) at hc148
                          refine pw_ld E (pc' := 83) (st' := [pw_i 0, .ref 16]) rfl (fun _ => rfl) ?_
                          refine pw_ld E (pc' := 84) (st' := [pw_i wt, pw_i 0, .ref 16]) rfl (fun _ => rfl) ?_
                          refine pw_ld E (pc' := 85) (st' := [pw_i 5, pw_i wt, pw_i 0, .ref 16]) rfl (fun _ => rfl) ?_
                          refine pw_if2 E (pc' := 92) rfl (by decide) (by omega) (by omega) (by decide) (by decide) ?_ ?_
                          · intro hc149
                            change wt < (5 : Int) at hc149
                            refine pw_ld E (pc' := 93) (st' := [pw_i 0, pw_i 0, .ref 16]) rfl (fun _ => rfl) ?_
                            obtain ⟨f150l, f150h, -⟩ := pw_obj (c := 0) h118I rfl
                            refine pw_call (m' := 186) (As := [.ref 16, pw_i 0, pw_i 0]) (rest := []) (ls'' := [some (.ref 16), some (pw_i 0), some (pw_i 0), none]) (Nat.le_trans (by decide) hd) E rfl (fun _ => pw_iV rfl rfl rfl rfl (pw_cellI f150h rfl)) (rfl : pm_ent 186 = some (3, 4, 11, 4, pmc_186)) rfl rfl (cm_186 (pw_dp hd (by decide)) h118I (0) (by omega) (by omega) (0) (by omega) (by omega)) ?_
                            rintro h151 v152 ⟨h151I, h151E, rfl⟩
                            refine ⟨_, rfl, ?_⟩
                            have h151F := h118F.tr (h151E.wk (W' := [17, 18, 22, 23, 95, 51, 65, 79, 93]) (by first | rfl | simp))
                            show pw X d h151 184 96 [some (.ref 16), some (pw_i wt), some (pw_i k34_2), some (pw_i x147), some (pw_i k25_4), some (pw_i k34_5)] [] _
                            refine pw_inc E (pc' := 99) (ls' := [some (.ref 16), some (pw_i wt), some (pw_i (k34_2 + 1)), some (pw_i x147), some (pw_i k25_4), some (pw_i k34_5)]) rfl rfl rfl rfl ?_
                            refine pw_inc E (pc' := 102) (ls' := [some (.ref 16), some (pw_i wt), some (pw_i (k34_2 + 1)), some (pw_i x147), some (pw_i k25_4), some (pw_i (k34_5 + 1))]) rfl rfl rfl rfl ?_
                            refine pw_goto E (pc' := 34) rfl (by decide) ?_
                            exact ih34 _ (by omega) (k34_2 + 1) (x147) (k34_5 + 1) h151 h151I h151F (by omega) (by omega) (by omega) (by omega) (by omega) (by omega) (by omega) rfl
                          · intro hc153
                            change ¬ (wt < (5 : Int)) at hc153
                            refine pw_ld E (pc' := 89) (st' := [pw_i 1, pw_i 0, .ref 16]) rfl (fun _ => rfl) ?_
                            refine pw_goto E (pc' := 93) rfl (by decide) ?_
                            obtain ⟨f154l, f154h, -⟩ := pw_obj (c := 0) h118I rfl
                            refine pw_call (m' := 186) (As := [.ref 16, pw_i 0, pw_i 1]) (rest := []) (ls'' := [some (.ref 16), some (pw_i 0), some (pw_i 1), none]) (Nat.le_trans (by decide) hd) E rfl (fun _ => pw_iV rfl rfl rfl rfl (pw_cellI f154h rfl)) (rfl : pm_ent 186 = some (3, 4, 11, 4, pmc_186)) rfl rfl (cm_186 (pw_dp hd (by decide)) h118I (0) (by omega) (by omega) (1) (by omega) (by omega)) ?_
                            rintro h155 v156 ⟨h155I, h155E, rfl⟩
                            refine ⟨_, rfl, ?_⟩
                            have h155F := h118F.tr (h155E.wk (W' := [17, 18, 22, 23, 95, 51, 65, 79, 93]) (by first | rfl | simp))
                            show pw X d h155 184 96 [some (.ref 16), some (pw_i wt), some (pw_i k34_2), some (pw_i x147), some (pw_i k25_4), some (pw_i k34_5)] [] _
                            refine pw_inc E (pc' := 99) (ls' := [some (.ref 16), some (pw_i wt), some (pw_i (k34_2 + 1)), some (pw_i x147), some (pw_i k25_4), some (pw_i k34_5)]) rfl rfl rfl rfl ?_
                            refine pw_inc E (pc' := 102) (ls' := [some (.ref 16), some (pw_i wt), some (pw_i (k34_2 + 1)), some (pw_i x147), some (pw_i k25_4), some (pw_i (k34_5 + 1))]) rfl rfl rfl rfl ?_
                            refine pw_goto E (pc' := 34) rfl (by decide) ?_
                            exact ih34 _ (by omega) (k34_2 + 1) (x147) (k34_5 + 1) h155 h155I h155F (by omega) (by omega) (by omega) (by omega) (by omega) (by omega) (by omega) rfl
                        · intro hc157
                          change ¬ (k34_2 ≠ (0 : Int)) at hc157
                          refine pw_ld E (pc' := 79) (st' := [pw_i 1, .ref 16]) rfl (fun _ => rfl) ?_
                          refine pw_goto E (pc' := 83) rfl (by decide) ?_
                          refine pw_ld E (pc' := 84) (st' := [pw_i wt, pw_i 1, .ref 16]) rfl (fun _ => rfl) ?_
                          refine pw_ld E (pc' := 85) (st' := [pw_i 5, pw_i wt, pw_i 1, .ref 16]) rfl (fun _ => rfl) ?_
                          refine pw_if2 E (pc' := 92) rfl (by decide) (by omega) (by omega) (by decide) (by decide) ?_ ?_
                          · intro hc158
                            change wt < (5 : Int) at hc158
                            refine pw_ld E (pc' := 93) (st' := [pw_i 0, pw_i 1, .ref 16]) rfl (fun _ => rfl) ?_
                            obtain ⟨f159l, f159h, -⟩ := pw_obj (c := 0) h118I rfl
                            refine pw_call (m' := 186) (As := [.ref 16, pw_i 1, pw_i 0]) (rest := []) (ls'' := [some (.ref 16), some (pw_i 1), some (pw_i 0), none]) (Nat.le_trans (by decide) hd) E rfl (fun _ => pw_iV rfl rfl rfl rfl (pw_cellI f159h rfl)) (rfl : pm_ent 186 = some (3, 4, 11, 4, pmc_186)) rfl rfl (cm_186 (pw_dp hd (by decide)) h118I (1) (by omega) (by omega) (0) (by omega) (by omega)) ?_
                            rintro h160 v161 ⟨h160I, h160E, rfl⟩
                            refine ⟨_, rfl, ?_⟩
                            have h160F := h118F.tr (h160E.wk (W' := [17, 18, 22, 23, 95, 51, 65, 79, 93]) (by first | rfl | simp))
                            show pw X d h160 184 96 [some (.ref 16), some (pw_i wt), some (pw_i k34_2), some (pw_i x147), some (pw_i k25_4), some (pw_i k34_5)] [] _
                            refine pw_inc E (pc' := 99) (ls' := [some (.ref 16), some (pw_i wt), some (pw_i (k34_2 + 1)), some (pw_i x147), some (pw_i k25_4), some (pw_i k34_5)]) rfl rfl rfl rfl ?_
                            refine pw_inc E (pc' := 102) (ls' := [some (.ref 16), some (pw_i wt), some (pw_i (k34_2 + 1)), some (pw_i x147), some (pw_i k25_4), some (pw_i (k34_5 + 1))]) rfl rfl rfl rfl ?_
                            refine pw_goto E (pc' := 34) rfl (by decide) ?_
                            exact ih34 _ (by omega) (k34_2 + 1) (x147) (k34_5 + 1) h160 h160I h160F (by omega) (by omega) (by omega) (by omega) (by omega) (by omega) (by omega) rfl
                          · intro hc162
                            change ¬ (wt < (5 : Int)) at hc162
                            refine pw_ld E (pc' := 89) (st' := [pw_i 1, pw_i 1, .ref 16]) rfl (fun _ => rfl) ?_
                            refine pw_goto E (pc' := 93) rfl (by decide) ?_
                            obtain ⟨f163l, f163h, -⟩ := pw_obj (c := 0) h118I rfl
                            refine pw_call (m' := 186) (As := [.ref 16, pw_i 1, pw_i 1]) (rest := []) (ls'' := [some (.ref 16), some (pw_i 1), some (pw_i 1), none]) (Nat.le_trans (by decide) hd) E rfl (fun _ => pw_iV rfl rfl rfl rfl (pw_cellI f163h rfl)) (rfl : pm_ent 186 = some (3, 4, 11, 4, pmc_186)) rfl rfl (cm_186 (pw_dp hd (by decide)) h118I (1) (by omega) (by omega) (1) (by omega) (by omega)) ?_
                            rintro h164 v165 ⟨h164I, h164E, rfl⟩
                            refine ⟨_, rfl, ?_⟩
                            have h164F := h118F.tr (h164E.wk (W' := [17, 18, 22, 23, 95, 51, 65, 79, 93]) (by first | rfl | simp))
                            show pw X d h164 184 96 [some (.ref 16), some (pw_i wt), some (pw_i k34_2), some (pw_i x147), some (pw_i k25_4), some (pw_i k34_5)] [] _
                            refine pw_inc E (pc' := 99) (ls' := [some (.ref 16), some (pw_i wt), some (pw_i (k34_2 + 1)), some (pw_i x147), some (pw_i k25_4), some (pw_i k34_5)]) rfl rfl rfl rfl ?_
                            refine pw_inc E (pc' := 102) (ls' := [some (.ref 16), some (pw_i wt), some (pw_i (k34_2 + 1)), some (pw_i x147), some (pw_i k25_4), some (pw_i (k34_5 + 1))]) rfl rfl rfl rfl ?_
                            refine pw_goto E (pc' := 34) rfl (by decide) ?_
                            exact ih34 _ (by omega) (k34_2 + 1) (x147) (k34_5 + 1) h164 h164I h164F (by omega) (by omega) (by omega) (by omega) (by omega) (by omega) (by omega) rfl
                  · refine pw_aald (b := 104) I34 E (c := 38) (pc' := 49) rfl rfl (by decide) rfl (by decide) (by omega) (by omega) (by rw [hj18]; rfl) rfl ?_
                    refine pw_ld E (pc' := 51) (st' := [pw_i k34_5, .ref 104, .ref 16]) rfl (fun _ => rfl) ?_
                    obtain ⟨f166l, f166h, -⟩ := pw_obj (c := 0) I34 rfl
                    refine pw_call (m' := 183) (As := [.ref 16, .ref 104, pw_i k34_5]) (rest := []) (ls'' := [some (.ref 16), some (.ref 104), some (pw_i k34_5), none, none, none]) (Nat.le_trans (by decide) hd) E rfl (fun _ => pw_iV rfl rfl rfl rfl (pw_cellI f166h rfl)) (rfl : pm_ent 183 = some (3, 6, 11, 1, pmc_183)) rfl rfl (cm_183 (pw_dp hd (by decide)) I34 88 (by unfold pw_Sc; omega) (k34_5) (by omega) (by omega)) ?_
                    rintro h167 v168 ⟨h167I, h167E, x169, rfl, hx169a, hx169b⟩
                    refine ⟨_, rfl, ?_⟩
                    have h167F := E34.tr (h167E.wk (W' := [17, 18, 22, 23, 95, 51, 65, 79, 93]) (by first | rfl | simp))
                    show pw X d h167 184 54 [some (.ref 16), some (pw_i wt), some (pw_i k34_2), some (pw_i k34_3), some (pw_i k25_4), some (pw_i k34_5)] [pw_i x169] _
                    refine pw_if E (pc' := 99) rfl (by decide) (by omega) (by omega) ?_ ?_
                    · intro hc170
                      change x169 = (0 : Int) at hc170
                      refine pw_inc E (pc' := 102) (ls' := [some (.ref 16), some (pw_i wt), some (pw_i k34_2), some (pw_i k34_3), some (pw_i k25_4), some (pw_i (k34_5 + 1))]) rfl rfl rfl rfl ?_
                      refine pw_goto E (pc' := 34) rfl (by decide) ?_
                      exact ih34 _ (by omega) (k34_2) (k34_3) (k34_5 + 1) h167 h167I h167F (by omega) (by omega) (by omega) (by omega) (by omega) (by omega) (by omega) rfl
                    · intro hc171
                      change ¬ (x169 = (0 : Int)) at hc171
                      refine pw_ld E (pc' := 58) (st' := [pw_i k34_3]) rfl (fun _ => rfl) ?_
                      refine pw_ld E (pc' := 59) (st' := [.ref 16, pw_i k34_3]) rfl (fun _ => rfl) ?_
                      refine pw_ld E (pc' := 60) (st' := [pw_i wt, .ref 16, pw_i k34_3]) rfl (fun _ => rfl) ?_
                      obtain ⟨f172l, f172h, -⟩ := pw_obj (c := 0) h167I rfl
                      refine pw_call (m' := 185) (As := [.ref 16, pw_i wt]) (rest := [pw_i k34_3]) (ls'' := [some (.ref 16), some (pw_i wt)]) (Nat.le_trans (by decide) hd) E rfl (fun _ => pw_iV rfl rfl rfl rfl (pw_cellI f172h rfl)) (rfl : pm_ent 185 = some (2, 2, 11, 1, pmc_185)) rfl rfl (cm_185 (pw_dp hd (by decide)) h167I (wt) (by omega) (by omega)) ?_
                      rintro u174 v173 ⟨rfl, x175, rfl, hx175a, hx175b⟩
                      refine ⟨_, rfl, ?_⟩
                      show pw X d h167 184 63 [some (.ref 16), some (pw_i wt), some (pw_i k34_2), some (pw_i k34_3), some (pw_i k25_4), some (pw_i k34_5)] [pw_i x175, pw_i k34_3] _
                      refine pw_if E (pc' := 70) rfl (by decide) (by omega) (by omega) ?_ ?_
                      · intro hc176
                        change x175 = (0 : Int) at hc176
                        refine pw_ld E (pc' := 71) (st' := [pw_i 0, pw_i k34_3]) rfl (fun _ => rfl) ?_
                        refine pw_add E (pc' := 72) rfl rfl ?_
                        refine pw_istn E (pc' := 73) (ls' := [some (.ref 16), some (pw_i wt), some (pw_i k34_2), some (pw_i (k34_3 + 0)), some (pw_i k25_4), some (pw_i k34_5)]) rfl rfl rfl rfl ?_
                        refine pw_ld E (pc' := 74) (st' := [.ref 16]) rfl (fun _ => rfl) ?_
                        refine pw_ld E (pc' := 75) (st' := [pw_i k34_2, .ref 16]) rfl (fun _ => rfl) ?_
                        refine pw_if E (pc' := 82) rfl (by decide) (by omega) (by omega) ?_ ?_
                        · intro hc177
                          change k34_2 ≠ (0 : Int) at hc177
                          refine pw_ld E (pc' := 83) (st' := [pw_i 0, .ref 16]) rfl (fun _ => rfl) ?_
                          refine pw_ld E (pc' := 84) (st' := [pw_i wt, pw_i 0, .ref 16]) rfl (fun _ => rfl) ?_
                          refine pw_ld E (pc' := 85) (st' := [pw_i 5, pw_i wt, pw_i 0, .ref 16]) rfl (fun _ => rfl) ?_
                          refine pw_if2 E (pc' := 92) rfl (by decide) (by omega) (by omega) (by decide) (by decide) ?_ ?_
                          · intro hc178
                            change wt < (5 : Int) at hc178
                            refine pw_ld E (pc' := 93) (st' := [pw_i 0, pw_i 0, .ref 16]) rfl (fun _ => rfl) ?_
                            obtain ⟨f179l, f179h, -⟩ := pw_obj (c := 0) h167I rfl
                            refine pw_call (m' := 186) (As := [.ref 16, pw_i 0, pw_i 0]) (rest := []) (ls'' := [some (.ref 16), some (pw_i 0), some (pw_i 0), none]) (Nat.le_trans (by decide) hd) E rfl (fun _ => pw_iV rfl rfl rfl rfl (pw_cellI f179h rfl)) (rfl : pm_ent 186 = some (3, 4, 11, 4, pmc_186)) rfl rfl (cm_186 (pw_dp hd (by decide)) h167I (0) (by omega) (by omega) (0) (by omega) (by omega)) ?_
                            rintro h180 v181 ⟨h180I, h180E, rfl⟩
                            refine ⟨_, rfl, ?_⟩
                            have h180F := h167F.tr (h180E.wk (W' := [17, 18, 22, 23, 95, 51, 65, 79, 93]) (by first | rfl | simp))
                            show pw X d h180 184 96 [some (.ref 16), some (pw_i wt), some (pw_i k34_2), some (pw_i (k34_3 + 0)), some (pw_i k25_4), some (pw_i k34_5)] [] _
                            refine pw_inc E (pc' := 99) (ls' := [some (.ref 16), some (pw_i wt), some (pw_i (k34_2 + 1)), some (pw_i (k34_3 + 0)), some (pw_i k25_4), some (pw_i k34_5)]) rfl rfl rfl rfl ?_
                            refine pw_inc E (pc' := 102) (ls' := [some (.ref 16), some (pw_i wt), some (pw_i (k34_2 + 1)), some (pw_i (k34_3 + 0)), some (pw_i k25_4), some (pw_i (k34_5 + 1))]) rfl rfl rfl rfl ?_
                            refine pw_goto E (pc' := 34) rfl (by decide) ?_
                            exact ih34 _ (by omega) (k34_2 + 1) (k34_3 + 0) (k34_5 + 1) h180 h180I h180F (by omega) (by omega) (by omega) (by omega) (by omega) (by omega) (by omega) rfl
                          · intro hc182
                            change ¬ (wt < (5 : Int)) at hc182
                            refine pw_ld E (pc' := 89) (st' := [pw_i 1, pw_i 0, .ref 16]) rfl (fun _ => rfl) ?_
                            refine pw_goto E (pc' := 93) rfl (by decide) ?_
                            obtain ⟨f183l, f183h, -⟩ := pw_obj (c := 0) h167I rfl
                            refine pw_call (m' := 186) (As := [.ref 16, pw_i 0, pw_i 1]) (rest := []) (ls'' := [some (.ref 16), some (pw_i 0), some (pw_i 1), none]) (Nat.le_trans (by decide) hd) E rfl (fun _ => pw_iV rfl rfl rfl rfl (pw_cellI f183h rfl)) (rfl : pm_ent 186 = some (3, 4, 11, 4, pmc_186)) rfl rfl (cm_186 (pw_dp hd (by decide)) h167I (0) (by omega) (by omega) (1) (by omega) (by omega)) ?_
                            rintro h184 v185 ⟨h184I, h184E, rfl⟩
                            refine ⟨_, rfl, ?_⟩
                            have h184F := h167F.tr (h184E.wk (W' := [17, 18, 22, 23, 95, 51, 65, 79, 93]) (by first | rfl | simp))
                            show pw X d h184 184 96 [some (.ref 16), some (pw_i wt), some (pw_i k34_2), some (pw_i (k34_3 + 0)), some (pw_i k25_4), some (pw_i k34_5)] [] _
                            refine pw_inc E (pc' := 99) (ls' := [some (.ref 16), some (pw_i wt), some (pw_i (k34_2 + 1)), some (pw_i (k34_3 + 0)), some (pw_i k25_4), some (pw_i k34_5)]) rfl rfl rfl rfl ?_
                            refine pw_inc E (pc' := 102) (ls' := [some (.ref 16), some (pw_i wt), some (pw_i (k34_2 + 1)), some (pw_i (k34_3 + 0)), some (pw_i k25_4), some (pw_i (k34_5 + 1))]) rfl rfl rfl rfl ?_
                            refine pw_goto E (pc' := 34) rfl (by decide) ?_
                            exact ih34 _ (by omega) (k34_2 + 1) (k34_3 + 0) (k34_5 + 1) h184 h184I h184F (by omega) (by omega) (by omega) (by omega) (by omega) (by omega) (by omega) rfl
                        · intro hc186
                          change ¬ (k34_2 ≠ (0 : Int)) at hc186
                          refine pw_ld E (pc' := 79) (st' := [pw_i 1, .ref 16]) rfl (fun _ => rfl) ?_
                          refine pw_goto E (pc' := 83) rfl (by decide) ?_
                          refine pw_ld E (pc' := 84) (st' := [pw_i wt, pw_i 1, .ref 16]) rfl (fun _ => rfl) ?_
                          refine pw_ld E (pc' := 85) (st' := [pw_i 5, pw_i wt, pw_i 1, .ref 16]) rfl (fun _ => rfl) ?_
                          refine pw_if2 E (pc' := 92) rfl (by decide) (by omega) (by omega) (by decide) (by decide) ?_ ?_
                          · intro hc187
                            change wt < (5 : Int) at hc187
                            refine pw_ld E (pc' := 93) (st' := [pw_i 0, pw_i 1, .ref 16]) rfl (fun _ => rfl) ?_
                            obtain ⟨f188l, f188h, -⟩ := pw_obj (c := 0) h167I rfl
                            refine pw_call (m' := 186) (As := [.ref 16, pw_i 1, pw_i 0]) (rest := []) (ls'' := [some (.ref 16), some (pw_i 1), some (pw_i 0), none]) (Nat.le_trans (by decide) hd) E rfl (fun _ => pw_iV rfl rfl rfl rfl (pw_cellI f188h rfl)) (rfl : pm_ent 186 = some (3, 4, 11, 4, pmc_186)) rfl rfl (cm_186 (pw_dp hd (by decide)) h167I (1) (by omega) (by omega) (0) (by omega) (by omega)) ?_
                            rintro h189 v190 ⟨h189I, h189E, rfl⟩
                            refine ⟨_, rfl, ?_⟩
                            have h189F := h167F.tr (h189E.wk (W' := [17, 18, 22, 23, 95, 51, 65, 79, 93]) (by first | rfl | simp))
                            show pw X d h189 184 96 [some (.ref 16), some (pw_i wt), some (pw_i k34_2), some (pw_i (k34_3 + 0)), some (pw_i k25_4), some (pw_i k34_5)] [] _
                            refine pw_inc E (pc' := 99) (ls' := [some (.ref 16), some (pw_i wt), some (pw_i (k34_2 + 1)), some (pw_i (k34_3 + 0)), some (pw_i k25_4), some (pw_i k34_5)]) rfl rfl rfl rfl ?_
                            refine pw_inc E (pc' := 102) (ls' := [some (.ref 16), some (pw_i wt), some (pw_i (k34_2 + 1)), some (pw_i (k34_3 + 0)), some (pw_i k25_4), some (pw_i (k34_5 + 1))]) rfl rfl rfl rfl ?_
                            refine pw_goto E (pc' := 34) rfl (by decide) ?_
                            exact ih34 _ (by omega) (k34_2 + 1) (k34_3 + 0) (k34_5 + 1) h189 h189I h189F (by omega) (by omega) (by omega) (by omega) (by omega) (by omega) (by omega) rfl
                          · intro hc191
                            change ¬ (wt < (5 : Int)) at hc191
                            refine pw_ld E (pc' := 89) (st' := [pw_i 1, pw_i 1, .ref 16]) rfl (fun _ => rfl) ?_
                            refine pw_goto E (pc' := 93) rfl (by decide) ?_
                            obtain ⟨f192l, f192h, -⟩ := pw_obj (c := 0) h167I rfl
                            refine pw_call (m' := 186) (As := [.ref 16, pw_i 1, pw_i 1]) (rest := []) (ls'' := [some (.ref 16), some (pw_i 1), some (pw_i 1), none]) (Nat.le_trans (by decide) hd) E rfl (fun _ => pw_iV rfl rfl rfl rfl (pw_cellI f192h rfl)) (rfl : pm_ent 186 = some (3, 4, 11, 4, pmc_186)) rfl rfl (cm_186 (pw_dp hd (by decide)) h167I (1) (by omega) (by omega) (1) (by omega) (by omega)) ?_
                            rintro h193 v194 ⟨h193I, h193E, rfl⟩
                            refine ⟨_, rfl, ?_⟩
                            have h193F := h167F.tr (h193E.wk (W' := [17, 18, 22, 23, 95, 51, 65, 79, 93]) (by first | rfl | simp))
                            show pw X d h193 184 96 [some (.ref 16), some (pw_i wt), some (pw_i k34_2), some (pw_i (k34_3 + 0)), some (pw_i k25_4), some (pw_i k34_5)] [] _
                            refine pw_inc E (pc' := 99) (ls' := [some (.ref 16), some (pw_i wt), some (pw_i (k34_2 + 1)), some (pw_i (k34_3 + 0)), some (pw_i k25_4), some (pw_i k34_5)]) rfl rfl rfl rfl ?_
                            refine pw_inc E (pc' := 102) (ls' := [some (.ref 16), some (pw_i wt), some (pw_i (k34_2 + 1)), some (pw_i (k34_3 + 0)), some (pw_i k25_4), some (pw_i (k34_5 + 1))]) rfl rfl rfl rfl ?_
                            refine pw_goto E (pc' := 34) rfl (by decide) ?_
                            exact ih34 _ (by omega) (k34_2 + 1) (k34_3 + 0) (k34_5 + 1) h193 h193I h193F (by omega) (by omega) (by omega) (by omega) (by omega) (by omega) (by omega) rfl
                      · intro hc195
                        change ¬ (x175 = (0 : Int)) at hc195
                        refine pw_ld E (pc' := 67) (st' := [pw_i 1, pw_i k34_3]) rfl (fun _ => rfl) ?_
                        refine pw_goto E (pc' := 71) rfl (by decide) ?_
                        refine pw_add E (pc' := 72) rfl rfl ?_
                        refine pw_nm (fun x196 hx196a hx196b => ?_)
                        refine pw_istn E (pc' := 73) (ls' := [some (.ref 16), some (pw_i wt), some (pw_i k34_2), some (pw_i x196), some (pw_i k25_4), some (pw_i k34_5)]) rfl rfl rfl rfl ?_
                        refine pw_ld E (pc' := 74) (st' := [.ref 16]) rfl (fun _ => rfl) ?_
                        refine pw_ld E (pc' := 75) (st' := [pw_i k34_2, .ref 16]) rfl (fun _ => rfl) ?_
                        refine pw_if E (pc' := 82) rfl (by decide) (by omega) (by omega) ?_ ?_
                        · intro hc197
                          change k34_2 ≠ (0 : Int) at hc197
                          refine pw_ld E (pc' := 83) (st' := [pw_i 0, .ref 16]) rfl (fun _ => rfl) ?_
                          refine pw_ld E (pc' := 84) (st' := [pw_i wt, pw_i 0, .ref 16]) rfl (fun _ => rfl) ?_
                          refine pw_ld E (pc' := 85) (st' := [pw_i 5, pw_i wt, pw_i 0, .ref 16]) rfl (fun _ => rfl) ?_
                          refine pw_if2 E (pc' := 92) rfl (by decide) (by omega) (by omega) (by decide) (by decide) ?_ ?_
                          · intro hc198
                            change wt < (5 : Int) at hc198
                            refine pw_ld E (pc' := 93) (st' := [pw_i 0, pw_i 0, .ref 16]) rfl (fun _ => rfl) ?_
                            obtain ⟨f199l, f199h, -⟩ := pw_obj (c := 0) h167I rfl
                            refine pw_call (m' := 186) (As := [.ref 16, pw_i 0, pw_i 0]) (rest := []) (ls'' := [some (.ref 16), some (pw_i 0), some (pw_i 0), none]) (Nat.le_trans (by decide) hd) E rfl (fun _ => pw_iV rfl rfl rfl rfl (pw_cellI f199h rfl)) (rfl : pm_ent 186 = some (3, 4, 11, 4, pmc_186)) rfl rfl (cm_186 (pw_dp hd (by decide)) h167I (0) (by omega) (by omega) (0) (by omega) (by omega)) ?_
                            rintro h200 v201 ⟨h200I, h200E, rfl⟩
                            refine ⟨_, rfl, ?_⟩
                            have h200F := h167F.tr (h200E.wk (W' := [17, 18, 22, 23, 95, 51, 65, 79, 93]) (by first | rfl | simp))
                            show pw X d h200 184 96 [some (.ref 16), some (pw_i wt), some (pw_i k34_2), some (pw_i x196), some (pw_i k25_4), some (pw_i k34_5)] [] _
                            refine pw_inc E (pc' := 99) (ls' := [some (.ref 16), some (pw_i wt), some (pw_i (k34_2 + 1)), some (pw_i x196), some (pw_i k25_4), some (pw_i k34_5)]) rfl rfl rfl rfl ?_
                            refine pw_inc E (pc' := 102) (ls' := [some (.ref 16), some (pw_i wt), some (pw_i (k34_2 + 1)), some (pw_i x196), some (pw_i k25_4), some (pw_i (k34_5 + 1))]) rfl rfl rfl rfl ?_
                            refine pw_goto E (pc' := 34) rfl (by decide) ?_
                            exact ih34 _ (by omega) (k34_2 + 1) (x196) (k34_5 + 1) h200 h200I h200F (by omega) (by omega) (by omega) (by omega) (by omega) (by omega) (by omega) rfl
                          · intro hc202
                            change ¬ (wt < (5 : Int)) at hc202
                            refine pw_ld E (pc' := 89) (st' := [pw_i 1, pw_i 0, .ref 16]) rfl (fun _ => rfl) ?_
                            refine pw_goto E (pc' := 93) rfl (by decide) ?_
                            obtain ⟨f203l, f203h, -⟩ := pw_obj (c := 0) h167I rfl
                            refine pw_call (m' := 186) (As := [.ref 16, pw_i 0, pw_i 1]) (rest := []) (ls'' := [some (.ref 16), some (pw_i 0), some (pw_i 1), none]) (Nat.le_trans (by decide) hd) E rfl (fun _ => pw_iV rfl rfl rfl rfl (pw_cellI f203h rfl)) (rfl : pm_ent 186 = some (3, 4, 11, 4, pmc_186)) rfl rfl (cm_186 (pw_dp hd (by decide)) h167I (0) (by omega) (by omega) (1) (by omega) (by omega)) ?_
                            rintro h204 v205 ⟨h204I, h204E, rfl⟩
                            refine ⟨_, rfl, ?_⟩
                            have h204F := h167F.tr (h204E.wk (W' := [17, 18, 22, 23, 95, 51, 65, 79, 93]) (by first | rfl | simp))
                            show pw X d h204 184 96 [some (.ref 16), some (pw_i wt), some (pw_i k34_2), some (pw_i x196), some (pw_i k25_4), some (pw_i k34_5)] [] _
                            refine pw_inc E (pc' := 99) (ls' := [some (.ref 16), some (pw_i wt), some (pw_i (k34_2 + 1)), some (pw_i x196), some (pw_i k25_4), some (pw_i k34_5)]) rfl rfl rfl rfl ?_
                            refine pw_inc E (pc' := 102) (ls' := [some (.ref 16), some (pw_i wt), some (pw_i (k34_2 + 1)), some (pw_i x196), some (pw_i k25_4), some (pw_i (k34_5 + 1))]) rfl rfl rfl rfl ?_
                            refine pw_goto E (pc' := 34) rfl (by decide) ?_
                            exact ih34 _ (by omega) (k34_2 + 1) (x196) (k34_5 + 1) h204 h204I h204F (by omega) (by omega) (by omega) (by omega) (by omega) (by omega) (by omega) rfl
                        · intro hc206
                          change ¬ (k34_2 ≠ (0 : Int)) at hc206
                          refine pw_ld E (pc' := 79) (st' := [pw_i 1, .ref 16]) rfl (fun _ => rfl) ?_
                          refine pw_goto E (pc' := 83) rfl (by decide) ?_
                          refine pw_ld E (pc' := 84) (st' := [pw_i wt, pw_i 1, .ref 16]) rfl (fun _ => rfl) ?_
                          refine pw_ld E (pc' := 85) (st' := [pw_i 5, pw_i wt, pw_i 1, .ref 16]) rfl (fun _ => rfl) ?_
                          refine pw_if2 E (pc' := 92) rfl (by decide) (by omega) (by omega) (by decide) (by decide) ?_ ?_
                          · intro hc207
                            change wt < (5 : Int) at hc207
                            refine pw_ld E (pc' := 93) (st' := [pw_i 0, pw_i 1, .ref 16]) rfl (fun _ => rfl) ?_
                            obtain ⟨f208l, f208h, -⟩ := pw_obj (c := 0) h167I rfl
                            refine pw_call (m' := 186) (As := [.ref 16, pw_i 1, pw_i 0]) (rest := []) (ls'' := [some (.ref 16), some (pw_i 1), some (pw_i 0), none]) (Nat.le_trans (by decide) hd) E rfl (fun _ => pw_iV rfl rfl rfl rfl (pw_cellI f208h rfl)) (rfl : pm_ent 186 = some (3, 4, 11, 4, pmc_186)) rfl rfl (cm_186 (pw_dp hd (by decide)) h167I (1) (by omega) (by omega) (0) (by omega) (by omega)) ?_
                            rintro h209 v210 ⟨h209I, h209E, rfl⟩
                            refine ⟨_, rfl, ?_⟩
                            have h209F := h167F.tr (h209E.wk (W' := [17, 18, 22, 23, 95, 51, 65, 79, 93]) (by first | rfl | simp))
                            show pw X d h209 184 96 [some (.ref 16), some (pw_i wt), some (pw_i k34_2), some (pw_i x196), some (pw_i k25_4), some (pw_i k34_5)] [] _
                            refine pw_inc E (pc' := 99) (ls' := [some (.ref 16), some (pw_i wt), some (pw_i (k34_2 + 1)), some (pw_i x196), some (pw_i k25_4), some (pw_i k34_5)]) rfl rfl rfl rfl ?_
                            refine pw_inc E (pc' := 102) (ls' := [some (.ref 16), some (pw_i wt), some (pw_i (k34_2 + 1)), some (pw_i x196), some (pw_i k25_4), some (pw_i (k34_5 + 1))]) rfl rfl rfl rfl ?_
                            refine pw_goto E (pc' := 34) rfl (by decide) ?_
                            exact ih34 _ (by omega) (k34_2 + 1) (x196) (k34_5 + 1) h209 h209I h209F (by omega) (by omega) (by omega) (by omega) (by omega) (by omega) (by omega) rfl
                          · intro hc211
                            change ¬ (wt < (5 : Int)) at hc211
                            refine pw_ld E (pc' := 89) (st' := [pw_i 1, pw_i 1, .ref 16]) rfl (fun _ => rfl) ?_
                            refine pw_goto E (pc' := 93) rfl (by decide) ?_
                            obtain ⟨f212l, f212h, -⟩ := pw_obj (c := 0) h167I rfl
                            refine pw_call (m' := 186) (As := [.ref 16, pw_i 1, pw_i 1]) (rest := []) (ls'' := [some (.ref 16), some (pw_i 1), some (pw_i 1), none]) (Nat.le_trans (by decide) hd) E rfl (fun _ => pw_iV rfl rfl rfl rfl (pw_cellI f212h rfl)) (rfl : pm_ent 186 = some (3, 4, 11, 4, pmc_186)) rfl rfl (cm_186 (pw_dp hd (by decide)) h167I (1) (by omega) (by omega) (1) (by omega) (by omega)) ?_
                            rintro h213 v214 ⟨h213I, h213E, rfl⟩
                            refine ⟨_, rfl, ?_⟩
                            have h213F := h167F.tr (h213E.wk (W' := [17, 18, 22, 23, 95, 51, 65, 79, 93]) (by first | rfl | simp))
                            show pw X d h213 184 96 [some (.ref 16), some (pw_i wt), some (pw_i k34_2), some (pw_i x196), some (pw_i k25_4), some (pw_i k34_5)] [] _
                            refine pw_inc E (pc' := 99) (ls' := [some (.ref 16), some (pw_i wt), some (pw_i (k34_2 + 1)), some (pw_i x196), some (pw_i k25_4), some (pw_i k34_5)]) rfl rfl rfl rfl ?_
                            refine pw_inc E (pc' := 102) (ls' := [some (.ref 16), some (pw_i wt), some (pw_i (k34_2 + 1)), some (pw_i x196), some (pw_i k25_4), some (pw_i (k34_5 + 1))]) rfl rfl rfl rfl ?_
                            refine pw_goto E (pc' := 34) rfl (by decide) ?_
                            exact ih34 _ (by omega) (k34_2 + 1) (x196) (k34_5 + 1) h213 h213I h213F (by omega) (by omega) (by omega) (by omega) (by omega) (by omega) (by omega) rfl
            exact L34 _ (k25_2) (k25_3) (0) h25 I25 E25 (by omega) (by omega) (by omega) (by omega) (by omega) (by omega) (by omega) rfl
      exact L25 _ (0) (0) (0) (none) h I E0 (by omega) (by omega) (by omega) (by omega) (by omega) (by omega) (by omega) rfl
    · intro hc215
      change ¬ (x3 ≠ (0 : Int)) at hc215
      exfalso; omega
  · skip
    refine pw_if E (pc' := 18) rfl (by decide) (by omega) (by omega) ?_ ?_
    · intro hc217
      change x3 ≠ (0 : Int) at hc217
      exfalso; omega
    · intro hc218
      change ¬ (x3 ≠ (0 : Int)) at hc218
      refine pw_thr E rfl rfl I.2 ?_
      exact ⟨I, E0, Or.inl rfl⟩
set_option maxHeartbeats 4000000 in
theorem cm_190 {X : List (Nat × List Value)} {d : Nat} {h : pm_H} (hd : 1 ≤ d) (I : pw_I h) (k : Int) (hk1 : 0 ≤ k) (hk2 : k ≤ 23) (mo : Int) (hmo1 : 0 ≤ mo) (hmo2 : mo ≤ 11) : pw X d h 190 0 [some (.ref 16), some (pw_i k), some (pw_i mo)] [] (fun h' v => h = h' ∧ ∃ w : Int64, v = .inl (some (.long w))) := by
  have E : pm_ent 190 = some (3, 3, 11, 2, pmc_190) := rfl
  refine pw_ld E (pc' := 1) (st' := [.ref 16]) rfl (fun _ => rfl) ?_
  refine pw_getR (b := 30) I E (c := 0) (k := 4) (pc' := 4) rfl rfl rfl rfl rfl rfl rfl ?_
  refine pw_ld E (pc' := 5) (st' := [pw_i k, .ref 30]) rfl (fun _ => rfl) ?_
  refine pw_bip E (pc' := 7) rfl rfl (by decide) ?_
  refine pw_mul E (pc' := 8) rfl rfl ?_
  refine pw_ld E (pc' := 9) (st' := [pw_i mo, pw_i (k * 12), .ref 30]) rfl (fun _ => rfl) ?_
  refine pw_add E (pc' := 10) rfl rfl ?_
  refine pw_ald2 I E (c := 14) (pc' := 11) rfl rfl rfl (by decide) rfl (by decide) (by omega) (by omega) rfl (fun hf1a hf1b => ?_)
  refine pw_ld E (pc' := 12) (st' := [.long ((Int32.ofInt (pw_g h 14 (((k * 12) + mo).toNat))).toInt64)]) rfl (fun _ => rfl) ?_
  refine pw_lret E rfl ?_
  exact ⟨rfl, ⟨_, rfl⟩⟩
set_option maxHeartbeats 4000000 in
theorem cm_192 {X : List (Nat × List Value)} {d : Nat} {h : pm_H} (hd : 1 ≤ d) (I : pw_I h) (k : Int) (hk1 : 0 ≤ k) (hk2 : k ≤ 23) (mo : Int) (hmo1 : 0 ≤ mo) (hmo2 : mo ≤ 11) : pw X d h 192 0 [some (.ref 16), some (pw_i k), some (pw_i mo)] [] (fun h' v => h = h' ∧ ∃ w : Int64, v = .inl (some (.long w))) := by
  have E : pm_ent 192 = some (3, 3, 11, 2, pmc_192) := rfl
  refine pw_ld E (pc' := 3) (st' := [.long (Int64.ofNat 10)]) rfl (fun _ => rfl) ?_
  refine pw_ld E (pc' := 4) (st' := [.ref 16, .long (Int64.ofNat 10)]) rfl (fun _ => rfl) ?_
  refine pw_getR (b := 31) I E (c := 0) (k := 5) (pc' := 7) rfl rfl rfl rfl rfl rfl rfl ?_
  refine pw_ld E (pc' := 8) (st' := [pw_i k, .ref 31, .long (Int64.ofNat 10)]) rfl (fun _ => rfl) ?_
  refine pw_bip E (pc' := 10) rfl rfl (by decide) ?_
  refine pw_mul E (pc' := 11) rfl rfl ?_
  refine pw_ld E (pc' := 12) (st' := [pw_i mo, pw_i (k * 12), .ref 31, .long (Int64.ofNat 10)]) rfl (fun _ => rfl) ?_
  refine pw_add E (pc' := 13) rfl rfl ?_
  refine pw_ald2 I E (c := 15) (pc' := 14) rfl rfl rfl (by decide) rfl (by decide) (by omega) (by omega) rfl (fun hf1a hf1b => ?_)
  refine pw_ld E (pc' := 15) (st' := [.long ((Int32.ofInt (pw_g h 15 (((k * 12) + mo).toNat))).toInt64), .long (Int64.ofNat 10)]) rfl (fun _ => rfl) ?_
  refine pw_ld E (pc' := 16) (st' := [.long ((Int64.ofNat 10) * ((Int32.ofInt (pw_g h 15 (((k * 12) + mo).toNat))).toInt64))]) rfl (fun _ => rfl) ?_
  refine pw_lret E rfl ?_
  exact ⟨rfl, ⟨_, rfl⟩⟩
set_option maxHeartbeats 4000000 in
theorem cm_188 {X : List (Nat × List Value)} {d : Nat} {h : pm_H} (hd : 2 ≤ d) (I : pw_I h) (k : Int) (hk1 : 0 ≤ k) (hk2 : k ≤ 23) (mo : Int) (hmo1 : 0 ≤ mo) (hmo2 : mo ≤ 11) : pw X d h 188 0 [some (.ref 16), some (pw_i k), some (pw_i mo)] [] (fun h' v => h = h' ∧ ∃ w : Int64, v = .inl (some (.long w))) := by
  have E : pm_ent 188 = some (3, 3, 11, 2, pmc_188) := rfl
  refine pw_ld E (pc' := 1) (st' := [.ref 16]) rfl (fun _ => rfl) ?_
  refine pw_getR (b := 17) I E (c := 0) (k := 0) (pc' := 4) rfl rfl rfl rfl rfl rfl rfl ?_
  refine pw_ld E (pc' := 5) (st' := [pw_i k, .ref 17]) rfl (fun _ => rfl) ?_
  obtain ⟨f1l, f1h, -⟩ := pw_obj (c := 1) I rfl
  refine pw_call (m' := 64) (As := [.ref 17, pw_i k]) (rest := []) (ls'' := [some (.ref 17), some (pw_i k)]) (Nat.le_trans (by decide) hd) E rfl (fun _ => pw_iV rfl rfl rfl rfl (pw_cellI f1h rfl)) (rfl : pm_ent 64 = some (2, 2, 6, 0, pmc_64)) rfl rfl (cm_64 (pw_dp hd (by decide)) I (k) (by omega) (by omega)) ?_
  rintro u3 v2 ⟨rfl, x4, rfl, hx4a, hx4b, hx4r⟩
  refine ⟨_, rfl, ?_⟩
  show pw X d h 188 8 [some (.ref 16), some (pw_i k), some (pw_i mo)] [pw_i x4] _
  change x4 = pw_g h 5 k.toNat at hx4r
  refine pw_ld E (pc' := 9) (st' := [.ref 16, pw_i x4]) rfl (fun _ => rfl) ?_
  refine pw_getR (b := 23) I E (c := 0) (k := 1) (pc' := 12) rfl rfl rfl rfl rfl rfl rfl ?_
  refine pw_ld E (pc' := 13) (st' := [.ref 16, .ref 23, pw_i x4]) rfl (fun _ => rfl) ?_
  refine pw_getR (b := 17) I E (c := 0) (k := 0) (pc' := 16) rfl rfl rfl rfl rfl rfl rfl ?_
  refine pw_ld E (pc' := 17) (st' := [pw_i k, .ref 17, .ref 23, pw_i x4]) rfl (fun _ => rfl) ?_
  obtain ⟨f5l, f5h, -⟩ := pw_obj (c := 1) I rfl
  refine pw_call (m' := 60) (As := [.ref 17, pw_i k]) (rest := [.ref 23, pw_i x4]) (ls'' := [some (.ref 17), some (pw_i k)]) (Nat.le_trans (by decide) hd) E rfl (fun _ => pw_iV rfl rfl rfl rfl (pw_cellI f5h rfl)) (rfl : pm_ent 60 = some (2, 2, 6, 0, pmc_60)) rfl rfl (cm_60 (pw_dp hd (by decide)) I (k) (by omega) (by omega)) ?_
  rintro u7 v6 ⟨rfl, x8, rfl, hx8a, hx8b, hx8r⟩
  refine ⟨_, rfl, ?_⟩
  show pw X d h 188 20 [some (.ref 16), some (pw_i k), some (pw_i mo)] [pw_i x8, .ref 23, pw_i x4] _
  change x8 = pw_g h 4 k.toNat at hx8r
  refine pw_ld E (pc' := 21) (st' := [pw_i mo, pw_i x8, .ref 23, pw_i x4]) rfl (fun _ => rfl) ?_
  obtain ⟨f9l, f9h, -⟩ := pw_obj (c := 7) I rfl
  refine pw_call (m' := 2) (As := [.ref 23, pw_i x8, pw_i mo]) (rest := [pw_i x4]) (ls'' := [some (.ref 23), some (pw_i x8), some (pw_i mo)]) (Nat.le_trans (by decide) hd) E rfl (fun _ => pw_iV rfl rfl rfl rfl (pw_cellI f9h rfl)) (rfl : pm_ent 2 = some (3, 3, 0, 0, pmc_2)) rfl rfl (cm_2 (pw_dp hd (by decide)) I (x8) (by omega) (by omega) (mo) (by omega) (by omega)) ?_
  rintro u11 v10 ⟨rfl, x12, rfl, hx12a, hx12b⟩
  refine ⟨_, rfl, ?_⟩
  show pw X d h 188 24 [some (.ref 16), some (pw_i k), some (pw_i mo)] [pw_i x12, pw_i x4] _
  refine pw_max E rfl rfl (by omega) (by omega) (by omega) (by omega) rfl ?_
  refine pw_ld E (pc' := 28) (st' := [.long ((Int32.ofInt (max x4 x12)).toInt64)]) rfl (fun _ => rfl) ?_
  refine pw_lret E rfl ?_
  exact ⟨rfl, ⟨_, rfl⟩⟩
set_option maxHeartbeats 4000000 in
theorem cm_189 {X : List (Nat × List Value)} {d : Nat} {h : pm_H} (hd : 3 ≤ d) (I : pw_I h) (k : Int) (hk1 : 0 ≤ k) (hk2 : k ≤ 23) (mo : Int) (hmo1 : 0 ≤ mo) (hmo2 : mo ≤ 11) : pw X d h 189 0 [some (.ref 16), some (pw_i k), some (pw_i mo)] [] (fun h' v => h = h' ∧ ∃ w : Int64, v = .inl (some (.long w))) := by
  have E : pm_ent 189 = some (3, 3, 11, 2, pmc_189) := rfl
  refine pw_ld E (pc' := 1) (st' := [.ref 16]) rfl (fun _ => rfl) ?_
  refine pw_getR (b := 26) I E (c := 0) (k := 2) (pc' := 4) rfl rfl rfl rfl rfl rfl rfl ?_
  refine pw_ld E (pc' := 5) (st' := [pw_i k, .ref 26]) rfl (fun _ => rfl) ?_
  refine pw_ld E (pc' := 6) (st' := [pw_i mo, pw_i k, .ref 26]) rfl (fun _ => rfl) ?_
  refine pw_ld E (pc' := 7) (st' := [.ref 16, pw_i mo, pw_i k, .ref 26]) rfl (fun _ => rfl) ?_
  refine pw_getI2 I E (c := 0) (k := 6) (pc' := 10) rfl rfl rfl rfl rfl rfl (fun hf1a hf1b => ?_)
  obtain ⟨f2l, f2h, -⟩ := pw_obj (c := 10) I rfl
  refine pw_call (m' := 20) (As := [.ref 26, pw_i k, pw_i mo, pw_i (pw_g h 0 6)]) (rest := []) (ls'' := [some (.ref 26), some (pw_i k), some (pw_i mo), some (pw_i (pw_g h 0 6))]) (Nat.le_trans (by decide) hd) E rfl (fun _ => pw_iV rfl rfl rfl rfl (pw_cellI f2h rfl)) (rfl : pm_ent 20 = some (4, 4, 2, 0, pmc_20)) rfl rfl (cm_20 (pw_dp hd (by decide)) I 10 (by unfold pw_Lg; omega) (k) (by omega) (by omega) (mo) (by omega) (by omega) (pw_g h 0 6) (by omega) (by omega)) ?_
  rintro u4 v3 ⟨rfl, x5, rfl, hx5a, hx5b⟩
  refine ⟨_, rfl, ?_⟩
  show pw X d h 189 13 [some (.ref 16), some (pw_i k), some (pw_i mo)] [pw_i x5] _
  refine pw_ld E (pc' := 14) (st' := [.long ((Int32.ofInt x5).toInt64)]) rfl (fun _ => rfl) ?_
  refine pw_ld E (pc' := 15) (st' := [.ref 16, .long ((Int32.ofInt x5).toInt64)]) rfl (fun _ => rfl) ?_
  refine pw_ld E (pc' := 16) (st' := [pw_i k, .ref 16, .long ((Int32.ofInt x5).toInt64)]) rfl (fun _ => rfl) ?_
  refine pw_ld E (pc' := 17) (st' := [pw_i mo, pw_i k, .ref 16, .long ((Int32.ofInt x5).toInt64)]) rfl (fun _ => rfl) ?_
  obtain ⟨f6l, f6h, -⟩ := pw_obj (c := 0) I rfl
  refine pw_call (m' := 190) (As := [.ref 16, pw_i k, pw_i mo]) (rest := [.long ((Int32.ofInt x5).toInt64)]) (ls'' := [some (.ref 16), some (pw_i k), some (pw_i mo)]) (Nat.le_trans (by decide) hd) E rfl (fun _ => pw_iV rfl rfl rfl rfl (pw_cellI f6h rfl)) (rfl : pm_ent 190 = some (3, 3, 11, 2, pmc_190)) rfl rfl (cm_190 (pw_dp hd (by decide)) I (k) (by omega) (by omega) (mo) (by omega) (by omega)) ?_
  rintro u8 v7 ⟨rfl, w9, rfl⟩
  refine ⟨_, rfl, ?_⟩
  show pw X d h 189 20 [some (.ref 16), some (pw_i k), some (pw_i mo)] [.long w9, .long ((Int32.ofInt x5).toInt64)] _
  refine pw_ld E (pc' := 21) (st' := [.long (((Int32.ofInt x5).toInt64) * w9)]) rfl (fun _ => rfl) ?_
  refine pw_ld E (pc' := 22) (st' := [.ref 16, .long (((Int32.ofInt x5).toInt64) * w9)]) rfl (fun _ => rfl) ?_
  refine pw_ld E (pc' := 23) (st' := [pw_i k, .ref 16, .long (((Int32.ofInt x5).toInt64) * w9)]) rfl (fun _ => rfl) ?_
  refine pw_ld E (pc' := 24) (st' := [pw_i mo, pw_i k, .ref 16, .long (((Int32.ofInt x5).toInt64) * w9)]) rfl (fun _ => rfl) ?_
  obtain ⟨f10l, f10h, -⟩ := pw_obj (c := 0) I rfl
  refine pw_call (m' := 188) (As := [.ref 16, pw_i k, pw_i mo]) (rest := [.long (((Int32.ofInt x5).toInt64) * w9)]) (ls'' := [some (.ref 16), some (pw_i k), some (pw_i mo)]) (Nat.le_trans (by decide) hd) E rfl (fun _ => pw_iV rfl rfl rfl rfl (pw_cellI f10h rfl)) (rfl : pm_ent 188 = some (3, 3, 11, 2, pmc_188)) rfl rfl (cm_188 (pw_dp hd (by decide)) I (k) (by omega) (by omega) (mo) (by omega) (by omega)) ?_
  rintro u12 v11 ⟨rfl, w13, rfl⟩
  refine ⟨_, rfl, ?_⟩
  show pw X d h 189 27 [some (.ref 16), some (pw_i k), some (pw_i mo)] [.long w13, .long (((Int32.ofInt x5).toInt64) * w9)] _
  refine pw_ld E (pc' := 28) (st' := [.long ((((Int32.ofInt x5).toInt64) * w9) * w13)]) rfl (fun _ => rfl) ?_
  refine pw_lret E rfl ?_
  exact ⟨rfl, ⟨_, rfl⟩⟩
set_option maxHeartbeats 4000000 in
theorem cm_191 {X : List (Nat × List Value)} {d : Nat} {h : pm_H} (hd : 4 ≤ d) (I : pw_I h) (k : Int) (hk1 : 0 ≤ k) (hk2 : k ≤ 23) (mo : Int) (hmo1 : 0 ≤ mo) (hmo2 : mo ≤ 11) : pw X d h 191 0 [some (.ref 16), some (pw_i k), some (pw_i mo)] [] (fun h' v => h = h' ∧ ∃ w : Int64, v = .inl (some (.long w))) := by
  have E : pm_ent 191 = some (3, 3, 11, 2, pmc_191) := rfl
  refine pw_ld E (pc' := 1) (st' := [.ref 16]) rfl (fun _ => rfl) ?_
  refine pw_ld E (pc' := 2) (st' := [pw_i k, .ref 16]) rfl (fun _ => rfl) ?_
  refine pw_ld E (pc' := 3) (st' := [pw_i mo, pw_i k, .ref 16]) rfl (fun _ => rfl) ?_
  obtain ⟨f1l, f1h, -⟩ := pw_obj (c := 0) I rfl
  refine pw_call (m' := 192) (As := [.ref 16, pw_i k, pw_i mo]) (rest := []) (ls'' := [some (.ref 16), some (pw_i k), some (pw_i mo)]) (Nat.le_trans (by decide) hd) E rfl (fun _ => pw_iV rfl rfl rfl rfl (pw_cellI f1h rfl)) (rfl : pm_ent 192 = some (3, 3, 11, 2, pmc_192)) rfl rfl (cm_192 (pw_dp hd (by decide)) I (k) (by omega) (by omega) (mo) (by omega) (by omega)) ?_
  rintro u3 v2 ⟨rfl, w4, rfl⟩
  refine ⟨_, rfl, ?_⟩
  show pw X d h 191 6 [some (.ref 16), some (pw_i k), some (pw_i mo)] [.long w4] _
  refine pw_ld E (pc' := 7) (st' := [.ref 16, .long w4]) rfl (fun _ => rfl) ?_
  refine pw_ld E (pc' := 8) (st' := [pw_i k, .ref 16, .long w4]) rfl (fun _ => rfl) ?_
  refine pw_ld E (pc' := 9) (st' := [pw_i mo, pw_i k, .ref 16, .long w4]) rfl (fun _ => rfl) ?_
  obtain ⟨f5l, f5h, -⟩ := pw_obj (c := 0) I rfl
  refine pw_call (m' := 189) (As := [.ref 16, pw_i k, pw_i mo]) (rest := [.long w4]) (ls'' := [some (.ref 16), some (pw_i k), some (pw_i mo)]) (Nat.le_trans (by decide) hd) E rfl (fun _ => pw_iV rfl rfl rfl rfl (pw_cellI f5h rfl)) (rfl : pm_ent 189 = some (3, 3, 11, 2, pmc_189)) rfl rfl (cm_189 (pw_dp hd (by decide)) I (k) (by omega) (by omega) (mo) (by omega) (by omega)) ?_
  rintro u7 v6 ⟨rfl, w8, rfl⟩
  refine ⟨_, rfl, ?_⟩
  show pw X d h 191 12 [some (.ref 16), some (pw_i k), some (pw_i mo)] [.long w8, .long w4] _
  refine pw_ld E (pc' := 13) (st' := [.long (w4 - w8)]) rfl (fun _ => rfl) ?_
  refine pw_lret E rfl ?_
  exact ⟨rfl, ⟨_, rfl⟩⟩
set_option maxHeartbeats 4000000 in
theorem cm_187 {X : List (Nat × List Value)} {d : Nat} {h : pm_H} (hd : 5 ≤ d) (I : pw_I h) (k : Int) (hk1 : (-2147483648) ≤ k) (hk2 : k ≤ 2147483647) (mo : Int) (hmo1 : (-2147483648) ≤ mo) (hmo2 : mo ≤ 2147483647) (wt : Int) (hwt1 : (-2147483648) ≤ wt) (hwt2 : wt ≤ 2147483647) : pw X d h 187 0 [some (.ref 16), some (pw_i k), some (pw_i mo), some (pw_i wt)] [] (fun h' v => h = h' ∧ (v = .inr () ∨ (∃ w : Int64, v = .inl (some (.long w))))) := by
  have E : pm_ent 187 = some (4, 4, 11, 2, pmc_187) := rfl
  refine pw_ld E (pc' := 1) (st' := [.ref 16]) rfl (fun _ => rfl) ?_
  refine pw_ld E (pc' := 2) (st' := [pw_i k, .ref 16]) rfl (fun _ => rfl) ?_
  obtain ⟨f1l, f1h, -⟩ := pw_obj (c := 0) I rfl
  refine pw_call (m' := 124) (As := [.ref 16, pw_i k]) (rest := []) (ls'' := [some (.ref 16), some (pw_i k)]) (Nat.le_trans (by decide) hd) E rfl (fun _ => pw_iV rfl rfl rfl rfl (pw_cellI f1h rfl)) (rfl : pm_ent 124 = some (2, 2, 11, 1, pmc_124)) rfl rfl (cm_124 (pw_dp hd (by decide)) I (k) (by omega) (by omega)) ?_
  rintro u3 v2 ⟨rfl, x4, rfl, hx4a, hx4b, hx4r⟩
  refine ⟨_, rfl, ?_⟩
  show pw X d h 187 5 [some (.ref 16), some (pw_i k), some (pw_i mo), some (pw_i wt)] [pw_i x4] _
  change (x4 = 1 ∧ 0 ≤ k ∧ k ≤ 23) ∨ x4 = 0 at hx4r
  rcases (by omega : x4 = 1 ∨ x4 = 0) with hb5 | hb5
  · skip
    refine pw_if E (pc' := 24) rfl (by decide) (by omega) (by omega) ?_ ?_
    · intro hc6
      change x4 = (0 : Int) at hc6
      exfalso; omega
    · intro hc7
      change ¬ (x4 = (0 : Int)) at hc7
      refine pw_ld E (pc' := 9) (st' := [pw_i mo]) rfl (fun _ => rfl) ?_
      refine pw_call (m' := 125) (As := [pw_i mo]) (rest := []) (ls'' := [some (pw_i mo)]) (Nat.le_trans (by decide) hd) E rfl (fun _ => pw_iS rfl rfl rfl) (rfl : pm_ent 125 = some (1, 1, 11, 1, pmc_125)) rfl rfl (cm_125 (pw_dp hd (by decide)) I (mo) (by omega) (by omega)) ?_
      rintro u9 v8 ⟨rfl, x10, rfl, hx10a, hx10b, hx10r⟩
      refine ⟨_, rfl, ?_⟩
      show pw X d h 187 12 [some (.ref 16), some (pw_i k), some (pw_i mo), some (pw_i wt)] [pw_i x10] _
      change (x10 = 1 ∧ 0 ≤ mo ∧ mo ≤ 11) ∨ (x10 = 0 ∧ ¬ (0 ≤ mo ∧ mo ≤ 11)) at hx10r
      rcases (by omega : x10 = 1 ∨ x10 = 0) with hb11 | hb11
      · skip
        refine pw_if E (pc' := 24) rfl (by decide) (by omega) (by omega) ?_ ?_
        · intro hc12
          change x10 = (0 : Int) at hc12
          exfalso; omega
        · intro hc13
          change ¬ (x10 = (0 : Int)) at hc13
          refine pw_ld E (pc' := 16) (st' := [pw_i wt]) rfl (fun _ => rfl) ?_
          refine pw_ld E (pc' := 17) (st' := [pw_i 0, pw_i wt]) rfl (fun _ => rfl) ?_
          refine pw_ld E (pc' := 18) (st' := [pw_i 2, pw_i 0, pw_i wt]) rfl (fun _ => rfl) ?_
          refine pw_call (m' := 121) (As := [pw_i wt, pw_i 0, pw_i 2]) (rest := []) (ls'' := [some (pw_i wt), some (pw_i 0), some (pw_i 2)]) (Nat.le_trans (by decide) hd) E rfl (fun _ => pw_iS rfl rfl rfl) (rfl : pm_ent 121 = some (3, 3, 11, 1, pmc_121)) rfl rfl (cm_121 (pw_dp hd (by decide)) I (wt) (by omega) (by omega) (0) (by omega) (by omega) (2) (by omega) (by omega)) ?_
          rintro u15 v14 ⟨rfl, x16, rfl, hx16a, hx16b, hx16r⟩
          refine ⟨_, rfl, ?_⟩
          show pw X d h 187 21 [some (.ref 16), some (pw_i k), some (pw_i mo), some (pw_i wt)] [pw_i x16] _
          change (x16 = 1 ∧ 0 ≤ wt ∧ wt ≤ 2) ∨ (x16 = 0 ∧ ¬ (0 ≤ wt ∧ wt ≤ 2)) at hx16r
          rcases (by omega : x16 = 1 ∨ x16 = 0) with hb17 | hb17
          · skip
            refine pw_if E (pc' := 32) rfl (by decide) (by omega) (by omega) ?_ ?_
            · intro hc18
              change x16 ≠ (0 : Int) at hc18
              refine pw_ld E (pc' := 33) (st' := [pw_i wt]) rfl (fun _ => rfl) ?_
              refine pw_if E (pc' := 43) rfl (by decide) (by omega) (by omega) ?_ ?_
              · intro hc19
                change wt ≠ (0 : Int) at hc19
                refine pw_ld E (pc' := 44) (st' := [.ref 16]) rfl (fun _ => rfl) ?_
                refine pw_getR (b := 26) I E (c := 0) (k := 2) (pc' := 47) rfl rfl rfl rfl rfl rfl rfl ?_
                refine pw_ld E (pc' := 48) (st' := [pw_i k, .ref 26]) rfl (fun _ => rfl) ?_
                refine pw_ld E (pc' := 49) (st' := [pw_i mo, pw_i k, .ref 26]) rfl (fun _ => rfl) ?_
                obtain ⟨f20l, f20h, -⟩ := pw_obj (c := 10) I rfl
                refine pw_call (m' := 19) (As := [.ref 26, pw_i k, pw_i mo]) (rest := []) (ls'' := [some (.ref 26), some (pw_i k), some (pw_i mo)]) (Nat.le_trans (by decide) hd) E rfl (fun _ => pw_iV rfl rfl rfl rfl (pw_cellI f20h rfl)) (rfl : pm_ent 19 = some (3, 3, 2, 1, pmc_19)) rfl rfl (cm_19 (pw_dp hd (by decide)) I 10 (by unfold pw_Lg; omega) (k) (by omega) (by omega) (mo) (by omega) (by omega)) ?_
                rintro u22 v21 ⟨rfl, x23, rfl, hx23a, hx23b⟩
                refine ⟨_, rfl, ?_⟩
                show pw X d h 187 52 [some (.ref 16), some (pw_i k), some (pw_i mo), some (pw_i wt)] [pw_i x23] _
                refine pw_if E (pc' := 63) rfl (by decide) (by omega) (by omega) ?_ ?_
                · intro hc24
                  change x23 = (0 : Int) at hc24
                  refine pw_ld E (pc' := 64) (st' := [pw_i wt]) rfl (fun _ => rfl) ?_
                  refine pw_ld E (pc' := 65) (st' := [pw_i 1, pw_i wt]) rfl (fun _ => rfl) ?_
                  refine pw_if2 E (pc' := 77) rfl (by decide) (by omega) (by omega) (by decide) (by decide) ?_ ?_
                  · intro hc25
                    change wt ≠ (1 : Int) at hc25
                    refine pw_ld E (pc' := 78) (st' := [.ref 16]) rfl (fun _ => rfl) ?_
                    refine pw_ld E (pc' := 79) (st' := [pw_i k, .ref 16]) rfl (fun _ => rfl) ?_
                    refine pw_ld E (pc' := 80) (st' := [pw_i mo, pw_i k, .ref 16]) rfl (fun _ => rfl) ?_
                    obtain ⟨f26l, f26h, -⟩ := pw_obj (c := 0) I rfl
                    refine pw_call (m' := 191) (As := [.ref 16, pw_i k, pw_i mo]) (rest := []) (ls'' := [some (.ref 16), some (pw_i k), some (pw_i mo)]) (Nat.le_trans (by decide) hd) E rfl (fun _ => pw_iV rfl rfl rfl rfl (pw_cellI f26h rfl)) (rfl : pm_ent 191 = some (3, 3, 11, 2, pmc_191)) rfl rfl (cm_191 (pw_dp hd (by decide)) I (k) (by omega) (by omega) (mo) (by omega) (by omega)) ?_
                    rintro u28 v27 ⟨rfl, w29, rfl⟩
                    refine ⟨_, rfl, ?_⟩
                    show pw X d h 187 83 [some (.ref 16), some (pw_i k), some (pw_i mo), some (pw_i wt)] [.long w29] _
                    refine pw_lret E rfl ?_
                    exact ⟨rfl, Or.inr ⟨_, rfl⟩⟩
                  · intro hc30
                    change ¬ (wt ≠ (1 : Int)) at hc30
                    refine pw_ld E (pc' := 69) (st' := [.ref 16]) rfl (fun _ => rfl) ?_
                    refine pw_ld E (pc' := 70) (st' := [pw_i k, .ref 16]) rfl (fun _ => rfl) ?_
                    refine pw_ld E (pc' := 71) (st' := [pw_i mo, pw_i k, .ref 16]) rfl (fun _ => rfl) ?_
                    obtain ⟨f31l, f31h, -⟩ := pw_obj (c := 0) I rfl
                    refine pw_call (m' := 189) (As := [.ref 16, pw_i k, pw_i mo]) (rest := []) (ls'' := [some (.ref 16), some (pw_i k), some (pw_i mo)]) (Nat.le_trans (by decide) hd) E rfl (fun _ => pw_iV rfl rfl rfl rfl (pw_cellI f31h rfl)) (rfl : pm_ent 189 = some (3, 3, 11, 2, pmc_189)) rfl rfl (cm_189 (pw_dp hd (by decide)) I (k) (by omega) (by omega) (mo) (by omega) (by omega)) ?_
                    rintro u33 v32 ⟨rfl, w34, rfl⟩
                    refine ⟨_, rfl, ?_⟩
                    show pw X d h 187 74 [some (.ref 16), some (pw_i k), some (pw_i mo), some (pw_i wt)] [.long w34] _
                    refine pw_goto E (pc' := 83) rfl (by decide) ?_
                    refine pw_lret E rfl ?_
                    exact ⟨rfl, Or.inr ⟨_, rfl⟩⟩
                · intro hc35
                  change ¬ (x23 = (0 : Int)) at hc35
                  refine pw_thr E rfl rfl I.2 ?_
                  exact ⟨rfl, Or.inl rfl⟩
              · intro hc36
                change ¬ (wt ≠ (0 : Int)) at hc36
                refine pw_ld E (pc' := 37) (st' := [.ref 16]) rfl (fun _ => rfl) ?_
                refine pw_ld E (pc' := 38) (st' := [pw_i k, .ref 16]) rfl (fun _ => rfl) ?_
                refine pw_ld E (pc' := 39) (st' := [pw_i mo, pw_i k, .ref 16]) rfl (fun _ => rfl) ?_
                obtain ⟨f37l, f37h, -⟩ := pw_obj (c := 0) I rfl
                refine pw_call (m' := 188) (As := [.ref 16, pw_i k, pw_i mo]) (rest := []) (ls'' := [some (.ref 16), some (pw_i k), some (pw_i mo)]) (Nat.le_trans (by decide) hd) E rfl (fun _ => pw_iV rfl rfl rfl rfl (pw_cellI f37h rfl)) (rfl : pm_ent 188 = some (3, 3, 11, 2, pmc_188)) rfl rfl (cm_188 (pw_dp hd (by decide)) I (k) (by omega) (by omega) (mo) (by omega) (by omega)) ?_
                rintro u39 v38 ⟨rfl, w40, rfl⟩
                refine ⟨_, rfl, ?_⟩
                show pw X d h 187 42 [some (.ref 16), some (pw_i k), some (pw_i mo), some (pw_i wt)] [.long w40] _
                refine pw_lret E rfl ?_
                exact ⟨rfl, Or.inr ⟨_, rfl⟩⟩
            · intro hc41
              change ¬ (x16 ≠ (0 : Int)) at hc41
              exfalso; omega
          · skip
            refine pw_if E (pc' := 32) rfl (by decide) (by omega) (by omega) ?_ ?_
            · intro hc43
              change x16 ≠ (0 : Int) at hc43
              exfalso; omega
            · intro hc44
              change ¬ (x16 ≠ (0 : Int)) at hc44
              refine pw_thr E rfl rfl I.2 ?_
              exact ⟨rfl, Or.inl rfl⟩
      · skip
        refine pw_if E (pc' := 24) rfl (by decide) (by omega) (by omega) ?_ ?_
        · intro hc46
          change x10 = (0 : Int) at hc46
          refine pw_thr E rfl rfl I.2 ?_
          exact ⟨rfl, Or.inl rfl⟩
        · intro hc47
          change ¬ (x10 = (0 : Int)) at hc47
          exfalso; omega
  · skip
    refine pw_if E (pc' := 24) rfl (by decide) (by omega) (by omega) ?_ ?_
    · intro hc49
      change x4 = (0 : Int) at hc49
      refine pw_thr E rfl rfl I.2 ?_
      exact ⟨rfl, Or.inl rfl⟩
    · intro hc50
      change ¬ (x4 = (0 : Int)) at hc50
      exfalso; omega
set_option maxHeartbeats 4000000 in
theorem cm_194 {X : List (Nat × List Value)} {d : Nat} {h : pm_H} (hd : 5 ≤ d) (I : pw_I h) (k : Int) (hk1 : 0 ≤ k) (hk2 : k ≤ 23) (b : Int) (hb1 : 0 ≤ b) (hb2 : b ≤ 11) (e : Int) (he1 : 0 ≤ e) (he2 : e ≤ 11) (wt : Int) (hwt1 : (-2147483648) ≤ wt) (hwt2 : wt ≤ 2147483647) : pw X d h 194 0 [some (.ref 16), some (pw_i k), some (pw_i b), some (pw_i e), some (pw_i wt), none, none] [] (fun h' v => h = h' ∧ ∃ w : Int64, v = .inl (some (.long w))) := by
  have E : pm_ent 194 = some (5, 7, 11, 2, pmc_194) := rfl
  refine pw_ld E (pc' := 1) (st' := [.ref 16]) rfl (fun _ => rfl) ?_
  refine pw_getR (b := 26) I E (c := 0) (k := 2) (pc' := 4) rfl rfl rfl rfl rfl rfl rfl ?_
  refine pw_ld E (pc' := 5) (st' := [pw_i k, .ref 26]) rfl (fun _ => rfl) ?_
  refine pw_ld E (pc' := 6) (st' := [pw_i e, pw_i k, .ref 26]) rfl (fun _ => rfl) ?_
  refine pw_ld E (pc' := 7) (st' := [.ref 16, pw_i e, pw_i k, .ref 26]) rfl (fun _ => rfl) ?_
  refine pw_getI2 I E (c := 0) (k := 6) (pc' := 10) rfl rfl rfl rfl rfl rfl (fun hf1a hf1b => ?_)
  obtain ⟨f2l, f2h, -⟩ := pw_obj (c := 10) I rfl
  refine pw_call (m' := 20) (As := [.ref 26, pw_i k, pw_i e, pw_i (pw_g h 0 6)]) (rest := []) (ls'' := [some (.ref 26), some (pw_i k), some (pw_i e), some (pw_i (pw_g h 0 6))]) (Nat.le_trans (by decide) hd) E rfl (fun _ => pw_iV rfl rfl rfl rfl (pw_cellI f2h rfl)) (rfl : pm_ent 20 = some (4, 4, 2, 0, pmc_20)) rfl rfl (cm_20 (pw_dp hd (by decide)) I 10 (by unfold pw_Lg; omega) (k) (by omega) (by omega) (e) (by omega) (by omega) (pw_g h 0 6) (by omega) (by omega)) ?_
  rintro u4 v3 ⟨rfl, x5, rfl, hx5a, hx5b⟩
  refine ⟨_, rfl, ?_⟩
  show pw X d h 194 13 [some (.ref 16), some (pw_i k), some (pw_i b), some (pw_i e), some (pw_i wt), none, none] [pw_i x5] _
  refine pw_ld E (pc' := 14) (st' := [.long ((Int32.ofInt x5).toInt64)]) rfl (fun _ => rfl) ?_
  refine pw_lst E (pc' := 16) (ls' := [some (.ref 16), some (pw_i k), some (pw_i b), some (pw_i e), some (pw_i wt), some (.long ((Int32.ofInt x5).toInt64)), none]) rfl rfl rfl rfl ?_
  refine pw_ld E (pc' := 18) (st' := [pw_i wt]) rfl (fun _ => rfl) ?_
  rcases (by omega : wt = 0 ∨ wt = 1 ∨ wt = 2 ∨ wt = 3 ∨ wt = 4 ∨ (wt < 0 ∨ 4 < wt)) with hs6 | hs6 | hs6 | hs6 | hs6 | hs6
  · refine pw_tswJ (o := 34) E (pc' := 52) rfl (by omega) (by omega) (by omega) (by rw [hs6]; rfl) (by decide) ?_
    refine pw_ld E (pc' := 53) (st' := [.ref 16]) rfl (fun _ => rfl) ?_
    refine pw_ld E (pc' := 54) (st' := [pw_i k, .ref 16]) rfl (fun _ => rfl) ?_
    refine pw_ld E (pc' := 55) (st' := [pw_i e, pw_i k, .ref 16]) rfl (fun _ => rfl) ?_
    obtain ⟨f7l, f7h, -⟩ := pw_obj (c := 0) I rfl
    refine pw_call (m' := 189) (As := [.ref 16, pw_i k, pw_i e]) (rest := []) (ls'' := [some (.ref 16), some (pw_i k), some (pw_i e)]) (Nat.le_trans (by decide) hd) E rfl (fun _ => pw_iV rfl rfl rfl rfl (pw_cellI f7h rfl)) (rfl : pm_ent 189 = some (3, 3, 11, 2, pmc_189)) rfl rfl (cm_189 (pw_dp hd (by decide)) I (k) (by omega) (by omega) (e) (by omega) (by omega)) ?_
    rintro u9 v8 ⟨rfl, w10, rfl⟩
    refine ⟨_, rfl, ?_⟩
    show pw X d h 194 58 [some (.ref 16), some (pw_i k), some (pw_i b), some (pw_i e), some (pw_i wt), some (.long ((Int32.ofInt x5).toInt64)), none] [.long w10] _
    refine pw_ld E (pc' := 59) (st' := [.ref 16, .long w10]) rfl (fun _ => rfl) ?_
    refine pw_ld E (pc' := 60) (st' := [pw_i k, .ref 16, .long w10]) rfl (fun _ => rfl) ?_
    refine pw_ld E (pc' := 61) (st' := [pw_i b, pw_i k, .ref 16, .long w10]) rfl (fun _ => rfl) ?_
    obtain ⟨f11l, f11h, -⟩ := pw_obj (c := 0) I rfl
    refine pw_call (m' := 189) (As := [.ref 16, pw_i k, pw_i b]) (rest := [.long w10]) (ls'' := [some (.ref 16), some (pw_i k), some (pw_i b)]) (Nat.le_trans (by decide) hd) E rfl (fun _ => pw_iV rfl rfl rfl rfl (pw_cellI f11h rfl)) (rfl : pm_ent 189 = some (3, 3, 11, 2, pmc_189)) rfl rfl (cm_189 (pw_dp hd (by decide)) I (k) (by omega) (by omega) (b) (by omega) (by omega)) ?_
    rintro u13 v12 ⟨rfl, w14, rfl⟩
    refine ⟨_, rfl, ?_⟩
    show pw X d h 194 64 [some (.ref 16), some (pw_i k), some (pw_i b), some (pw_i e), some (pw_i wt), some (.long ((Int32.ofInt x5).toInt64)), none] [.long w14, .long w10] _
    refine pw_ld E (pc' := 65) (st' := [.long (w10 - w14)]) rfl (fun _ => rfl) ?_
    refine pw_lret E rfl ?_
    exact ⟨rfl, ⟨_, rfl⟩⟩
  · refine pw_tswJ (o := 48) E (pc' := 66) rfl (by omega) (by omega) (by omega) (by rw [hs6]; rfl) (by decide) ?_
    refine pw_ld E (pc' := 68) (st' := [.long ((Int32.ofInt x5).toInt64)]) rfl (fun _ => rfl) ?_
    refine pw_ld E (pc' := 69) (st' := [.ref 16, .long ((Int32.ofInt x5).toInt64)]) rfl (fun _ => rfl) ?_
    refine pw_getR (b := 26) I E (c := 0) (k := 2) (pc' := 72) rfl rfl rfl rfl rfl rfl rfl ?_
    refine pw_ld E (pc' := 73) (st' := [pw_i k, .ref 26, .long ((Int32.ofInt x5).toInt64)]) rfl (fun _ => rfl) ?_
    refine pw_ld E (pc' := 74) (st' := [pw_i b, pw_i k, .ref 26, .long ((Int32.ofInt x5).toInt64)]) rfl (fun _ => rfl) ?_
    refine pw_ld E (pc' := 75) (st' := [.ref 16, pw_i b, pw_i k, .ref 26, .long ((Int32.ofInt x5).toInt64)]) rfl (fun _ => rfl) ?_
    refine pw_getI2 I E (c := 0) (k := 6) (pc' := 78) rfl rfl rfl rfl rfl rfl (fun hf15a hf15b => ?_)
    obtain ⟨f16l, f16h, -⟩ := pw_obj (c := 10) I rfl
    refine pw_call (m' := 20) (As := [.ref 26, pw_i k, pw_i b, pw_i (pw_g h 0 6)]) (rest := [.long ((Int32.ofInt x5).toInt64)]) (ls'' := [some (.ref 26), some (pw_i k), some (pw_i b), some (pw_i (pw_g h 0 6))]) (Nat.le_trans (by decide) hd) E rfl (fun _ => pw_iV rfl rfl rfl rfl (pw_cellI f16h rfl)) (rfl : pm_ent 20 = some (4, 4, 2, 0, pmc_20)) rfl rfl (cm_20 (pw_dp hd (by decide)) I 10 (by unfold pw_Lg; omega) (k) (by omega) (by omega) (b) (by omega) (by omega) (pw_g h 0 6) (by omega) (by omega)) ?_
    rintro u18 v17 ⟨rfl, x19, rfl, hx19a, hx19b⟩
    refine ⟨_, rfl, ?_⟩
    show pw X d h 194 81 [some (.ref 16), some (pw_i k), some (pw_i b), some (pw_i e), some (pw_i wt), some (.long ((Int32.ofInt x5).toInt64)), none] [pw_i x19, .long ((Int32.ofInt x5).toInt64)] _
    refine pw_ld E (pc' := 82) (st' := [.long ((Int32.ofInt x19).toInt64), .long ((Int32.ofInt x5).toInt64)]) rfl (fun _ => rfl) ?_
    refine pw_ld E (pc' := 83) (st' := [.long (((Int32.ofInt x5).toInt64) - ((Int32.ofInt x19).toInt64))]) rfl (fun _ => rfl) ?_
    refine pw_ld E (pc' := 84) (st' := [.ref 16, .long (((Int32.ofInt x5).toInt64) - ((Int32.ofInt x19).toInt64))]) rfl (fun _ => rfl) ?_
    refine pw_ld E (pc' := 85) (st' := [pw_i k, .ref 16, .long (((Int32.ofInt x5).toInt64) - ((Int32.ofInt x19).toInt64))]) rfl (fun _ => rfl) ?_
    refine pw_ld E (pc' := 86) (st' := [pw_i b, pw_i k, .ref 16, .long (((Int32.ofInt x5).toInt64) - ((Int32.ofInt x19).toInt64))]) rfl (fun _ => rfl) ?_
    obtain ⟨f20l, f20h, -⟩ := pw_obj (c := 0) I rfl
    refine pw_call (m' := 190) (As := [.ref 16, pw_i k, pw_i b]) (rest := [.long (((Int32.ofInt x5).toInt64) - ((Int32.ofInt x19).toInt64))]) (ls'' := [some (.ref 16), some (pw_i k), some (pw_i b)]) (Nat.le_trans (by decide) hd) E rfl (fun _ => pw_iV rfl rfl rfl rfl (pw_cellI f20h rfl)) (rfl : pm_ent 190 = some (3, 3, 11, 2, pmc_190)) rfl rfl (cm_190 (pw_dp hd (by decide)) I (k) (by omega) (by omega) (b) (by omega) (by omega)) ?_
    rintro u22 v21 ⟨rfl, w23, rfl⟩
    refine ⟨_, rfl, ?_⟩
    show pw X d h 194 89 [some (.ref 16), some (pw_i k), some (pw_i b), some (pw_i e), some (pw_i wt), some (.long ((Int32.ofInt x5).toInt64)), none] [.long w23, .long (((Int32.ofInt x5).toInt64) - ((Int32.ofInt x19).toInt64))] _
    refine pw_ld E (pc' := 90) (st' := [.long ((((Int32.ofInt x5).toInt64) - ((Int32.ofInt x19).toInt64)) * w23)]) rfl (fun _ => rfl) ?_
    refine pw_ld E (pc' := 91) (st' := [.ref 16, .long ((((Int32.ofInt x5).toInt64) - ((Int32.ofInt x19).toInt64)) * w23)]) rfl (fun _ => rfl) ?_
    refine pw_ld E (pc' := 92) (st' := [pw_i k, .ref 16, .long ((((Int32.ofInt x5).toInt64) - ((Int32.ofInt x19).toInt64)) * w23)]) rfl (fun _ => rfl) ?_
    refine pw_ld E (pc' := 93) (st' := [pw_i b, pw_i k, .ref 16, .long ((((Int32.ofInt x5).toInt64) - ((Int32.ofInt x19).toInt64)) * w23)]) rfl (fun _ => rfl) ?_
    obtain ⟨f24l, f24h, -⟩ := pw_obj (c := 0) I rfl
    refine pw_call (m' := 188) (As := [.ref 16, pw_i k, pw_i b]) (rest := [.long ((((Int32.ofInt x5).toInt64) - ((Int32.ofInt x19).toInt64)) * w23)]) (ls'' := [some (.ref 16), some (pw_i k), some (pw_i b)]) (Nat.le_trans (by decide) hd) E rfl (fun _ => pw_iV rfl rfl rfl rfl (pw_cellI f24h rfl)) (rfl : pm_ent 188 = some (3, 3, 11, 2, pmc_188)) rfl rfl (cm_188 (pw_dp hd (by decide)) I (k) (by omega) (by omega) (b) (by omega) (by omega)) ?_
    rintro u26 v25 ⟨rfl, w27, rfl⟩
    refine ⟨_, rfl, ?_⟩
    show pw X d h 194 96 [some (.ref 16), some (pw_i k), some (pw_i b), some (pw_i e), some (pw_i wt), some (.long ((Int32.ofInt x5).toInt64)), none] [.long w27, .long ((((Int32.ofInt x5).toInt64) - ((Int32.ofInt x19).toInt64)) * w23)] _
    refine pw_ld E (pc' := 97) (st' := [.long (((((Int32.ofInt x5).toInt64) - ((Int32.ofInt x19).toInt64)) * w23) * w27)]) rfl (fun _ => rfl) ?_
    refine pw_lret E rfl ?_
    exact ⟨rfl, ⟨_, rfl⟩⟩
  · refine pw_tswJ (o := 80) E (pc' := 98) rfl (by omega) (by omega) (by omega) (by rw [hs6]; rfl) (by decide) ?_
    refine pw_ld E (pc' := 100) (st' := [.long ((Int32.ofInt x5).toInt64)]) rfl (fun _ => rfl) ?_
    refine pw_ld E (pc' := 101) (st' := [.ref 16, .long ((Int32.ofInt x5).toInt64)]) rfl (fun _ => rfl) ?_
    refine pw_ld E (pc' := 102) (st' := [pw_i k, .ref 16, .long ((Int32.ofInt x5).toInt64)]) rfl (fun _ => rfl) ?_
    refine pw_ld E (pc' := 103) (st' := [pw_i e, pw_i k, .ref 16, .long ((Int32.ofInt x5).toInt64)]) rfl (fun _ => rfl) ?_
    obtain ⟨f28l, f28h, -⟩ := pw_obj (c := 0) I rfl
    refine pw_call (m' := 190) (As := [.ref 16, pw_i k, pw_i e]) (rest := [.long ((Int32.ofInt x5).toInt64)]) (ls'' := [some (.ref 16), some (pw_i k), some (pw_i e)]) (Nat.le_trans (by decide) hd) E rfl (fun _ => pw_iV rfl rfl rfl rfl (pw_cellI f28h rfl)) (rfl : pm_ent 190 = some (3, 3, 11, 2, pmc_190)) rfl rfl (cm_190 (pw_dp hd (by decide)) I (k) (by omega) (by omega) (e) (by omega) (by omega)) ?_
    rintro u30 v29 ⟨rfl, w31, rfl⟩
    refine ⟨_, rfl, ?_⟩
    show pw X d h 194 106 [some (.ref 16), some (pw_i k), some (pw_i b), some (pw_i e), some (pw_i wt), some (.long ((Int32.ofInt x5).toInt64)), none] [.long w31, .long ((Int32.ofInt x5).toInt64)] _
    refine pw_ld E (pc' := 107) (st' := [.ref 16, .long w31, .long ((Int32.ofInt x5).toInt64)]) rfl (fun _ => rfl) ?_
    refine pw_ld E (pc' := 108) (st' := [pw_i k, .ref 16, .long w31, .long ((Int32.ofInt x5).toInt64)]) rfl (fun _ => rfl) ?_
    refine pw_ld E (pc' := 109) (st' := [pw_i b, pw_i k, .ref 16, .long w31, .long ((Int32.ofInt x5).toInt64)]) rfl (fun _ => rfl) ?_
    obtain ⟨f32l, f32h, -⟩ := pw_obj (c := 0) I rfl
    refine pw_call (m' := 190) (As := [.ref 16, pw_i k, pw_i b]) (rest := [.long w31, .long ((Int32.ofInt x5).toInt64)]) (ls'' := [some (.ref 16), some (pw_i k), some (pw_i b)]) (Nat.le_trans (by decide) hd) E rfl (fun _ => pw_iV rfl rfl rfl rfl (pw_cellI f32h rfl)) (rfl : pm_ent 190 = some (3, 3, 11, 2, pmc_190)) rfl rfl (cm_190 (pw_dp hd (by decide)) I (k) (by omega) (by omega) (b) (by omega) (by omega)) ?_
    rintro u34 v33 ⟨rfl, w35, rfl⟩
    refine ⟨_, rfl, ?_⟩
    show pw X d h 194 112 [some (.ref 16), some (pw_i k), some (pw_i b), some (pw_i e), some (pw_i wt), some (.long ((Int32.ofInt x5).toInt64)), none] [.long w35, .long w31, .long ((Int32.ofInt x5).toInt64)] _
    refine pw_ld E (pc' := 113) (st' := [.long (w31 - w35), .long ((Int32.ofInt x5).toInt64)]) rfl (fun _ => rfl) ?_
    refine pw_ld E (pc' := 114) (st' := [.long (((Int32.ofInt x5).toInt64) * (w31 - w35))]) rfl (fun _ => rfl) ?_
    refine pw_ld E (pc' := 115) (st' := [.ref 16, .long (((Int32.ofInt x5).toInt64) * (w31 - w35))]) rfl (fun _ => rfl) ?_
    refine pw_ld E (pc' := 116) (st' := [pw_i k, .ref 16, .long (((Int32.ofInt x5).toInt64) * (w31 - w35))]) rfl (fun _ => rfl) ?_
    refine pw_ld E (pc' := 117) (st' := [pw_i b, pw_i k, .ref 16, .long (((Int32.ofInt x5).toInt64) * (w31 - w35))]) rfl (fun _ => rfl) ?_
    obtain ⟨f36l, f36h, -⟩ := pw_obj (c := 0) I rfl
    refine pw_call (m' := 188) (As := [.ref 16, pw_i k, pw_i b]) (rest := [.long (((Int32.ofInt x5).toInt64) * (w31 - w35))]) (ls'' := [some (.ref 16), some (pw_i k), some (pw_i b)]) (Nat.le_trans (by decide) hd) E rfl (fun _ => pw_iV rfl rfl rfl rfl (pw_cellI f36h rfl)) (rfl : pm_ent 188 = some (3, 3, 11, 2, pmc_188)) rfl rfl (cm_188 (pw_dp hd (by decide)) I (k) (by omega) (by omega) (b) (by omega) (by omega)) ?_
    rintro u38 v37 ⟨rfl, w39, rfl⟩
    refine ⟨_, rfl, ?_⟩
    show pw X d h 194 120 [some (.ref 16), some (pw_i k), some (pw_i b), some (pw_i e), some (pw_i wt), some (.long ((Int32.ofInt x5).toInt64)), none] [.long w39, .long (((Int32.ofInt x5).toInt64) * (w31 - w35))] _
    refine pw_ld E (pc' := 121) (st' := [.long ((((Int32.ofInt x5).toInt64) * (w31 - w35)) * w39)]) rfl (fun _ => rfl) ?_
    refine pw_lret E rfl ?_
    exact ⟨rfl, ⟨_, rfl⟩⟩
  · refine pw_tswJ (o := 104) E (pc' := 122) rfl (by omega) (by omega) (by omega) (by rw [hs6]; rfl) (by decide) ?_
    refine pw_ld E (pc' := 124) (st' := [.long ((Int32.ofInt x5).toInt64)]) rfl (fun _ => rfl) ?_
    refine pw_ld E (pc' := 125) (st' := [.ref 16, .long ((Int32.ofInt x5).toInt64)]) rfl (fun _ => rfl) ?_
    refine pw_ld E (pc' := 126) (st' := [pw_i k, .ref 16, .long ((Int32.ofInt x5).toInt64)]) rfl (fun _ => rfl) ?_
    refine pw_ld E (pc' := 127) (st' := [pw_i e, pw_i k, .ref 16, .long ((Int32.ofInt x5).toInt64)]) rfl (fun _ => rfl) ?_
    obtain ⟨f40l, f40h, -⟩ := pw_obj (c := 0) I rfl
    refine pw_call (m' := 190) (As := [.ref 16, pw_i k, pw_i e]) (rest := [.long ((Int32.ofInt x5).toInt64)]) (ls'' := [some (.ref 16), some (pw_i k), some (pw_i e)]) (Nat.le_trans (by decide) hd) E rfl (fun _ => pw_iV rfl rfl rfl rfl (pw_cellI f40h rfl)) (rfl : pm_ent 190 = some (3, 3, 11, 2, pmc_190)) rfl rfl (cm_190 (pw_dp hd (by decide)) I (k) (by omega) (by omega) (e) (by omega) (by omega)) ?_
    rintro u42 v41 ⟨rfl, w43, rfl⟩
    refine ⟨_, rfl, ?_⟩
    show pw X d h 194 130 [some (.ref 16), some (pw_i k), some (pw_i b), some (pw_i e), some (pw_i wt), some (.long ((Int32.ofInt x5).toInt64)), none] [.long w43, .long ((Int32.ofInt x5).toInt64)] _
    refine pw_ld E (pc' := 131) (st' := [.long (((Int32.ofInt x5).toInt64) * w43)]) rfl (fun _ => rfl) ?_
    refine pw_ld E (pc' := 132) (st' := [.ref 16, .long (((Int32.ofInt x5).toInt64) * w43)]) rfl (fun _ => rfl) ?_
    refine pw_ld E (pc' := 133) (st' := [pw_i k, .ref 16, .long (((Int32.ofInt x5).toInt64) * w43)]) rfl (fun _ => rfl) ?_
    refine pw_ld E (pc' := 134) (st' := [pw_i e, pw_i k, .ref 16, .long (((Int32.ofInt x5).toInt64) * w43)]) rfl (fun _ => rfl) ?_
    obtain ⟨f44l, f44h, -⟩ := pw_obj (c := 0) I rfl
    refine pw_call (m' := 188) (As := [.ref 16, pw_i k, pw_i e]) (rest := [.long (((Int32.ofInt x5).toInt64) * w43)]) (ls'' := [some (.ref 16), some (pw_i k), some (pw_i e)]) (Nat.le_trans (by decide) hd) E rfl (fun _ => pw_iV rfl rfl rfl rfl (pw_cellI f44h rfl)) (rfl : pm_ent 188 = some (3, 3, 11, 2, pmc_188)) rfl rfl (cm_188 (pw_dp hd (by decide)) I (k) (by omega) (by omega) (e) (by omega) (by omega)) ?_
    rintro u46 v45 ⟨rfl, w47, rfl⟩
    refine ⟨_, rfl, ?_⟩
    show pw X d h 194 137 [some (.ref 16), some (pw_i k), some (pw_i b), some (pw_i e), some (pw_i wt), some (.long ((Int32.ofInt x5).toInt64)), none] [.long w47, .long (((Int32.ofInt x5).toInt64) * w43)] _
    refine pw_ld E (pc' := 138) (st' := [.ref 16, .long w47, .long (((Int32.ofInt x5).toInt64) * w43)]) rfl (fun _ => rfl) ?_
    refine pw_ld E (pc' := 139) (st' := [pw_i k, .ref 16, .long w47, .long (((Int32.ofInt x5).toInt64) * w43)]) rfl (fun _ => rfl) ?_
    refine pw_ld E (pc' := 140) (st' := [pw_i b, pw_i k, .ref 16, .long w47, .long (((Int32.ofInt x5).toInt64) * w43)]) rfl (fun _ => rfl) ?_
    obtain ⟨f48l, f48h, -⟩ := pw_obj (c := 0) I rfl
    refine pw_call (m' := 188) (As := [.ref 16, pw_i k, pw_i b]) (rest := [.long w47, .long (((Int32.ofInt x5).toInt64) * w43)]) (ls'' := [some (.ref 16), some (pw_i k), some (pw_i b)]) (Nat.le_trans (by decide) hd) E rfl (fun _ => pw_iV rfl rfl rfl rfl (pw_cellI f48h rfl)) (rfl : pm_ent 188 = some (3, 3, 11, 2, pmc_188)) rfl rfl (cm_188 (pw_dp hd (by decide)) I (k) (by omega) (by omega) (b) (by omega) (by omega)) ?_
    rintro u50 v49 ⟨rfl, w51, rfl⟩
    refine ⟨_, rfl, ?_⟩
    show pw X d h 194 143 [some (.ref 16), some (pw_i k), some (pw_i b), some (pw_i e), some (pw_i wt), some (.long ((Int32.ofInt x5).toInt64)), none] [.long w51, .long w47, .long (((Int32.ofInt x5).toInt64) * w43)] _
    refine pw_ld E (pc' := 144) (st' := [.long (w47 - w51), .long (((Int32.ofInt x5).toInt64) * w43)]) rfl (fun _ => rfl) ?_
    refine pw_ld E (pc' := 145) (st' := [.long ((((Int32.ofInt x5).toInt64) * w43) * (w47 - w51))]) rfl (fun _ => rfl) ?_
    refine pw_lret E rfl ?_
    exact ⟨rfl, ⟨_, rfl⟩⟩
  · refine pw_tswJ (o := 128) E (pc' := 146) rfl (by omega) (by omega) (by omega) (by rw [hs6]; rfl) (by decide) ?_
    refine pw_ld E (pc' := 147) (st' := [.ref 16]) rfl (fun _ => rfl) ?_
    refine pw_ld E (pc' := 148) (st' := [pw_i k, .ref 16]) rfl (fun _ => rfl) ?_
    refine pw_ld E (pc' := 149) (st' := [pw_i e, pw_i k, .ref 16]) rfl (fun _ => rfl) ?_
    obtain ⟨f52l, f52h, -⟩ := pw_obj (c := 0) I rfl
    refine pw_call (m' := 192) (As := [.ref 16, pw_i k, pw_i e]) (rest := []) (ls'' := [some (.ref 16), some (pw_i k), some (pw_i e)]) (Nat.le_trans (by decide) hd) E rfl (fun _ => pw_iV rfl rfl rfl rfl (pw_cellI f52h rfl)) (rfl : pm_ent 192 = some (3, 3, 11, 2, pmc_192)) rfl rfl (cm_192 (pw_dp hd (by decide)) I (k) (by omega) (by omega) (e) (by omega) (by omega)) ?_
    rintro u54 v53 ⟨rfl, w55, rfl⟩
    refine ⟨_, rfl, ?_⟩
    show pw X d h 194 152 [some (.ref 16), some (pw_i k), some (pw_i b), some (pw_i e), some (pw_i wt), some (.long ((Int32.ofInt x5).toInt64)), none] [.long w55] _
    refine pw_ld E (pc' := 153) (st' := [.ref 16, .long w55]) rfl (fun _ => rfl) ?_
    refine pw_ld E (pc' := 154) (st' := [pw_i k, .ref 16, .long w55]) rfl (fun _ => rfl) ?_
    refine pw_ld E (pc' := 155) (st' := [pw_i b, pw_i k, .ref 16, .long w55]) rfl (fun _ => rfl) ?_
    obtain ⟨f56l, f56h, -⟩ := pw_obj (c := 0) I rfl
    refine pw_call (m' := 192) (As := [.ref 16, pw_i k, pw_i b]) (rest := [.long w55]) (ls'' := [some (.ref 16), some (pw_i k), some (pw_i b)]) (Nat.le_trans (by decide) hd) E rfl (fun _ => pw_iV rfl rfl rfl rfl (pw_cellI f56h rfl)) (rfl : pm_ent 192 = some (3, 3, 11, 2, pmc_192)) rfl rfl (cm_192 (pw_dp hd (by decide)) I (k) (by omega) (by omega) (b) (by omega) (by omega)) ?_
    rintro u58 v57 ⟨rfl, w59, rfl⟩
    refine ⟨_, rfl, ?_⟩
    show pw X d h 194 158 [some (.ref 16), some (pw_i k), some (pw_i b), some (pw_i e), some (pw_i wt), some (.long ((Int32.ofInt x5).toInt64)), none] [.long w59, .long w55] _
    refine pw_ld E (pc' := 159) (st' := [.long (w55 - w59)]) rfl (fun _ => rfl) ?_
    refine pw_lret E rfl ?_
    exact ⟨rfl, ⟨_, rfl⟩⟩
  · refine pw_tswD E (pc' := 160) rfl (by omega) (by omega) hs6 (by decide) ?_
    refine pw_ld E (pc' := 161) (st' := [.ref 16]) rfl (fun _ => rfl) ?_
    refine pw_ld E (pc' := 162) (st' := [pw_i k, .ref 16]) rfl (fun _ => rfl) ?_
    refine pw_ld E (pc' := 163) (st' := [pw_i e, pw_i k, .ref 16]) rfl (fun _ => rfl) ?_
    obtain ⟨f60l, f60h, -⟩ := pw_obj (c := 0) I rfl
    refine pw_call (m' := 191) (As := [.ref 16, pw_i k, pw_i e]) (rest := []) (ls'' := [some (.ref 16), some (pw_i k), some (pw_i e)]) (Nat.le_trans (by decide) hd) E rfl (fun _ => pw_iV rfl rfl rfl rfl (pw_cellI f60h rfl)) (rfl : pm_ent 191 = some (3, 3, 11, 2, pmc_191)) rfl rfl (cm_191 (pw_dp hd (by decide)) I (k) (by omega) (by omega) (e) (by omega) (by omega)) ?_
    rintro u62 v61 ⟨rfl, w63, rfl⟩
    refine ⟨_, rfl, ?_⟩
    show pw X d h 194 166 [some (.ref 16), some (pw_i k), some (pw_i b), some (pw_i e), some (pw_i wt), some (.long ((Int32.ofInt x5).toInt64)), none] [.long w63] _
    refine pw_ld E (pc' := 167) (st' := [.ref 16, .long w63]) rfl (fun _ => rfl) ?_
    refine pw_ld E (pc' := 168) (st' := [pw_i k, .ref 16, .long w63]) rfl (fun _ => rfl) ?_
    refine pw_ld E (pc' := 169) (st' := [pw_i b, pw_i k, .ref 16, .long w63]) rfl (fun _ => rfl) ?_
    obtain ⟨f64l, f64h, -⟩ := pw_obj (c := 0) I rfl
    refine pw_call (m' := 191) (As := [.ref 16, pw_i k, pw_i b]) (rest := [.long w63]) (ls'' := [some (.ref 16), some (pw_i k), some (pw_i b)]) (Nat.le_trans (by decide) hd) E rfl (fun _ => pw_iV rfl rfl rfl rfl (pw_cellI f64h rfl)) (rfl : pm_ent 191 = some (3, 3, 11, 2, pmc_191)) rfl rfl (cm_191 (pw_dp hd (by decide)) I (k) (by omega) (by omega) (b) (by omega) (by omega)) ?_
    rintro u66 v65 ⟨rfl, w67, rfl⟩
    refine ⟨_, rfl, ?_⟩
    show pw X d h 194 172 [some (.ref 16), some (pw_i k), some (pw_i b), some (pw_i e), some (pw_i wt), some (.long ((Int32.ofInt x5).toInt64)), none] [.long w67, .long w63] _
    refine pw_ld E (pc' := 173) (st' := [.long (w63 - w67)]) rfl (fun _ => rfl) ?_
    refine pw_lret E rfl ?_
    exact ⟨rfl, ⟨_, rfl⟩⟩
set_option maxHeartbeats 4000000 in
theorem cm_193 {X : List (Nat × List Value)} {d : Nat} {h : pm_H} (hd : 6 ≤ d) (I : pw_I h) (bk : Int) (hbk1 : (-2147483648) ≤ bk) (hbk2 : bk ≤ 2147483647) (b : Int) (hb1 : (-2147483648) ≤ b) (hb2 : b ≤ 2147483647) (e : Int) (he1 : (-2147483648) ≤ e) (he2 : e ≤ 2147483647) (wt : Int) (hwt1 : (-2147483648) ≤ wt) (hwt2 : wt ≤ 2147483647) : pw X d h 193 0 [some (.ref 16), some (pw_i bk), some (pw_i b), some (pw_i e), some (pw_i wt), none, none, none] [] (fun h' v => h = h' ∧ (v = .inr () ∨ (∃ w : Int64, v = .inl (some (.long w))))) := by
  have E : pm_ent 193 = some (5, 8, 11, 2, pmc_193) := rfl
  refine pw_ld E (pc' := 1) (st' := [pw_i bk]) rfl (fun _ => rfl) ?_
  refine pw_call (m' := 122) (As := [pw_i bk]) (rest := []) (ls'' := [some (pw_i bk)]) (Nat.le_trans (by decide) hd) E rfl (fun _ => pw_iS rfl rfl rfl) (rfl : pm_ent 122 = some (1, 1, 11, 1, pmc_122)) rfl rfl (cm_122 (pw_dp hd (by decide)) I (bk) (by omega) (by omega)) ?_
  rintro u2 v1 ⟨rfl, x3, rfl, hx3a, hx3b, hx3r⟩
  refine ⟨_, rfl, ?_⟩
  show pw X d h 193 4 [some (.ref 16), some (pw_i bk), some (pw_i b), some (pw_i e), some (pw_i wt), none, none, none] [pw_i x3] _
  change (x3 = 1 ∧ 0 ≤ bk ∧ bk ≤ 1) ∨ (x3 = 0 ∧ ¬ (0 ≤ bk ∧ bk ≤ 1)) at hx3r
  rcases (by omega : x3 = 1 ∨ x3 = 0) with hb4 | hb4
  · skip
    refine pw_if E (pc' := 25) rfl (by decide) (by omega) (by omega) ?_ ?_
    · intro hc5
      change x3 = (0 : Int) at hc5
      exfalso; omega
    · intro hc6
      change ¬ (x3 = (0 : Int)) at hc6
      refine pw_ld E (pc' := 8) (st' := [pw_i b]) rfl (fun _ => rfl) ?_
      refine pw_ld E (pc' := 9) (st' := [pw_i e, pw_i b]) rfl (fun _ => rfl) ?_
      refine pw_call (m' := 131) (As := [pw_i b, pw_i e]) (rest := []) (ls'' := [some (pw_i b), some (pw_i e)]) (Nat.le_trans (by decide) hd) E rfl (fun _ => pw_iS rfl rfl rfl) (rfl : pm_ent 131 = some (2, 2, 11, 1, pmc_131)) rfl rfl (cm_131 (pw_dp hd (by decide)) I (b) (by omega) (by omega) (e) (by omega) (by omega)) ?_
      rintro u8 v7 ⟨rfl, x9, rfl, hx9a, hx9b, hx9r⟩
      refine ⟨_, rfl, ?_⟩
      show pw X d h 193 12 [some (.ref 16), some (pw_i bk), some (pw_i b), some (pw_i e), some (pw_i wt), none, none, none] [pw_i x9] _
      change (x9 = 1 ∧ 0 ≤ b ∧ b ≤ 11 ∧ 0 ≤ e ∧ e ≤ 11) ∨ x9 = 0 at hx9r
      rcases (by omega : x9 = 1 ∨ x9 = 0) with hb10 | hb10
      · skip
        refine pw_if E (pc' := 25) rfl (by decide) (by omega) (by omega) ?_ ?_
        · intro hc11
          change x9 = (0 : Int) at hc11
          exfalso; omega
        · intro hc12
          change ¬ (x9 = (0 : Int)) at hc12
          refine pw_ld E (pc' := 17) (st' := [pw_i wt]) rfl (fun _ => rfl) ?_
          refine pw_ld E (pc' := 18) (st' := [pw_i 0, pw_i wt]) rfl (fun _ => rfl) ?_
          refine pw_ld E (pc' := 19) (st' := [pw_i 5, pw_i 0, pw_i wt]) rfl (fun _ => rfl) ?_
          refine pw_call (m' := 121) (As := [pw_i wt, pw_i 0, pw_i 5]) (rest := []) (ls'' := [some (pw_i wt), some (pw_i 0), some (pw_i 5)]) (Nat.le_trans (by decide) hd) E rfl (fun _ => pw_iS rfl rfl rfl) (rfl : pm_ent 121 = some (3, 3, 11, 1, pmc_121)) rfl rfl (cm_121 (pw_dp hd (by decide)) I (wt) (by omega) (by omega) (0) (by omega) (by omega) (5) (by omega) (by omega)) ?_
          rintro u14 v13 ⟨rfl, x15, rfl, hx15a, hx15b, hx15r⟩
          refine ⟨_, rfl, ?_⟩
          show pw X d h 193 22 [some (.ref 16), some (pw_i bk), some (pw_i b), some (pw_i e), some (pw_i wt), none, none, none] [pw_i x15] _
          change (x15 = 1 ∧ 0 ≤ wt ∧ wt ≤ 5) ∨ (x15 = 0 ∧ ¬ (0 ≤ wt ∧ wt ≤ 5)) at hx15r
          rcases (by omega : x15 = 1 ∨ x15 = 0) with hb16 | hb16
          · skip
            refine pw_if E (pc' := 33) rfl (by decide) (by omega) (by omega) ?_ ?_
            · intro hc17
              change x15 ≠ (0 : Int) at hc17
              refine pw_ld E (pc' := 34) (st' := [.long (Int64.ofNat 0)]) rfl (fun _ => rfl) ?_
              refine pw_lst E (pc' := 36) (ls' := [some (.ref 16), some (pw_i bk), some (pw_i b), some (pw_i e), some (pw_i wt), some (.long (Int64.ofNat 0)), none, none]) rfl rfl rfl rfl ?_
              refine pw_ld E (pc' := 37) (st' := [pw_i 0]) rfl (fun _ => rfl) ?_
              refine pw_ist E (pc' := 39) (ls' := [some (.ref 16), some (pw_i bk), some (pw_i b), some (pw_i e), some (pw_i wt), some (.long (Int64.ofNat 0)), none, some (pw_i 0)]) rfl rfl rfl rfl ?_
              have L39 : ∀ (n39 : Nat) (k39_5 : Int64) (k39_7 : Int), 0 ≤ k39_7 → k39_7 ≤ 24 → (24 - k39_7).toNat = n39 → pw X d h 193 39 [some (.ref 16), some (pw_i bk), some (pw_i b), some (pw_i e), some (pw_i wt), some (.long k39_5), none, some (pw_i k39_7)] [] (fun h' v => h = h' ∧ (v = .inr () ∨ (∃ w : Int64, v = .inl (some (.long w))))) := by
                intro n39
                induction n39 using Nat.strongRecOn with
                | ind n39 ih39 =>
                  intro k39_5 k39_7 k39_7a k39_7b hm39
                  refine pw_ld E (pc' := 41) (st' := [pw_i k39_7]) rfl (fun _ => rfl) ?_
                  refine pw_bip E (pc' := 43) rfl rfl (by decide) ?_
                  refine pw_if2 E (pc' := 94) rfl (by decide) (by omega) (by omega) (by decide) (by decide) ?_ ?_
                  · intro hc18
                    change (24 : Int) ≤ k39_7 at hc18
                    refine pw_ld E (pc' := 96) (st' := [.long k39_5]) rfl (fun _ => rfl) ?_
                    refine pw_lret E rfl ?_
                    exact ⟨rfl, Or.inr ⟨_, rfl⟩⟩
                  · intro hc19
                    change ¬ ((24 : Int) ≤ k39_7) at hc19
                    refine pw_ld E (pc' := 47) (st' := [.ref 16]) rfl (fun _ => rfl) ?_
                    refine pw_getR (b := 17) I E (c := 0) (k := 0) (pc' := 50) rfl rfl rfl rfl rfl rfl rfl ?_
                    refine pw_ld E (pc' := 52) (st' := [pw_i k39_7, .ref 17]) rfl (fun _ => rfl) ?_
                    refine pw_ld E (pc' := 53) (st' := [pw_i bk, pw_i k39_7, .ref 17]) rfl (fun _ => rfl) ?_
                    obtain ⟨f20l, f20h, -⟩ := pw_obj (c := 1) I rfl
                    refine pw_call (m' := 63) (As := [.ref 17, pw_i k39_7, pw_i bk]) (rest := []) (ls'' := [some (.ref 17), some (pw_i k39_7), some (pw_i bk)]) (Nat.le_trans (by decide) hd) E rfl (fun _ => pw_iV rfl rfl rfl rfl (pw_cellI f20h rfl)) (rfl : pm_ent 63 = some (3, 3, 6, 1, pmc_63)) rfl rfl (cm_63 (pw_dp hd (by decide)) I (k39_7) (by omega) (by omega) (bk) (by omega) (by omega)) ?_
                    rintro u22 v21 ⟨rfl, x23, rfl, hx23a, hx23b⟩
                    refine ⟨_, rfl, ?_⟩
                    show pw X d h 193 56 [some (.ref 16), some (pw_i bk), some (pw_i b), some (pw_i e), some (pw_i wt), some (.long k39_5), none, some (pw_i k39_7)] [pw_i x23] _
                    refine pw_if E (pc' := 88) rfl (by decide) (by omega) (by omega) ?_ ?_
                    · intro hc24
                      change x23 = (0 : Int) at hc24
                      refine pw_inc E (pc' := 91) (ls' := [some (.ref 16), some (pw_i bk), some (pw_i b), some (pw_i e), some (pw_i wt), some (.long k39_5), none, some (pw_i (k39_7 + 1))]) rfl rfl rfl rfl ?_
                      refine pw_goto E (pc' := 39) rfl (by decide) ?_
                      exact ih39 _ (by omega) (k39_5) (k39_7 + 1)  (by omega) (by omega)  rfl
                    · intro hc25
                      change ¬ (x23 = (0 : Int)) at hc25
                      refine pw_ld E (pc' := 60) (st' := [.ref 16]) rfl (fun _ => rfl) ?_
                      refine pw_getR (b := 26) I E (c := 0) (k := 2) (pc' := 63) rfl rfl rfl rfl rfl rfl rfl ?_
                      refine pw_ld E (pc' := 65) (st' := [pw_i k39_7, .ref 26]) rfl (fun _ => rfl) ?_
                      refine pw_ld E (pc' := 66) (st' := [pw_i b, pw_i k39_7, .ref 26]) rfl (fun _ => rfl) ?_
                      refine pw_ld E (pc' := 67) (st' := [pw_i e, pw_i b, pw_i k39_7, .ref 26]) rfl (fun _ => rfl) ?_
                      obtain ⟨f26l, f26h, -⟩ := pw_obj (c := 10) I rfl
                      refine pw_call (m' := 23) (As := [.ref 26, pw_i k39_7, pw_i b, pw_i e]) (rest := []) (ls'' := [some (.ref 26), some (pw_i k39_7), some (pw_i b), some (pw_i e)]) (Nat.le_trans (by decide) hd) E rfl (fun _ => pw_iV rfl rfl rfl rfl (pw_cellI f26h rfl)) (rfl : pm_ent 23 = some (4, 4, 2, 1, pmc_23)) rfl rfl (cm_23 (pw_dp hd (by decide)) I 10 (by unfold pw_Lg; omega) (k39_7) (by omega) (by omega) (b) (by omega) (by omega) (e) (by omega) (by omega)) ?_
                      rintro u28 v27 ⟨rfl, x29, rfl, hx29a, hx29b⟩
                      refine ⟨_, rfl, ?_⟩
                      show pw X d h 193 70 [some (.ref 16), some (pw_i bk), some (pw_i b), some (pw_i e), some (pw_i wt), some (.long k39_5), none, some (pw_i k39_7)] [pw_i x29] _
                      refine pw_if E (pc' := 88) rfl (by decide) (by omega) (by omega) ?_ ?_
                      · intro hc30
                        change x29 = (0 : Int) at hc30
                        refine pw_inc E (pc' := 91) (ls' := [some (.ref 16), some (pw_i bk), some (pw_i b), some (pw_i e), some (pw_i wt), some (.long k39_5), none, some (pw_i (k39_7 + 1))]) rfl rfl rfl rfl ?_
                        refine pw_goto E (pc' := 39) rfl (by decide) ?_
                        exact ih39 _ (by omega) (k39_5) (k39_7 + 1)  (by omega) (by omega)  rfl
                      · intro hc31
                        change ¬ (x29 = (0 : Int)) at hc31
                        refine pw_ld E (pc' := 75) (st' := [.long k39_5]) rfl (fun _ => rfl) ?_
                        refine pw_ld E (pc' := 76) (st' := [.ref 16, .long k39_5]) rfl (fun _ => rfl) ?_
                        refine pw_ld E (pc' := 78) (st' := [pw_i k39_7, .ref 16, .long k39_5]) rfl (fun _ => rfl) ?_
                        refine pw_ld E (pc' := 79) (st' := [pw_i b, pw_i k39_7, .ref 16, .long k39_5]) rfl (fun _ => rfl) ?_
                        refine pw_ld E (pc' := 80) (st' := [pw_i e, pw_i b, pw_i k39_7, .ref 16, .long k39_5]) rfl (fun _ => rfl) ?_
                        refine pw_ld E (pc' := 82) (st' := [pw_i wt, pw_i e, pw_i b, pw_i k39_7, .ref 16, .long k39_5]) rfl (fun _ => rfl) ?_
                        obtain ⟨f32l, f32h, -⟩ := pw_obj (c := 0) I rfl
                        refine pw_call (m' := 194) (As := [.ref 16, pw_i k39_7, pw_i b, pw_i e, pw_i wt]) (rest := [.long k39_5]) (ls'' := [some (.ref 16), some (pw_i k39_7), some (pw_i b), some (pw_i e), some (pw_i wt), none, none]) (Nat.le_trans (by decide) hd) E rfl (fun _ => pw_iV rfl rfl rfl rfl (pw_cellI f32h rfl)) (rfl : pm_ent 194 = some (5, 7, 11, 2, pmc_194)) rfl rfl (cm_194 (pw_dp hd (by decide)) I (k39_7) (by omega) (by omega) (b) (by omega) (by omega) (e) (by omega) (by omega) (wt) (by omega) (by omega)) ?_
                        rintro u34 v33 ⟨rfl, w35, rfl⟩
                        refine ⟨_, rfl, ?_⟩
                        show pw X d h 193 85 [some (.ref 16), some (pw_i bk), some (pw_i b), some (pw_i e), some (pw_i wt), some (.long k39_5), none, some (pw_i k39_7)] [.long w35, .long k39_5] _
                        refine pw_ld E (pc' := 86) (st' := [.long (k39_5 + w35)]) rfl (fun _ => rfl) ?_
                        refine pw_lst E (pc' := 88) (ls' := [some (.ref 16), some (pw_i bk), some (pw_i b), some (pw_i e), some (pw_i wt), some (.long (k39_5 + w35)), none, some (pw_i k39_7)]) rfl rfl rfl rfl ?_
                        refine pw_inc E (pc' := 91) (ls' := [some (.ref 16), some (pw_i bk), some (pw_i b), some (pw_i e), some (pw_i wt), some (.long (k39_5 + w35)), none, some (pw_i (k39_7 + 1))]) rfl rfl rfl rfl ?_
                        refine pw_goto E (pc' := 39) rfl (by decide) ?_
                        exact ih39 _ (by omega) (k39_5 + w35) (k39_7 + 1)  (by omega) (by omega)  rfl
              exact L39 _ (Int64.ofNat 0) (0)  (by omega) (by omega)  rfl
            · intro hc36
              change ¬ (x15 ≠ (0 : Int)) at hc36
              exfalso; omega
          · skip
            refine pw_if E (pc' := 33) rfl (by decide) (by omega) (by omega) ?_ ?_
            · intro hc38
              change x15 ≠ (0 : Int) at hc38
              exfalso; omega
            · intro hc39
              change ¬ (x15 ≠ (0 : Int)) at hc39
              refine pw_thr E rfl rfl I.2 ?_
              exact ⟨rfl, Or.inl rfl⟩
      · skip
        refine pw_if E (pc' := 25) rfl (by decide) (by omega) (by omega) ?_ ?_
        · intro hc41
          change x9 = (0 : Int) at hc41
          refine pw_thr E rfl rfl I.2 ?_
          exact ⟨rfl, Or.inl rfl⟩
        · intro hc42
          change ¬ (x9 = (0 : Int)) at hc42
          exfalso; omega
  · skip
    refine pw_if E (pc' := 25) rfl (by decide) (by omega) (by omega) ?_ ?_
    · intro hc44
      change x3 = (0 : Int) at hc44
      refine pw_thr E rfl rfl I.2 ?_
      exact ⟨rfl, Or.inl rfl⟩
    · intro hc45
      change ¬ (x3 = (0 : Int)) at hc45
      exfalso; omega
set_option maxHeartbeats 4000000 in
theorem cm_196 {X : List (Nat × List Value)} {d : Nat} {h : pm_H} (hd : 4 ≤ d) (I : pw_I h) (k : Int) (hk1 : 0 ≤ k) (hk2 : k ≤ 23) (b : Int) (hb1 : 0 ≤ b) (hb2 : b ≤ 11) (e : Int) (he1 : 0 ≤ e) (he2 : e ≤ 11) (z : Int) (hz1 : 0 ≤ z) (hz2 : z ≤ 1) : pw X d h 196 0 [some (.ref 16), some (pw_i k), some (pw_i b), some (pw_i e), some (pw_i z), none, none] [] (fun h' v => h = h' ∧ ∃ a : Int, v = .inl (some (pw_i a)) ∧ (-2147483648) ≤ a ∧ a ≤ 2147483647) := by
  have E : pm_ent 196 = some (5, 7, 11, 0, pmc_196) := rfl
  refine pw_ld E (pc' := 1) (st' := [.ref 16]) rfl (fun _ => rfl) ?_
  refine pw_getR (b := 26) I E (c := 0) (k := 2) (pc' := 4) rfl rfl rfl rfl rfl rfl rfl ?_
  refine pw_ld E (pc' := 5) (st' := [pw_i k, .ref 26]) rfl (fun _ => rfl) ?_
  refine pw_ld E (pc' := 6) (st' := [pw_i b, pw_i k, .ref 26]) rfl (fun _ => rfl) ?_
  refine pw_ld E (pc' := 7) (st' := [pw_i e, pw_i b, pw_i k, .ref 26]) rfl (fun _ => rfl) ?_
  refine pw_ld E (pc' := 8) (st' := [.ref 16, pw_i e, pw_i b, pw_i k, .ref 26]) rfl (fun _ => rfl) ?_
  refine pw_getI2 I E (c := 0) (k := 6) (pc' := 11) rfl rfl rfl rfl rfl rfl (fun hf1a hf1b => ?_)
  obtain ⟨f2l, f2h, -⟩ := pw_obj (c := 10) I rfl
  refine pw_call (m' := 24) (As := [.ref 26, pw_i k, pw_i b, pw_i e, pw_i (pw_g h 0 6)]) (rest := []) (ls'' := [some (.ref 26), some (pw_i k), some (pw_i b), some (pw_i e), some (pw_i (pw_g h 0 6))]) (Nat.le_trans (by decide) hd) E rfl (fun _ => pw_iV rfl rfl rfl rfl (pw_cellI f2h rfl)) (rfl : pm_ent 24 = some (5, 5, 2, 0, pmc_24)) rfl rfl (cm_24 (pw_dp hd (by decide)) I 10 (by unfold pw_Lg; omega) (k) (by omega) (by omega) (b) (by omega) (by omega) (e) (by omega) (by omega) (pw_g h 0 6) (by omega) (by omega)) ?_
  rintro u4 v3 ⟨rfl, x5, rfl, hx5a, hx5b⟩
  refine ⟨_, rfl, ?_⟩
  show pw X d h 196 14 [some (.ref 16), some (pw_i k), some (pw_i b), some (pw_i e), some (pw_i z), none, none] [pw_i x5] _
  refine pw_ist E (pc' := 16) (ls' := [some (.ref 16), some (pw_i k), some (pw_i b), some (pw_i e), some (pw_i z), some (pw_i x5), none]) rfl rfl rfl rfl ?_
  refine pw_ld E (pc' := 17) (st' := [.ref 16]) rfl (fun _ => rfl) ?_
  refine pw_getR (b := 28) I E (c := 0) (k := 3) (pc' := 20) rfl rfl rfl rfl rfl rfl rfl ?_
  refine pw_ld E (pc' := 21) (st' := [pw_i k, .ref 28]) rfl (fun _ => rfl) ?_
  refine pw_ld E (pc' := 22) (st' := [pw_i b, pw_i k, .ref 28]) rfl (fun _ => rfl) ?_
  refine pw_ld E (pc' := 23) (st' := [pw_i e, pw_i b, pw_i k, .ref 28]) rfl (fun _ => rfl) ?_
  obtain ⟨f6l, f6h, -⟩ := pw_obj (c := 12) I rfl
  refine pw_call (m' := 23) (As := [.ref 28, pw_i k, pw_i b, pw_i e]) (rest := []) (ls'' := [some (.ref 28), some (pw_i k), some (pw_i b), some (pw_i e)]) (Nat.le_trans (by decide) hd) E rfl (fun _ => pw_iV rfl rfl rfl rfl (pw_cellI f6h rfl)) (rfl : pm_ent 23 = some (4, 4, 2, 1, pmc_23)) rfl rfl (cm_23 (pw_dp hd (by decide)) I 12 (by unfold pw_Lg; omega) (k) (by omega) (by omega) (b) (by omega) (by omega) (e) (by omega) (by omega)) ?_
  rintro u8 v7 ⟨rfl, x9, rfl, hx9a, hx9b⟩
  refine ⟨_, rfl, ?_⟩
  show pw X d h 196 26 [some (.ref 16), some (pw_i k), some (pw_i b), some (pw_i e), some (pw_i z), some (pw_i x5), none] [pw_i x9] _
  refine pw_if E (pc' := 32) rfl (by decide) (by omega) (by omega) ?_ ?_
  · intro hc10
    change x9 ≠ (0 : Int) at hc10
    refine pw_ld E (pc' := 33) (st' := [.ref 16]) rfl (fun _ => rfl) ?_
    refine pw_getR (b := 28) I E (c := 0) (k := 3) (pc' := 36) rfl rfl rfl rfl rfl rfl rfl ?_
    refine pw_ld E (pc' := 37) (st' := [pw_i k, .ref 28]) rfl (fun _ => rfl) ?_
    refine pw_ld E (pc' := 38) (st' := [pw_i b, pw_i k, .ref 28]) rfl (fun _ => rfl) ?_
    refine pw_ld E (pc' := 39) (st' := [pw_i e, pw_i b, pw_i k, .ref 28]) rfl (fun _ => rfl) ?_
    refine pw_ld E (pc' := 40) (st' := [.ref 16, pw_i e, pw_i b, pw_i k, .ref 28]) rfl (fun _ => rfl) ?_
    refine pw_getI2 I E (c := 0) (k := 6) (pc' := 43) rfl rfl rfl rfl rfl rfl (fun hf11a hf11b => ?_)
    obtain ⟨f12l, f12h, -⟩ := pw_obj (c := 12) I rfl
    refine pw_call (m' := 24) (As := [.ref 28, pw_i k, pw_i b, pw_i e, pw_i (pw_g h 0 6)]) (rest := []) (ls'' := [some (.ref 28), some (pw_i k), some (pw_i b), some (pw_i e), some (pw_i (pw_g h 0 6))]) (Nat.le_trans (by decide) hd) E rfl (fun _ => pw_iV rfl rfl rfl rfl (pw_cellI f12h rfl)) (rfl : pm_ent 24 = some (5, 5, 2, 0, pmc_24)) rfl rfl (cm_24 (pw_dp hd (by decide)) I 12 (by unfold pw_Lg; omega) (k) (by omega) (by omega) (b) (by omega) (by omega) (e) (by omega) (by omega) (pw_g h 0 6) (by omega) (by omega)) ?_
    rintro u14 v13 ⟨rfl, x15, rfl, hx15a, hx15b⟩
    refine ⟨_, rfl, ?_⟩
    show pw X d h 196 46 [some (.ref 16), some (pw_i k), some (pw_i b), some (pw_i e), some (pw_i z), some (pw_i x5), none] [pw_i x15] _
    refine pw_ist E (pc' := 48) (ls' := [some (.ref 16), some (pw_i k), some (pw_i b), some (pw_i e), some (pw_i z), some (pw_i x5), some (pw_i x15)]) rfl rfl rfl rfl ?_
    refine pw_ld E (pc' := 50) (st' := [pw_i z]) rfl (fun _ => rfl) ?_
    refine pw_if E (pc' := 63) rfl (by decide) (by omega) (by omega) ?_ ?_
    · intro hc16
      change z = (0 : Int) at hc16
      refine pw_ld E (pc' := 65) (st' := [pw_i x5]) rfl (fun _ => rfl) ?_
      refine pw_ld E (pc' := 67) (st' := [pw_i x15, pw_i x5]) rfl (fun _ => rfl) ?_
      refine pw_min E rfl rfl (by omega) (by omega) (by omega) (by omega) rfl ?_
      refine pw_iret E rfl ?_
      exact ⟨rfl, ⟨_, rfl, by omega, by omega⟩⟩
    · intro hc17
      change ¬ (z = (0 : Int)) at hc17
      refine pw_ld E (pc' := 55) (st' := [pw_i x5]) rfl (fun _ => rfl) ?_
      refine pw_ld E (pc' := 57) (st' := [pw_i x15, pw_i x5]) rfl (fun _ => rfl) ?_
      refine pw_max E rfl rfl (by omega) (by omega) (by omega) (by omega) rfl ?_
      refine pw_goto E (pc' := 70) rfl (by decide) ?_
      refine pw_iret E rfl ?_
      exact ⟨rfl, ⟨_, rfl, by omega, by omega⟩⟩
  · intro hc18
    change ¬ (x9 ≠ (0 : Int)) at hc18
    refine pw_ld E (pc' := 31) (st' := [pw_i x5]) rfl (fun _ => rfl) ?_
    refine pw_iret E rfl ?_
    exact ⟨rfl, ⟨_, rfl, by omega, by omega⟩⟩
set_option maxHeartbeats 4000000 in
theorem cm_195 {X : List (Nat × List Value)} {d : Nat} {h : pm_H} (hd : 5 ≤ d) (I : pw_I h) (a0 : Int) (ha01 : (-2147483648) ≤ a0) (ha02 : a0 ≤ 2147483647) (a1 : Int) (ha11 : (-2147483648) ≤ a1) (ha12 : a1 ≤ 2147483647) (a2 : Int) (ha21 : (-2147483648) ≤ a2) (ha22 : a2 ≤ 2147483647) : pw X d h 195 0 [some (.ref 16), some (pw_i a0), some (pw_i a1), some (pw_i a2), none, none, none] [] (fun h' v => pw_I h' ∧ pw_E [17, 18, 22] h h' ∧ (v = .inr () ∨ (∃ w : Int64, v = .inl (some (.long w))))) := by
  have E : pm_ent 195 = some (4, 7, 11, 2, pmc_195) := rfl
  have E0 : pw_E [17, 18, 22] h h := pw_E.rf _ _
  refine pw_ld E (pc' := 1) (st' := [pw_i a0]) rfl (fun _ => rfl) ?_
  refine pw_ld E (pc' := 2) (st' := [pw_i a1, pw_i a0]) rfl (fun _ => rfl) ?_
  refine pw_call (m' := 131) (As := [pw_i a0, pw_i a1]) (rest := []) (ls'' := [some (pw_i a0), some (pw_i a1)]) (Nat.le_trans (by decide) hd) E rfl (fun _ => pw_iS rfl rfl rfl) (rfl : pm_ent 131 = some (2, 2, 11, 1, pmc_131)) rfl rfl (cm_131 (pw_dp hd (by decide)) I (a0) (by omega) (by omega) (a1) (by omega) (by omega)) ?_
  rintro u2 v1 ⟨rfl, x3, rfl, hx3a, hx3b, hx3r⟩
  refine ⟨_, rfl, ?_⟩
  show pw X d h 195 5 [some (.ref 16), some (pw_i a0), some (pw_i a1), some (pw_i a2), none, none, none] [pw_i x3] _
  change (x3 = 1 ∧ 0 ≤ a0 ∧ a0 ≤ 11 ∧ 0 ≤ a1 ∧ a1 ≤ 11) ∨ x3 = 0 at hx3r
  rcases (by omega : x3 = 1 ∨ x3 = 0) with hb4 | hb4
  · skip
    refine pw_if E (pc' := 15) rfl (by decide) (by omega) (by omega) ?_ ?_
    · intro hc5
      change x3 = (0 : Int) at hc5
      exfalso; omega
    · intro hc6
      change ¬ (x3 = (0 : Int)) at hc6
      refine pw_ld E (pc' := 9) (st' := [pw_i a2]) rfl (fun _ => rfl) ?_
      refine pw_call (m' := 174) (As := [pw_i a2]) (rest := []) (ls'' := [some (pw_i a2)]) (Nat.le_trans (by decide) hd) E rfl (fun _ => pw_iS rfl rfl rfl) (rfl : pm_ent 174 = some (1, 1, 11, 1, pmc_174)) rfl rfl (cm_174 (pw_dp hd (by decide)) I (a2) (by omega) (by omega)) ?_
      rintro u8 v7 ⟨rfl, x9, rfl, hx9a, hx9b, hx9r⟩
      refine ⟨_, rfl, ?_⟩
      show pw X d h 195 12 [some (.ref 16), some (pw_i a0), some (pw_i a1), some (pw_i a2), none, none, none] [pw_i x9] _
      change (x9 = 1 ∧ 0 ≤ a2 ∧ a2 ≤ 3) ∨ (x9 = 0 ∧ ¬ (0 ≤ a2 ∧ a2 ≤ 3)) at hx9r
      rcases (by omega : x9 = 1 ∨ x9 = 0) with hb10 | hb10
      · skip
        refine pw_if E (pc' := 23) rfl (by decide) (by omega) (by omega) ?_ ?_
        · intro hc11
          change x9 ≠ (0 : Int) at hc11
          refine pw_ld E (pc' := 24) (st' := [pw_i a2]) rfl (fun _ => rfl) ?_
          refine pw_call (m' := 175) (As := [pw_i a2]) (rest := []) (ls'' := [some (pw_i a2)]) (Nat.le_trans (by decide) hd) E rfl (fun _ => pw_iS rfl rfl rfl) (rfl : pm_ent 175 = some (1, 1, 11, 1, pmc_175)) rfl rfl (cm_175 (pw_dp hd (by decide)) I (a2) (by omega) (by omega)) ?_
          rintro u13 v12 ⟨rfl, x14, rfl, hx14a, hx14b⟩
          refine ⟨_, rfl, ?_⟩
          show pw X d h 195 27 [some (.ref 16), some (pw_i a0), some (pw_i a1), some (pw_i a2), none, none, none] [pw_i x14] _
          refine pw_ist E (pc' := 29) (ls' := [some (.ref 16), some (pw_i a0), some (pw_i a1), some (pw_i a2), some (pw_i x14), none, none]) rfl rfl rfl rfl ?_
          refine pw_ld E (pc' := 30) (st' := [.ref 16]) rfl (fun _ => rfl) ?_
          refine pw_getR (b := 32) I E (c := 0) (k := 7) (pc' := 33) rfl rfl rfl rfl rfl rfl rfl ?_
          obtain ⟨f15l, f15h, -⟩ := pw_obj (c := 16) I rfl
          refine pw_call (m' := 81) (As := [.ref 32]) (rest := []) (ls'' := [some (.ref 32)]) (Nat.le_trans (by decide) hd) E rfl (fun _ => pw_iV rfl rfl rfl rfl (pw_cellI f15h rfl)) (rfl : pm_ent 81 = some (1, 1, 8, 4, pmc_81)) rfl rfl (cm_81 (pw_dp hd (by decide)) I ) ?_
          rintro h16 v17 ⟨h16I, h16E, rfl⟩
          refine ⟨_, rfl, ?_⟩
          have h16F := E0.tr (h16E.wk (W' := [17, 18, 22]) (by first | rfl | simp))
          show pw X d h16 195 36 [some (.ref 16), some (pw_i a0), some (pw_i a1), some (pw_i a2), some (pw_i x14), none, none] [] _
          refine pw_ld E (pc' := 37) (st' := [pw_i 0]) rfl (fun _ => rfl) ?_
          refine pw_ist E (pc' := 39) (ls' := [some (.ref 16), some (pw_i a0), some (pw_i a1), some (pw_i a2), some (pw_i x14), some (pw_i 0), none]) rfl rfl rfl rfl ?_
          have L39 : ∀ (n39 : Nat) (k39_5 : Int) (k39_6 : Option Value) (h39 : pm_H), pw_I h39 → pw_E [17, 18, 22] h h39 → 0 ≤ k39_5 → k39_5 ≤ 24 → (24 - k39_5).toNat = n39 → pw X d h39 195 39 [some (.ref 16), some (pw_i a0), some (pw_i a1), some (pw_i a2), some (pw_i x14), some (pw_i k39_5), k39_6] [] (fun h' v => pw_I h' ∧ pw_E [17, 18, 22] h h' ∧ (v = .inr () ∨ (∃ w : Int64, v = .inl (some (.long w))))) := by
            intro n39
            induction n39 using Nat.strongRecOn with
            | ind n39 ih39 =>
              intro k39_5 k39_6 h39 I39 E39 k39_5a k39_5b hm39
              refine pw_ld E (pc' := 41) (st' := [pw_i k39_5]) rfl (fun _ => rfl) ?_
              refine pw_bip E (pc' := 43) rfl rfl (by decide) ?_
              refine pw_if2 E (pc' := 135) rfl (by decide) (by omega) (by omega) (by decide) (by decide) ?_ ?_
              · intro hc18
                change (24 : Int) ≤ k39_5 at hc18
                refine pw_ld E (pc' := 136) (st' := [.ref 16]) rfl (fun _ => rfl) ?_
                refine pw_getR (b := 32) I39 E (c := 0) (k := 7) (pc' := 139) rfl rfl rfl rfl rfl rfl rfl ?_
                refine pw_ld E (pc' := 140) (st' := [.ref 16, .ref 32]) rfl (fun _ => rfl) ?_
                refine pw_getR (b := 38) I39 E (c := 0) (k := 8) (pc' := 143) rfl rfl rfl rfl rfl rfl rfl ?_
                obtain ⟨f19l, f19h, -⟩ := pw_obj (c := 16) I39 rfl
                refine pw_call (m' := 83) (As := [.ref 32, .ref 38]) (rest := []) (ls'' := [some (.ref 32), some (.ref 38), none, none, none, none]) (Nat.le_trans (by decide) hd) E rfl (fun _ => pw_iV rfl rfl rfl rfl (pw_cellI f19h rfl)) (rfl : pm_ent 83 = some (2, 6, 8, 1, pmc_83)) rfl rfl (cm_83 (pw_dp hd (by decide)) I39 22 (by unfold pw_Fr; omega)) ?_
                rintro h20 v21 ⟨h20I, h20E, x22, rfl, hx22a, hx22b⟩
                refine ⟨_, rfl, ?_⟩
                have h20F := E39.tr (h20E.wk (W' := [17, 18, 22]) (by first | rfl | simp))
                show pw X d h20 195 146 [some (.ref 16), some (pw_i a0), some (pw_i a1), some (pw_i a2), some (pw_i x14), some (pw_i k39_5), k39_6] [pw_i x22] _
                refine pw_if E (pc' := 157) rfl (by decide) (by omega) (by omega) ?_ ?_
                · intro hc23
                  change x22 ≠ (0 : Int) at hc23
                  refine pw_ld E (pc' := 158) (st' := [.ref 16]) rfl (fun _ => rfl) ?_
                  refine pw_getR (b := 38) h20I E (c := 0) (k := 8) (pc' := 161) rfl rfl rfl rfl rfl rfl rfl ?_
                  refine pw_ld E (pc' := 162) (st' := [pw_i a2, .ref 38]) rfl (fun _ => rfl) ?_
                  refine pw_call (m' := 176) (As := [pw_i a2]) (rest := [.ref 38]) (ls'' := [some (pw_i a2)]) (Nat.le_trans (by decide) hd) E rfl (fun _ => pw_iS rfl rfl rfl) (rfl : pm_ent 176 = some (1, 1, 11, 0, pmc_176)) rfl rfl (cm_176 (pw_dp hd (by decide)) h20I (a2) (by omega) (by omega)) ?_
                  rintro u25 v24 ⟨rfl, x26, rfl, hx26a, hx26b⟩
                  refine ⟨_, rfl, ?_⟩
                  show pw X d h20 195 165 [some (.ref 16), some (pw_i a0), some (pw_i a1), some (pw_i a2), some (pw_i x14), some (pw_i k39_5), k39_6] [pw_i x26, .ref 38] _
                  obtain ⟨f27l, f27h, -⟩ := pw_obj (c := 22) h20I rfl
                  refine pw_call (m' := 9) (As := [.ref 38, pw_i x26]) (rest := []) (ls'' := [some (.ref 38), some (pw_i x26)]) (Nat.le_trans (by decide) hd) E rfl (fun _ => pw_iV rfl rfl rfl rfl (pw_cellI f27h rfl)) (rfl : pm_ent 9 = some (2, 2, 1, 2, pmc_9)) rfl rfl (cm_9 (pw_dp hd (by decide)) h20I 22 (by unfold pw_Fr; omega) (x26) (by omega) (by omega)) ?_
                  rintro u29 v28 ⟨rfl, w30, rfl⟩
                  refine ⟨_, rfl, ?_⟩
                  show pw X d h20 195 168 [some (.ref 16), some (pw_i a0), some (pw_i a1), some (pw_i a2), some (pw_i x14), some (pw_i k39_5), k39_6] [.long w30] _
                  refine pw_lret E rfl ?_
                  exact ⟨h20I, h20F, Or.inr ⟨_, rfl⟩⟩
                · intro hc31
                  change ¬ (x22 ≠ (0 : Int)) at hc31
                  refine pw_thr E rfl rfl h20I.2 ?_
                  exact ⟨h20I, h20F, Or.inl rfl⟩
              · intro hc32
                change ¬ ((24 : Int) ≤ k39_5) at hc32
                refine pw_ld E (pc' := 47) (st' := [.ref 16]) rfl (fun _ => rfl) ?_
                refine pw_getR (b := 17) I39 E (c := 0) (k := 0) (pc' := 50) rfl rfl rfl rfl rfl rfl rfl ?_
                refine pw_ld E (pc' := 52) (st' := [pw_i k39_5, .ref 17]) rfl (fun _ => rfl) ?_
                obtain ⟨f33l, f33h, -⟩ := pw_obj (c := 1) I39 rfl
                refine pw_call (m' := 59) (As := [.ref 17, pw_i k39_5]) (rest := []) (ls'' := [some (.ref 17), some (pw_i k39_5)]) (Nat.le_trans (by decide) hd) E rfl (fun _ => pw_iV rfl rfl rfl rfl (pw_cellI f33h rfl)) (rfl : pm_ent 59 = some (2, 2, 6, 1, pmc_59)) rfl rfl (cm_59 (pw_dp hd (by decide)) I39 (k39_5) (by omega) (by omega)) ?_
                rintro u35 v34 ⟨rfl, x36, rfl, hx36a, hx36b, hx36r⟩
                refine ⟨_, rfl, ?_⟩
                show pw X d h39 195 55 [some (.ref 16), some (pw_i a0), some (pw_i a1), some (pw_i a2), some (pw_i x14), some (pw_i k39_5), k39_6] [pw_i x36] _
                change x36 = pw_g h39 2 k39_5.toNat at hx36r
                rcases (by omega : x36 = 1 ∨ x36 = 0) with hb37 | hb37
                · skip
                  refine pw_if E (pc' := 129) rfl (by decide) (by omega) (by omega) ?_ ?_
                  · intro hc38
                    change x36 = (0 : Int) at hc38
                    exfalso; omega
                  · intro hc39
                    change ¬ (x36 = (0 : Int)) at hc39
                    refine pw_ld E (pc' := 59) (st' := [.ref 16]) rfl (fun _ => rfl) ?_
                    refine pw_getR (b := 26) I39 E (c := 0) (k := 2) (pc' := 62) rfl rfl rfl rfl rfl rfl rfl ?_
                    refine pw_ld E (pc' := 64) (st' := [pw_i k39_5, .ref 26]) rfl (fun _ => rfl) ?_
                    refine pw_ld E (pc' := 65) (st' := [pw_i a0, pw_i k39_5, .ref 26]) rfl (fun _ => rfl) ?_
                    refine pw_ld E (pc' := 66) (st' := [pw_i a1, pw_i a0, pw_i k39_5, .ref 26]) rfl (fun _ => rfl) ?_
                    obtain ⟨f40l, f40h, -⟩ := pw_obj (c := 10) I39 rfl
                    refine pw_call (m' := 23) (As := [.ref 26, pw_i k39_5, pw_i a0, pw_i a1]) (rest := []) (ls'' := [some (.ref 26), some (pw_i k39_5), some (pw_i a0), some (pw_i a1)]) (Nat.le_trans (by decide) hd) E rfl (fun _ => pw_iV rfl rfl rfl rfl (pw_cellI f40h rfl)) (rfl : pm_ent 23 = some (4, 4, 2, 1, pmc_23)) rfl rfl (cm_23 (pw_dp hd (by decide)) I39 10 (by unfold pw_Lg; omega) (k39_5) (by omega) (by omega) (a0) (by omega) (by omega) (a1) (by omega) (by omega)) ?_
                    rintro u42 v41 ⟨rfl, x43, rfl, hx43a, hx43b⟩
                    refine ⟨_, rfl, ?_⟩
                    show pw X d h39 195 69 [some (.ref 16), some (pw_i a0), some (pw_i a1), some (pw_i a2), some (pw_i x14), some (pw_i k39_5), k39_6] [pw_i x43] _
                    refine pw_if E (pc' := 129) rfl (by decide) (by omega) (by omega) ?_ ?_
                    · intro hc44
                      change x43 = (0 : Int) at hc44
                      refine pw_inc E (pc' := 132) (ls' := [some (.ref 16), some (pw_i a0), some (pw_i a1), some (pw_i a2), some (pw_i x14), some (pw_i (k39_5 + 1)), k39_6]) rfl rfl rfl rfl ?_
                      refine pw_goto E (pc' := 39) rfl (by decide) ?_
                      exact ih39 _ (by omega) (k39_5 + 1) k39_6 h39 I39 E39 (by omega) (by omega)  rfl
                    · intro hc45
                      change ¬ (x43 = (0 : Int)) at hc45
                      refine pw_ld E (pc' := 73) (st' := [.ref 16]) rfl (fun _ => rfl) ?_
                      refine pw_getR (b := 17) I39 E (c := 0) (k := 0) (pc' := 76) rfl rfl rfl rfl rfl rfl rfl ?_
                      refine pw_ld E (pc' := 78) (st' := [pw_i k39_5, .ref 17]) rfl (fun _ => rfl) ?_
                      obtain ⟨f46l, f46h, -⟩ := pw_obj (c := 1) I39 rfl
                      refine pw_call (m' := 60) (As := [.ref 17, pw_i k39_5]) (rest := []) (ls'' := [some (.ref 17), some (pw_i k39_5)]) (Nat.le_trans (by decide) hd) E rfl (fun _ => pw_iV rfl rfl rfl rfl (pw_cellI f46h rfl)) (rfl : pm_ent 60 = some (2, 2, 6, 0, pmc_60)) rfl rfl (cm_60 (pw_dp hd (by decide)) I39 (k39_5) (by omega) (by omega)) ?_
                      rintro u48 v47 ⟨rfl, x49, rfl, hx49a, hx49b, hx49r⟩
                      refine ⟨_, rfl, ?_⟩
                      show pw X d h39 195 81 [some (.ref 16), some (pw_i a0), some (pw_i a1), some (pw_i a2), some (pw_i x14), some (pw_i k39_5), k39_6] [pw_i x49] _
                      change x49 = pw_g h39 4 k39_5.toNat at hx49r
                      refine pw_if E (pc' := 88) rfl (by decide) (by omega) (by omega) ?_ ?_
                      · intro hc50
                        change x49 ≠ (0 : Int) at hc50
                        refine pw_ld E (pc' := 89) (st' := [pw_i 0]) rfl (fun _ => rfl) ?_
                        refine pw_ld E (pc' := 91) (st' := [pw_i x14, pw_i 0]) rfl (fun _ => rfl) ?_
                        refine pw_if2 E (pc' := 98) rfl (by decide) (by decide) (by decide) (by omega) (by omega) ?_ ?_
                        · intro hc51
                          change (0 : Int) ≠ x14 at hc51
                          refine pw_ld E (pc' := 99) (st' := [pw_i 0]) rfl (fun _ => rfl) ?_
                          refine pw_ist E (pc' := 101) (ls' := [some (.ref 16), some (pw_i a0), some (pw_i a1), some (pw_i a2), some (pw_i x14), some (pw_i k39_5), some (pw_i 0)]) rfl rfl rfl rfl ?_
                          refine pw_ld E (pc' := 102) (st' := [.ref 16]) rfl (fun _ => rfl) ?_
                          refine pw_getR (b := 32) I39 E (c := 0) (k := 7) (pc' := 105) rfl rfl rfl rfl rfl rfl rfl ?_
                          refine pw_ld E (pc' := 107) (st' := [pw_i k39_5, .ref 32]) rfl (fun _ => rfl) ?_
                          refine pw_ld E (pc' := 108) (st' := [.ref 16, pw_i k39_5, .ref 32]) rfl (fun _ => rfl) ?_
                          refine pw_getR (b := 17) I39 E (c := 0) (k := 0) (pc' := 111) rfl rfl rfl rfl rfl rfl rfl ?_
                          refine pw_ld E (pc' := 113) (st' := [pw_i k39_5, .ref 17, pw_i k39_5, .ref 32]) rfl (fun _ => rfl) ?_
                          obtain ⟨f52l, f52h, -⟩ := pw_obj (c := 1) I39 rfl
                          refine pw_call (m' := 60) (As := [.ref 17, pw_i k39_5]) (rest := [pw_i k39_5, .ref 32]) (ls'' := [some (.ref 17), some (pw_i k39_5)]) (Nat.le_trans (by decide) hd) E rfl (fun _ => pw_iV rfl rfl rfl rfl (pw_cellI f52h rfl)) (rfl : pm_ent 60 = some (2, 2, 6, 0, pmc_60)) rfl rfl (cm_60 (pw_dp hd (by decide)) I39 (k39_5) (by omega) (by omega)) ?_
                          rintro u54 v53 ⟨rfl, x55, rfl, hx55a, hx55b, hx55r⟩
                          refine ⟨_, rfl, ?_⟩
                          show pw X d h39 195 116 [some (.ref 16), some (pw_i a0), some (pw_i a1), some (pw_i a2), some (pw_i x14), some (pw_i k39_5), some (pw_i 0)] [pw_i x55, pw_i k39_5, .ref 32] _
                          change x55 = pw_g h39 4 k39_5.toNat at hx55r
                          refine pw_ld E (pc' := 117) (st' := [.ref 16, pw_i x55, pw_i k39_5, .ref 32]) rfl (fun _ => rfl) ?_
                          refine pw_ld E (pc' := 119) (st' := [pw_i k39_5, .ref 16, pw_i x55, pw_i k39_5, .ref 32]) rfl (fun _ => rfl) ?_
                          refine pw_ld E (pc' := 120) (st' := [pw_i a0, pw_i k39_5, .ref 16, pw_i x55, pw_i k39_5, .ref 32]) rfl (fun _ => rfl) ?_
                          refine pw_ld E (pc' := 121) (st' := [pw_i a1, pw_i a0, pw_i k39_5, .ref 16, pw_i x55, pw_i k39_5, .ref 32]) rfl (fun _ => rfl) ?_
                          refine pw_ld E (pc' := 123) (st' := [pw_i 0, pw_i a1, pw_i a0, pw_i k39_5, .ref 16, pw_i x55, pw_i k39_5, .ref 32]) rfl (fun _ => rfl) ?_
                          obtain ⟨f56l, f56h, -⟩ := pw_obj (c := 0) I39 rfl
                          refine pw_call (m' := 196) (As := [.ref 16, pw_i k39_5, pw_i a0, pw_i a1, pw_i 0]) (rest := [pw_i x55, pw_i k39_5, .ref 32]) (ls'' := [some (.ref 16), some (pw_i k39_5), some (pw_i a0), some (pw_i a1), some (pw_i 0), none, none]) (Nat.le_trans (by decide) hd) E rfl (fun _ => pw_iV rfl rfl rfl rfl (pw_cellI f56h rfl)) (rfl : pm_ent 196 = some (5, 7, 11, 0, pmc_196)) rfl rfl (cm_196 (pw_dp hd (by decide)) I39 (k39_5) (by omega) (by omega) (a0) (by omega) (by omega) (a1) (by omega) (by omega) (0) (by omega) (by omega)) ?_
                          rintro u58 v57 ⟨rfl, x59, rfl, hx59a, hx59b⟩
                          refine ⟨_, rfl, ?_⟩
                          show pw X d h39 195 126 [some (.ref 16), some (pw_i a0), some (pw_i a1), some (pw_i a2), some (pw_i x14), some (pw_i k39_5), some (pw_i 0)] [pw_i x59, pw_i x55, pw_i k39_5, .ref 32] _
                          obtain ⟨f60l, f60h, -⟩ := pw_obj (c := 16) I39 rfl
                          refine pw_call (m' := 82) (As := [.ref 32, pw_i k39_5, pw_i x55, pw_i x59]) (rest := []) (ls'' := [some (.ref 32), some (pw_i k39_5), some (pw_i x55), some (pw_i x59)]) (Nat.le_trans (by decide) hd) E rfl (fun _ => pw_iV rfl rfl rfl rfl (pw_cellI f60h rfl)) (rfl : pm_ent 82 = some (4, 4, 8, 4, pmc_82)) rfl rfl (cm_82 (pw_dp hd (by decide)) I39 (k39_5) (by omega) (by omega) (x55) (by omega) (by omega) (x59) (by omega) (by omega)) ?_
                          rintro h61 v62 ⟨h61I, h61E, rfl⟩
                          refine ⟨_, rfl, ?_⟩
                          have h61F := E39.tr (h61E.wk (W' := [17, 18, 22]) (by first | rfl | simp))
                          show pw X d h61 195 129 [some (.ref 16), some (pw_i a0), some (pw_i a1), some (pw_i a2), some (pw_i x14), some (pw_i k39_5), some (pw_i 0)] [] _
                          refine pw_inc E (pc' := 132) (ls' := [some (.ref 16), some (pw_i a0), some (pw_i a1), some (pw_i a2), some (pw_i x14), some (pw_i (k39_5 + 1)), some (pw_i 0)]) rfl rfl rfl rfl ?_
                          refine pw_goto E (pc' := 39) rfl (by decide) ?_
                          exact ih39 _ (by omega) (k39_5 + 1) (some (pw_i 0)) h61 h61I h61F (by omega) (by omega)  rfl
                        · intro hc63
                          change ¬ ((0 : Int) ≠ x14) at hc63
                          refine pw_ld E (pc' := 95) (st' := [pw_i 1]) rfl (fun _ => rfl) ?_
                          refine pw_goto E (pc' := 99) rfl (by decide) ?_
                          refine pw_ist E (pc' := 101) (ls' := [some (.ref 16), some (pw_i a0), some (pw_i a1), some (pw_i a2), some (pw_i x14), some (pw_i k39_5), some (pw_i 1)]) rfl rfl rfl rfl ?_
                          refine pw_ld E (pc' := 102) (st' := [.ref 16]) rfl (fun _ => rfl) ?_
                          refine pw_getR (b := 32) I39 E (c := 0) (k := 7) (pc' := 105) rfl rfl rfl rfl rfl rfl rfl ?_
                          refine pw_ld E (pc' := 107) (st' := [pw_i k39_5, .ref 32]) rfl (fun _ => rfl) ?_
                          refine pw_ld E (pc' := 108) (st' := [.ref 16, pw_i k39_5, .ref 32]) rfl (fun _ => rfl) ?_
                          refine pw_getR (b := 17) I39 E (c := 0) (k := 0) (pc' := 111) rfl rfl rfl rfl rfl rfl rfl ?_
                          refine pw_ld E (pc' := 113) (st' := [pw_i k39_5, .ref 17, pw_i k39_5, .ref 32]) rfl (fun _ => rfl) ?_
                          obtain ⟨f64l, f64h, -⟩ := pw_obj (c := 1) I39 rfl
                          refine pw_call (m' := 60) (As := [.ref 17, pw_i k39_5]) (rest := [pw_i k39_5, .ref 32]) (ls'' := [some (.ref 17), some (pw_i k39_5)]) (Nat.le_trans (by decide) hd) E rfl (fun _ => pw_iV rfl rfl rfl rfl (pw_cellI f64h rfl)) (rfl : pm_ent 60 = some (2, 2, 6, 0, pmc_60)) rfl rfl (cm_60 (pw_dp hd (by decide)) I39 (k39_5) (by omega) (by omega)) ?_
                          rintro u66 v65 ⟨rfl, x67, rfl, hx67a, hx67b, hx67r⟩
                          refine ⟨_, rfl, ?_⟩
                          show pw X d h39 195 116 [some (.ref 16), some (pw_i a0), some (pw_i a1), some (pw_i a2), some (pw_i x14), some (pw_i k39_5), some (pw_i 1)] [pw_i x67, pw_i k39_5, .ref 32] _
                          change x67 = pw_g h39 4 k39_5.toNat at hx67r
                          refine pw_ld E (pc' := 117) (st' := [.ref 16, pw_i x67, pw_i k39_5, .ref 32]) rfl (fun _ => rfl) ?_
                          refine pw_ld E (pc' := 119) (st' := [pw_i k39_5, .ref 16, pw_i x67, pw_i k39_5, .ref 32]) rfl (fun _ => rfl) ?_
                          refine pw_ld E (pc' := 120) (st' := [pw_i a0, pw_i k39_5, .ref 16, pw_i x67, pw_i k39_5, .ref 32]) rfl (fun _ => rfl) ?_
                          refine pw_ld E (pc' := 121) (st' := [pw_i a1, pw_i a0, pw_i k39_5, .ref 16, pw_i x67, pw_i k39_5, .ref 32]) rfl (fun _ => rfl) ?_
                          refine pw_ld E (pc' := 123) (st' := [pw_i 1, pw_i a1, pw_i a0, pw_i k39_5, .ref 16, pw_i x67, pw_i k39_5, .ref 32]) rfl (fun _ => rfl) ?_
                          obtain ⟨f68l, f68h, -⟩ := pw_obj (c := 0) I39 rfl
                          refine pw_call (m' := 196) (As := [.ref 16, pw_i k39_5, pw_i a0, pw_i a1, pw_i 1]) (rest := [pw_i x67, pw_i k39_5, .ref 32]) (ls'' := [some (.ref 16), some (pw_i k39_5), some (pw_i a0), some (pw_i a1), some (pw_i 1), none, none]) (Nat.le_trans (by decide) hd) E rfl (fun _ => pw_iV rfl rfl rfl rfl (pw_cellI f68h rfl)) (rfl : pm_ent 196 = some (5, 7, 11, 0, pmc_196)) rfl rfl (cm_196 (pw_dp hd (by decide)) I39 (k39_5) (by omega) (by omega) (a0) (by omega) (by omega) (a1) (by omega) (by omega) (1) (by omega) (by omega)) ?_
                          rintro u70 v69 ⟨rfl, x71, rfl, hx71a, hx71b⟩
                          refine ⟨_, rfl, ?_⟩
                          show pw X d h39 195 126 [some (.ref 16), some (pw_i a0), some (pw_i a1), some (pw_i a2), some (pw_i x14), some (pw_i k39_5), some (pw_i 1)] [pw_i x71, pw_i x67, pw_i k39_5, .ref 32] _
                          obtain ⟨f72l, f72h, -⟩ := pw_obj (c := 16) I39 rfl
                          refine pw_call (m' := 82) (As := [.ref 32, pw_i k39_5, pw_i x67, pw_i x71]) (rest := []) (ls'' := [some (.ref 32), some (pw_i k39_5), some (pw_i x67), some (pw_i x71)]) (Nat.le_trans (by decide) hd) E rfl (fun _ => pw_iV rfl rfl rfl rfl (pw_cellI f72h rfl)) (rfl : pm_ent 82 = some (4, 4, 8, 4, pmc_82)) rfl rfl (cm_82 (pw_dp hd (by decide)) I39 (k39_5) (by omega) (by omega) (x67) (by omega) (by omega) (x71) (by omega) (by omega)) ?_
                          rintro h73 v74 ⟨h73I, h73E, rfl⟩
                          refine ⟨_, rfl, ?_⟩
                          have h73F := E39.tr (h73E.wk (W' := [17, 18, 22]) (by first | rfl | simp))
                          show pw X d h73 195 129 [some (.ref 16), some (pw_i a0), some (pw_i a1), some (pw_i a2), some (pw_i x14), some (pw_i k39_5), some (pw_i 1)] [] _
                          refine pw_inc E (pc' := 132) (ls' := [some (.ref 16), some (pw_i a0), some (pw_i a1), some (pw_i a2), some (pw_i x14), some (pw_i (k39_5 + 1)), some (pw_i 1)]) rfl rfl rfl rfl ?_
                          refine pw_goto E (pc' := 39) rfl (by decide) ?_
                          exact ih39 _ (by omega) (k39_5 + 1) (some (pw_i 1)) h73 h73I h73F (by omega) (by omega)  rfl
                      · intro hc75
                        change ¬ (x49 ≠ (0 : Int)) at hc75
                        refine pw_ld E (pc' := 85) (st' := [pw_i 1]) rfl (fun _ => rfl) ?_
                        refine pw_goto E (pc' := 89) rfl (by decide) ?_
                        refine pw_ld E (pc' := 91) (st' := [pw_i x14, pw_i 1]) rfl (fun _ => rfl) ?_
                        refine pw_if2 E (pc' := 98) rfl (by decide) (by decide) (by decide) (by omega) (by omega) ?_ ?_
                        · intro hc76
                          change (1 : Int) ≠ x14 at hc76
                          refine pw_ld E (pc' := 99) (st' := [pw_i 0]) rfl (fun _ => rfl) ?_
                          refine pw_ist E (pc' := 101) (ls' := [some (.ref 16), some (pw_i a0), some (pw_i a1), some (pw_i a2), some (pw_i x14), some (pw_i k39_5), some (pw_i 0)]) rfl rfl rfl rfl ?_
                          refine pw_ld E (pc' := 102) (st' := [.ref 16]) rfl (fun _ => rfl) ?_
                          refine pw_getR (b := 32) I39 E (c := 0) (k := 7) (pc' := 105) rfl rfl rfl rfl rfl rfl rfl ?_
                          refine pw_ld E (pc' := 107) (st' := [pw_i k39_5, .ref 32]) rfl (fun _ => rfl) ?_
                          refine pw_ld E (pc' := 108) (st' := [.ref 16, pw_i k39_5, .ref 32]) rfl (fun _ => rfl) ?_
                          refine pw_getR (b := 17) I39 E (c := 0) (k := 0) (pc' := 111) rfl rfl rfl rfl rfl rfl rfl ?_
                          refine pw_ld E (pc' := 113) (st' := [pw_i k39_5, .ref 17, pw_i k39_5, .ref 32]) rfl (fun _ => rfl) ?_
                          obtain ⟨f77l, f77h, -⟩ := pw_obj (c := 1) I39 rfl
                          refine pw_call (m' := 60) (As := [.ref 17, pw_i k39_5]) (rest := [pw_i k39_5, .ref 32]) (ls'' := [some (.ref 17), some (pw_i k39_5)]) (Nat.le_trans (by decide) hd) E rfl (fun _ => pw_iV rfl rfl rfl rfl (pw_cellI f77h rfl)) (rfl : pm_ent 60 = some (2, 2, 6, 0, pmc_60)) rfl rfl (cm_60 (pw_dp hd (by decide)) I39 (k39_5) (by omega) (by omega)) ?_
                          rintro u79 v78 ⟨rfl, x80, rfl, hx80a, hx80b, hx80r⟩
                          refine ⟨_, rfl, ?_⟩
                          show pw X d h39 195 116 [some (.ref 16), some (pw_i a0), some (pw_i a1), some (pw_i a2), some (pw_i x14), some (pw_i k39_5), some (pw_i 0)] [pw_i x80, pw_i k39_5, .ref 32] _
                          change x80 = pw_g h39 4 k39_5.toNat at hx80r
                          refine pw_ld E (pc' := 117) (st' := [.ref 16, pw_i x80, pw_i k39_5, .ref 32]) rfl (fun _ => rfl) ?_
                          refine pw_ld E (pc' := 119) (st' := [pw_i k39_5, .ref 16, pw_i x80, pw_i k39_5, .ref 32]) rfl (fun _ => rfl) ?_
                          refine pw_ld E (pc' := 120) (st' := [pw_i a0, pw_i k39_5, .ref 16, pw_i x80, pw_i k39_5, .ref 32]) rfl (fun _ => rfl) ?_
                          refine pw_ld E (pc' := 121) (st' := [pw_i a1, pw_i a0, pw_i k39_5, .ref 16, pw_i x80, pw_i k39_5, .ref 32]) rfl (fun _ => rfl) ?_
                          refine pw_ld E (pc' := 123) (st' := [pw_i 0, pw_i a1, pw_i a0, pw_i k39_5, .ref 16, pw_i x80, pw_i k39_5, .ref 32]) rfl (fun _ => rfl) ?_
                          obtain ⟨f81l, f81h, -⟩ := pw_obj (c := 0) I39 rfl
                          refine pw_call (m' := 196) (As := [.ref 16, pw_i k39_5, pw_i a0, pw_i a1, pw_i 0]) (rest := [pw_i x80, pw_i k39_5, .ref 32]) (ls'' := [some (.ref 16), some (pw_i k39_5), some (pw_i a0), some (pw_i a1), some (pw_i 0), none, none]) (Nat.le_trans (by decide) hd) E rfl (fun _ => pw_iV rfl rfl rfl rfl (pw_cellI f81h rfl)) (rfl : pm_ent 196 = some (5, 7, 11, 0, pmc_196)) rfl rfl (cm_196 (pw_dp hd (by decide)) I39 (k39_5) (by omega) (by omega) (a0) (by omega) (by omega) (a1) (by omega) (by omega) (0) (by omega) (by omega)) ?_
                          rintro u83 v82 ⟨rfl, x84, rfl, hx84a, hx84b⟩
                          refine ⟨_, rfl, ?_⟩
                          show pw X d h39 195 126 [some (.ref 16), some (pw_i a0), some (pw_i a1), some (pw_i a2), some (pw_i x14), some (pw_i k39_5), some (pw_i 0)] [pw_i x84, pw_i x80, pw_i k39_5, .ref 32] _
                          obtain ⟨f85l, f85h, -⟩ := pw_obj (c := 16) I39 rfl
                          refine pw_call (m' := 82) (As := [.ref 32, pw_i k39_5, pw_i x80, pw_i x84]) (rest := []) (ls'' := [some (.ref 32), some (pw_i k39_5), some (pw_i x80), some (pw_i x84)]) (Nat.le_trans (by decide) hd) E rfl (fun _ => pw_iV rfl rfl rfl rfl (pw_cellI f85h rfl)) (rfl : pm_ent 82 = some (4, 4, 8, 4, pmc_82)) rfl rfl (cm_82 (pw_dp hd (by decide)) I39 (k39_5) (by omega) (by omega) (x80) (by omega) (by omega) (x84) (by omega) (by omega)) ?_
                          rintro h86 v87 ⟨h86I, h86E, rfl⟩
                          refine ⟨_, rfl, ?_⟩
                          have h86F := E39.tr (h86E.wk (W' := [17, 18, 22]) (by first | rfl | simp))
                          show pw X d h86 195 129 [some (.ref 16), some (pw_i a0), some (pw_i a1), some (pw_i a2), some (pw_i x14), some (pw_i k39_5), some (pw_i 0)] [] _
                          refine pw_inc E (pc' := 132) (ls' := [some (.ref 16), some (pw_i a0), some (pw_i a1), some (pw_i a2), some (pw_i x14), some (pw_i (k39_5 + 1)), some (pw_i 0)]) rfl rfl rfl rfl ?_
                          refine pw_goto E (pc' := 39) rfl (by decide) ?_
                          exact ih39 _ (by omega) (k39_5 + 1) (some (pw_i 0)) h86 h86I h86F (by omega) (by omega)  rfl
                        · intro hc88
                          change ¬ ((1 : Int) ≠ x14) at hc88
                          refine pw_ld E (pc' := 95) (st' := [pw_i 1]) rfl (fun _ => rfl) ?_
                          refine pw_goto E (pc' := 99) rfl (by decide) ?_
                          refine pw_ist E (pc' := 101) (ls' := [some (.ref 16), some (pw_i a0), some (pw_i a1), some (pw_i a2), some (pw_i x14), some (pw_i k39_5), some (pw_i 1)]) rfl rfl rfl rfl ?_
                          refine pw_ld E (pc' := 102) (st' := [.ref 16]) rfl (fun _ => rfl) ?_
                          refine pw_getR (b := 32) I39 E (c := 0) (k := 7) (pc' := 105) rfl rfl rfl rfl rfl rfl rfl ?_
                          refine pw_ld E (pc' := 107) (st' := [pw_i k39_5, .ref 32]) rfl (fun _ => rfl) ?_
                          refine pw_ld E (pc' := 108) (st' := [.ref 16, pw_i k39_5, .ref 32]) rfl (fun _ => rfl) ?_
                          refine pw_getR (b := 17) I39 E (c := 0) (k := 0) (pc' := 111) rfl rfl rfl rfl rfl rfl rfl ?_
                          refine pw_ld E (pc' := 113) (st' := [pw_i k39_5, .ref 17, pw_i k39_5, .ref 32]) rfl (fun _ => rfl) ?_
                          obtain ⟨f89l, f89h, -⟩ := pw_obj (c := 1) I39 rfl
                          refine pw_call (m' := 60) (As := [.ref 17, pw_i k39_5]) (rest := [pw_i k39_5, .ref 32]) (ls'' := [some (.ref 17), some (pw_i k39_5)]) (Nat.le_trans (by decide) hd) E rfl (fun _ => pw_iV rfl rfl rfl rfl (pw_cellI f89h rfl)) (rfl : pm_ent 60 = some (2, 2, 6, 0, pmc_60)) rfl rfl (cm_60 (pw_dp hd (by decide)) I39 (k39_5) (by omega) (by omega)) ?_
                          rintro u91 v90 ⟨rfl, x92, rfl, hx92a, hx92b, hx92r⟩
                          refine ⟨_, rfl, ?_⟩
                          show pw X d h39 195 116 [some (.ref 16), some (pw_i a0), some (pw_i a1), some (pw_i a2), some (pw_i x14), some (pw_i k39_5), some (pw_i 1)] [pw_i x92, pw_i k39_5, .ref 32] _
                          change x92 = pw_g h39 4 k39_5.toNat at hx92r
                          refine pw_ld E (pc' := 117) (st' := [.ref 16, pw_i x92, pw_i k39_5, .ref 32]) rfl (fun _ => rfl) ?_
                          refine pw_ld E (pc' := 119) (st' := [pw_i k39_5, .ref 16, pw_i x92, pw_i k39_5, .ref 32]) rfl (fun _ => rfl) ?_
                          refine pw_ld E (pc' := 120) (st' := [pw_i a0, pw_i k39_5, .ref 16, pw_i x92, pw_i k39_5, .ref 32]) rfl (fun _ => rfl) ?_
                          refine pw_ld E (pc' := 121) (st' := [pw_i a1, pw_i a0, pw_i k39_5, .ref 16, pw_i x92, pw_i k39_5, .ref 32]) rfl (fun _ => rfl) ?_
                          refine pw_ld E (pc' := 123) (st' := [pw_i 1, pw_i a1, pw_i a0, pw_i k39_5, .ref 16, pw_i x92, pw_i k39_5, .ref 32]) rfl (fun _ => rfl) ?_
                          obtain ⟨f93l, f93h, -⟩ := pw_obj (c := 0) I39 rfl
                          refine pw_call (m' := 196) (As := [.ref 16, pw_i k39_5, pw_i a0, pw_i a1, pw_i 1]) (rest := [pw_i x92, pw_i k39_5, .ref 32]) (ls'' := [some (.ref 16), some (pw_i k39_5), some (pw_i a0), some (pw_i a1), some (pw_i 1), none, none]) (Nat.le_trans (by decide) hd) E rfl (fun _ => pw_iV rfl rfl rfl rfl (pw_cellI f93h rfl)) (rfl : pm_ent 196 = some (5, 7, 11, 0, pmc_196)) rfl rfl (cm_196 (pw_dp hd (by decide)) I39 (k39_5) (by omega) (by omega) (a0) (by omega) (by omega) (a1) (by omega) (by omega) (1) (by omega) (by omega)) ?_
                          rintro u95 v94 ⟨rfl, x96, rfl, hx96a, hx96b⟩
                          refine ⟨_, rfl, ?_⟩
                          show pw X d h39 195 126 [some (.ref 16), some (pw_i a0), some (pw_i a1), some (pw_i a2), some (pw_i x14), some (pw_i k39_5), some (pw_i 1)] [pw_i x96, pw_i x92, pw_i k39_5, .ref 32] _
                          obtain ⟨f97l, f97h, -⟩ := pw_obj (c := 16) I39 rfl
                          refine pw_call (m' := 82) (As := [.ref 32, pw_i k39_5, pw_i x92, pw_i x96]) (rest := []) (ls'' := [some (.ref 32), some (pw_i k39_5), some (pw_i x92), some (pw_i x96)]) (Nat.le_trans (by decide) hd) E rfl (fun _ => pw_iV rfl rfl rfl rfl (pw_cellI f97h rfl)) (rfl : pm_ent 82 = some (4, 4, 8, 4, pmc_82)) rfl rfl (cm_82 (pw_dp hd (by decide)) I39 (k39_5) (by omega) (by omega) (x92) (by omega) (by omega) (x96) (by omega) (by omega)) ?_
                          rintro h98 v99 ⟨h98I, h98E, rfl⟩
                          refine ⟨_, rfl, ?_⟩
                          have h98F := E39.tr (h98E.wk (W' := [17, 18, 22]) (by first | rfl | simp))
                          show pw X d h98 195 129 [some (.ref 16), some (pw_i a0), some (pw_i a1), some (pw_i a2), some (pw_i x14), some (pw_i k39_5), some (pw_i 1)] [] _
                          refine pw_inc E (pc' := 132) (ls' := [some (.ref 16), some (pw_i a0), some (pw_i a1), some (pw_i a2), some (pw_i x14), some (pw_i (k39_5 + 1)), some (pw_i 1)]) rfl rfl rfl rfl ?_
                          refine pw_goto E (pc' := 39) rfl (by decide) ?_
                          exact ih39 _ (by omega) (k39_5 + 1) (some (pw_i 1)) h98 h98I h98F (by omega) (by omega)  rfl
                · skip
                  refine pw_if E (pc' := 129) rfl (by decide) (by omega) (by omega) ?_ ?_
                  · intro hc101
                    change x36 = (0 : Int) at hc101
                    refine pw_inc E (pc' := 132) (ls' := [some (.ref 16), some (pw_i a0), some (pw_i a1), some (pw_i a2), some (pw_i x14), some (pw_i (k39_5 + 1)), k39_6]) rfl rfl rfl rfl ?_
                    refine pw_goto E (pc' := 39) rfl (by decide) ?_
                    exact ih39 _ (by omega) (k39_5 + 1) k39_6 h39 I39 E39 (by omega) (by omega)  rfl
                  · intro hc102
                    change ¬ (x36 = (0 : Int)) at hc102
                    exfalso; omega
          exact L39 _ (0) (none) h16 h16I h16F (by omega) (by omega)  rfl
        · intro hc103
          change ¬ (x9 ≠ (0 : Int)) at hc103
          exfalso; omega
      · skip
        refine pw_if E (pc' := 23) rfl (by decide) (by omega) (by omega) ?_ ?_
        · intro hc105
          change x9 ≠ (0 : Int) at hc105
          exfalso; omega
        · intro hc106
          change ¬ (x9 ≠ (0 : Int)) at hc106
          refine pw_thr E rfl rfl I.2 ?_
          exact ⟨I, E0, Or.inl rfl⟩
  · skip
    refine pw_if E (pc' := 15) rfl (by decide) (by omega) (by omega) ?_ ?_
    · intro hc108
      change x3 = (0 : Int) at hc108
      refine pw_thr E rfl rfl I.2 ?_
      exact ⟨I, E0, Or.inl rfl⟩
    · intro hc109
      change ¬ (x3 = (0 : Int)) at hc109
      exfalso; omega

