/-! what the tokens tell a Reader (printed by wip/tool/reader3.py) -/
set_option maxHeartbeats 4000000 in
theorem cm_107_24 {X : List (Nat × List Value)} {d : Nat} {h : pm_H} (hd : 1 ≤ d) (I : pw_I h)  : pw X d h 107 0 [some (.ref 40)] [] (fun h' v => h = h' ∧ ∃ a : Int, v = .inl (some (pw_i a)) ∧ 0 ≤ a ∧ a ≤ 4 ∧ (a = pw_g h 24 4)) := by
  have E : pm_ent 107 = some (1, 1, 9, 0, pmc_107) := rfl
  refine pw_ld E (pc' := 1) (st' := [.ref 40]) rfl (fun _ => rfl) ?_
  refine pw_getI I E (c := 24) (k := 4) (pc' := 4) rfl rfl rfl rfl rfl rfl (fun hf1a hf1b hf1c hf1d => ?_)
  refine pw_iret E rfl ?_
  exact ⟨rfl, ⟨_, rfl, by omega, by omega, by omega⟩⟩
set_option maxHeartbeats 4000000 in
theorem cm_109_24 {X : List (Nat × List Value)} {d : Nat} {h : pm_H} (hd : 1 ≤ d) (I : pw_I h) (ch : Int) (hch1 : 0 ≤ ch) (hch2 : ch ≤ 65535) : pw X d h 109 0 [some (.ref 40), some (pw_i ch)] [] (fun h' v => h = h' ∧ ∃ a : Int, v = .inl (some (pw_i a)) ∧ 0 ≤ a ∧ a ≤ 1 ∧ (pw_g h 24 4 = 3 ∨ a = 0)) := by
  have E : pm_ent 109 = some (2, 2, 9, 1, pmc_109) := rfl
  refine pw_ld E (pc' := 1) (st' := [.ref 40]) rfl (fun _ => rfl) ?_
  refine pw_getI I E (c := 24) (k := 4) (pc' := 4) rfl rfl rfl rfl rfl rfl (fun hf1a hf1b hf1c hf1d => ?_)
  refine pw_ld E (pc' := 5) (st' := [pw_i 3, pw_i (pw_g h 24 4)]) rfl (fun _ => rfl) ?_
  refine pw_if2 E (pc' := 20) rfl (by decide) (by omega) (by omega) (by decide) (by decide) ?_ ?_
  · intro hc2
    have hc2 : pw_g h 24 4 ≠ (3 : Int) := hc2
    refine pw_ld E (pc' := 21) (st' := [pw_i 0]) rfl (fun _ => rfl) ?_
    refine pw_zret E rfl (by omega) ?_
    exact ⟨rfl, ⟨_, rfl, by omega, by omega, by omega⟩⟩
  · intro hc3
    have hc3 : ¬ (pw_g h 24 4 ≠ (3 : Int)) := hc3
    refine pw_ld E (pc' := 9) (st' := [.ref 40]) rfl (fun _ => rfl) ?_
    refine pw_getI I E (c := 24) (k := 5) (pc' := 12) rfl rfl rfl rfl rfl rfl (fun hf4a hf4b hf4c hf4d => ?_)
    refine pw_ld E (pc' := 13) (st' := [pw_i ch, pw_i (pw_g h 24 5)]) rfl (fun _ => rfl) ?_
    refine pw_if2 E (pc' := 20) rfl (by decide) (by omega) (by omega) (by omega) (by omega) ?_ ?_
    · intro hc5
      have hc5 : pw_g h 24 5 ≠ ch := hc5
      refine pw_ld E (pc' := 21) (st' := [pw_i 0]) rfl (fun _ => rfl) ?_
      refine pw_zret E rfl (by omega) ?_
      exact ⟨rfl, ⟨_, rfl, by omega, by omega, by omega⟩⟩
    · intro hc6
      have hc6 : ¬ (pw_g h 24 5 ≠ ch) := hc6
      refine pw_ld E (pc' := 17) (st' := [pw_i 1]) rfl (fun _ => rfl) ?_
      refine pw_goto E (pc' := 21) rfl (by decide) ?_
      refine pw_zret E rfl (by omega) ?_
      exact ⟨rfl, ⟨_, rfl, by omega, by omega, by omega⟩⟩
set_option maxHeartbeats 4000000 in
theorem cm_108_24 {X : List (Nat × List Value)} {d : Nat} {h : pm_H} (hd : 1 ≤ d) (I : pw_I h) (hX : pw_Xk X) (str : Nat) (hstr1 : 4 ≤ str) (hstr2 : str < 12) : pw X d h 108 0 [some (.ref 40), some (.ref str), none, none, none, none, none] [] (fun h' v => h = h' ∧ ∃ a : Int, v = .inl (some (pw_i a)) ∧ (-1) ≤ a ∧ a ≤ 60 ∧ (pw_g h 24 4 = 1 ∨ a = -1)) := by
  have E : pm_ent 108 = some (2, 7, 9, 0, pmc_108) := rfl
  obtain ⟨strl, strs, strn, stri⟩ := pw_sxk (p := str) hX hstr1 hstr2
  refine pw_ld E (pc' := 1) (st' := [pw_i 0]) rfl (fun _ => rfl) ?_
  refine pw_istn E (pc' := 2) (ls' := [some (.ref 40), some (.ref str), some (pw_i 0), none, none, none, none]) rfl rfl rfl rfl ?_
  refine pw_ld E (pc' := 3) (st' := [.ref 40]) rfl (fun _ => rfl) ?_
  refine pw_getI I E (c := 24) (k := 2) (pc' := 6) rfl rfl rfl rfl rfl rfl (fun hf1a hf1b hf1c hf1d => ?_)
  refine pw_istn E (pc' := 7) (ls' := [some (.ref 40), some (.ref str), some (pw_i 0), some (pw_i (pw_g h 24 2)), none, none, none]) rfl rfl rfl rfl ?_
  refine pw_ld E (pc' := 8) (st' := [.ref 40]) rfl (fun _ => rfl) ?_
  refine pw_getI I E (c := 24) (k := 4) (pc' := 11) rfl rfl rfl rfl rfl rfl (fun hf2a hf2b hf2c hf2d => ?_)
  refine pw_ld E (pc' := 12) (st' := [pw_i 1, pw_i (pw_g h 24 4)]) rfl (fun _ => rfl) ?_
  refine pw_if2 E (pc' := 19) rfl (by decide) (by omega) (by omega) (by decide) (by decide) ?_ ?_
  · intro hc3
    have hc3 : pw_g h 24 4 ≠ (1 : Int) := hc3
    refine pw_ld E (pc' := 20) (st' := [pw_i 0]) rfl (fun _ => rfl) ?_
    refine pw_ist E (pc' := 22) (ls' := [some (.ref 40), some (.ref str), some (pw_i 0), some (pw_i (pw_g h 24 2)), some (pw_i 0), none, none]) rfl rfl rfl rfl ?_
    refine pw_ld E (pc' := 23) (st' := [pw_i 0]) rfl (fun _ => rfl) ?_
    refine pw_ist E (pc' := 25) (ls' := [some (.ref 40), some (.ref str), some (pw_i 0), some (pw_i (pw_g h 24 2)), some (pw_i 0), some (pw_i 0), none]) rfl rfl rfl rfl ?_
    have L25 : ∀ (n25 : Nat) (k25_2 : Int) (k25_3 : Int) (k25_4 : Int) (k25_5 : Int) (k25_6 : Option Value), 0 ≤ k25_2 → k25_2 ≤ 60 → 0 ≤ k25_3 → k25_3 ≤ 1060 → 0 ≤ k25_4 → k25_4 ≤ 1 → 0 ≤ k25_5 → k25_5 ≤ 60 → k25_2 ≤ k25_5 → k25_3 ≤ 1000 + k25_5 → (pw_g h 24 4 = 1 ∨ k25_4 = 0) → (60 - k25_5).toNat = n25 → pw X d h 108 25 [some (.ref 40), some (.ref str), some (pw_i k25_2), some (pw_i k25_3), some (pw_i k25_4), some (pw_i k25_5), k25_6] [] (fun h' v => h = h' ∧ ∃ a : Int, v = .inl (some (pw_i a)) ∧ (-1) ≤ a ∧ a ≤ 60 ∧ (pw_g h 24 4 = 1 ∨ a = -1)) := by
      intro n25
      induction n25 using Nat.strongRecOn with
      | ind n25 ih25 =>
        intro k25_2 k25_3 k25_4 k25_5 k25_6 k25_2a k25_2b k25_3a k25_3b k25_4a k25_4b k25_5a k25_5b hx25_0 hx25_1 hx25_2 hm25
        refine pw_ld E (pc' := 27) (st' := [pw_i k25_5]) rfl (fun _ => rfl) ?_
        refine pw_ld E (pc' := 28) (st' := [.ref str, pw_i k25_5]) rfl (fun _ => rfl) ?_
        refine pw_slen E rfl rfl strs rfl ?_
        refine pw_if2 E (pc' := 130) rfl (by decide) (by omega) (by omega) (by omega) (by omega) ?_ ?_
        · intro hc4
          have hc4 : (strl.length : Int) ≤ k25_5 := hc4
          refine pw_ld E (pc' := 131) (st' := [pw_i ((-1))]) rfl (fun _ => rfl) ?_
          refine pw_iret E rfl ?_
          exact ⟨rfl, ⟨_, rfl, by omega, by omega, by omega⟩⟩
        · intro hc5
          have hc5 : ¬ ((strl.length : Int) ≤ k25_5) := hc5
          refine pw_ld E (pc' := 35) (st' := [.ref str]) rfl (fun _ => rfl) ?_
          refine pw_ld E (pc' := 37) (st' := [pw_i k25_5, .ref str]) rfl (fun _ => rfl) ?_
          refine pw_schr E rfl rfl strs stri strn (by omega) (by omega) rfl (fun x6 hx6a hx6b => ?_)
          refine pw_ist E (pc' := 42) (ls' := [some (.ref 40), some (.ref str), some (pw_i k25_2), some (pw_i k25_3), some (pw_i k25_4), some (pw_i k25_5), some (pw_i x6)]) rfl rfl rfl rfl ?_
          refine pw_ld E (pc' := 44) (st' := [pw_i x6]) rfl (fun _ => rfl) ?_
          refine pw_bip E (pc' := 46) rfl rfl (by decide) ?_
          refine pw_if2 E (pc' := 86) rfl (by decide) (by omega) (by omega) (by decide) (by decide) ?_ ?_
          · intro hc7
            have hc7 : x6 = (32 : Int) := hc7
            refine pw_ld E (pc' := 88) (st' := [pw_i k25_4]) rfl (fun _ => rfl) ?_
            refine pw_if E (pc' := 101) rfl (by decide) (by omega) (by omega) ?_ ?_
            · intro hc8
              have hc8 : k25_4 = (0 : Int) := hc8
              refine pw_inc E (pc' := 104) (ls' := [some (.ref 40), some (.ref str), some (pw_i (k25_2 + 1)), some (pw_i k25_3), some (pw_i k25_4), some (pw_i k25_5), some (pw_i x6)]) rfl rfl rfl rfl ?_
              refine pw_ld E (pc' := 105) (st' := [.ref 40]) rfl (fun _ => rfl) ?_
              refine pw_getI I E (c := 24) (k := 2) (pc' := 108) rfl rfl rfl rfl rfl rfl (fun hf9a hf9b hf9c hf9d => ?_)
              refine pw_istn E (pc' := 109) (ls' := [some (.ref 40), some (.ref str), some (pw_i (k25_2 + 1)), some (pw_i (pw_g h 24 2)), some (pw_i k25_4), some (pw_i k25_5), some (pw_i x6)]) rfl rfl rfl rfl ?_
              refine pw_ld E (pc' := 110) (st' := [.ref 40]) rfl (fun _ => rfl) ?_
              refine pw_getI I E (c := 24) (k := 4) (pc' := 113) rfl rfl rfl rfl rfl rfl (fun hf10a hf10b hf10c hf10d => ?_)
              refine pw_ld E (pc' := 114) (st' := [pw_i 1, pw_i (pw_g h 24 4)]) rfl (fun _ => rfl) ?_
              refine pw_if2 E (pc' := 121) rfl (by decide) (by omega) (by omega) (by decide) (by decide) ?_ ?_
              · intro hc11
                have hc11 : pw_g h 24 4 ≠ (1 : Int) := hc11
                refine pw_ld E (pc' := 122) (st' := [pw_i 0]) rfl (fun _ => rfl) ?_
                refine pw_ist E (pc' := 124) (ls' := [some (.ref 40), some (.ref str), some (pw_i (k25_2 + 1)), some (pw_i (pw_g h 24 2)), some (pw_i 0), some (pw_i k25_5), some (pw_i x6)]) rfl rfl rfl rfl ?_
                refine pw_inc E (pc' := 127) (ls' := [some (.ref 40), some (.ref str), some (pw_i (k25_2 + 1)), some (pw_i (pw_g h 24 2)), some (pw_i 0), some (pw_i (k25_5 + 1)), some (pw_i x6)]) rfl rfl rfl rfl ?_
                refine pw_goto E (pc' := 25) rfl (by decide) ?_
                exact ih25 _ (by omega) (k25_2 + 1) (pw_g h 24 2) (0) (k25_5 + 1) (some (pw_i x6))  (by omega) (by omega) (by omega) (by omega) (by omega) (by omega) (by omega) (by omega) (by omega) (by omega) (by omega) rfl
              · intro hc12
                have hc12 : ¬ (pw_g h 24 4 ≠ (1 : Int)) := hc12
                refine pw_ld E (pc' := 118) (st' := [pw_i 1]) rfl (fun _ => rfl) ?_
                refine pw_goto E (pc' := 122) rfl (by decide) ?_
                refine pw_ist E (pc' := 124) (ls' := [some (.ref 40), some (.ref str), some (pw_i (k25_2 + 1)), some (pw_i (pw_g h 24 2)), some (pw_i 1), some (pw_i k25_5), some (pw_i x6)]) rfl rfl rfl rfl ?_
                refine pw_inc E (pc' := 127) (ls' := [some (.ref 40), some (.ref str), some (pw_i (k25_2 + 1)), some (pw_i (pw_g h 24 2)), some (pw_i 1), some (pw_i (k25_5 + 1)), some (pw_i x6)]) rfl rfl rfl rfl ?_
                refine pw_goto E (pc' := 25) rfl (by decide) ?_
                exact ih25 _ (by omega) (k25_2 + 1) (pw_g h 24 2) (1) (k25_5 + 1) (some (pw_i x6))  (by omega) (by omega) (by omega) (by omega) (by omega) (by omega) (by omega) (by omega) (by omega) (by omega) (by omega) rfl
            · intro hc13
              have hc13 : ¬ (k25_4 = (0 : Int)) := hc13
              refine pw_ld E (pc' := 92) (st' := [pw_i k25_3]) rfl (fun _ => rfl) ?_
              refine pw_ld E (pc' := 93) (st' := [.ref 40, pw_i k25_3]) rfl (fun _ => rfl) ?_
              refine pw_getI I E (c := 24) (k := 3) (pc' := 96) rfl rfl rfl rfl rfl rfl (fun hf14a hf14b hf14c hf14d => ?_)
              refine pw_if2 E (pc' := 101) rfl (by decide) (by omega) (by omega) (by omega) (by omega) ?_ ?_
              · intro hc15
                have hc15 : k25_3 ≠ pw_g h 24 3 := hc15
                refine pw_inc E (pc' := 104) (ls' := [some (.ref 40), some (.ref str), some (pw_i (k25_2 + 1)), some (pw_i k25_3), some (pw_i k25_4), some (pw_i k25_5), some (pw_i x6)]) rfl rfl rfl rfl ?_
                refine pw_ld E (pc' := 105) (st' := [.ref 40]) rfl (fun _ => rfl) ?_
                refine pw_getI I E (c := 24) (k := 2) (pc' := 108) rfl rfl rfl rfl rfl rfl (fun hf16a hf16b hf16c hf16d => ?_)
                refine pw_istn E (pc' := 109) (ls' := [some (.ref 40), some (.ref str), some (pw_i (k25_2 + 1)), some (pw_i (pw_g h 24 2)), some (pw_i k25_4), some (pw_i k25_5), some (pw_i x6)]) rfl rfl rfl rfl ?_
                refine pw_ld E (pc' := 110) (st' := [.ref 40]) rfl (fun _ => rfl) ?_
                refine pw_getI I E (c := 24) (k := 4) (pc' := 113) rfl rfl rfl rfl rfl rfl (fun hf17a hf17b hf17c hf17d => ?_)
                refine pw_ld E (pc' := 114) (st' := [pw_i 1, pw_i (pw_g h 24 4)]) rfl (fun _ => rfl) ?_
                refine pw_if2 E (pc' := 121) rfl (by decide) (by omega) (by omega) (by decide) (by decide) ?_ ?_
                · intro hc18
                  have hc18 : pw_g h 24 4 ≠ (1 : Int) := hc18
                  refine pw_ld E (pc' := 122) (st' := [pw_i 0]) rfl (fun _ => rfl) ?_
                  refine pw_ist E (pc' := 124) (ls' := [some (.ref 40), some (.ref str), some (pw_i (k25_2 + 1)), some (pw_i (pw_g h 24 2)), some (pw_i 0), some (pw_i k25_5), some (pw_i x6)]) rfl rfl rfl rfl ?_
                  refine pw_inc E (pc' := 127) (ls' := [some (.ref 40), some (.ref str), some (pw_i (k25_2 + 1)), some (pw_i (pw_g h 24 2)), some (pw_i 0), some (pw_i (k25_5 + 1)), some (pw_i x6)]) rfl rfl rfl rfl ?_
                  refine pw_goto E (pc' := 25) rfl (by decide) ?_
                  exact ih25 _ (by omega) (k25_2 + 1) (pw_g h 24 2) (0) (k25_5 + 1) (some (pw_i x6))  (by omega) (by omega) (by omega) (by omega) (by omega) (by omega) (by omega) (by omega) (by omega) (by omega) (by omega) rfl
                · intro hc19
                  have hc19 : ¬ (pw_g h 24 4 ≠ (1 : Int)) := hc19
                  refine pw_ld E (pc' := 118) (st' := [pw_i 1]) rfl (fun _ => rfl) ?_
                  refine pw_goto E (pc' := 122) rfl (by decide) ?_
                  refine pw_ist E (pc' := 124) (ls' := [some (.ref 40), some (.ref str), some (pw_i (k25_2 + 1)), some (pw_i (pw_g h 24 2)), some (pw_i 1), some (pw_i k25_5), some (pw_i x6)]) rfl rfl rfl rfl ?_
                  refine pw_inc E (pc' := 127) (ls' := [some (.ref 40), some (.ref str), some (pw_i (k25_2 + 1)), some (pw_i (pw_g h 24 2)), some (pw_i 1), some (pw_i (k25_5 + 1)), some (pw_i x6)]) rfl rfl rfl rfl ?_
                  refine pw_goto E (pc' := 25) rfl (by decide) ?_
                  exact ih25 _ (by omega) (k25_2 + 1) (pw_g h 24 2) (1) (k25_5 + 1) (some (pw_i x6))  (by omega) (by omega) (by omega) (by omega) (by omega) (by omega) (by omega) (by omega) (by omega) (by omega) (by omega) rfl
              · intro hc20
                have hc20 : ¬ (k25_3 ≠ pw_g h 24 3) := hc20
                refine pw_ld E (pc' := 100) (st' := [pw_i k25_2]) rfl (fun _ => rfl) ?_
                refine pw_iret E rfl ?_
                exact ⟨rfl, ⟨_, rfl, by omega, by omega, by omega⟩⟩
          · intro hc21
            have hc21 : ¬ (x6 = (32 : Int)) := hc21
            refine pw_ld E (pc' := 51) (st' := [pw_i k25_4]) rfl (fun _ => rfl) ?_
            refine pw_if E (pc' := 77) rfl (by decide) (by omega) (by omega) ?_ ?_
            · intro hc22
              have hc22 : k25_4 = (0 : Int) := hc22
              refine pw_ld E (pc' := 78) (st' := [pw_i 0]) rfl (fun _ => rfl) ?_
              refine pw_ist E (pc' := 80) (ls' := [some (.ref 40), some (.ref str), some (pw_i k25_2), some (pw_i k25_3), some (pw_i 0), some (pw_i k25_5), some (pw_i x6)]) rfl rfl rfl rfl ?_
              refine pw_inc E (pc' := 83) (ls' := [some (.ref 40), some (.ref str), some (pw_i k25_2), some (pw_i (k25_3 + 1)), some (pw_i 0), some (pw_i k25_5), some (pw_i x6)]) rfl rfl rfl rfl ?_
              refine pw_goto E (pc' := 124) rfl (by decide) ?_
              refine pw_inc E (pc' := 127) (ls' := [some (.ref 40), some (.ref str), some (pw_i k25_2), some (pw_i (k25_3 + 1)), some (pw_i 0), some (pw_i (k25_5 + 1)), some (pw_i x6)]) rfl rfl rfl rfl ?_
              refine pw_goto E (pc' := 25) rfl (by decide) ?_
              exact ih25 _ (by omega) (k25_2) (k25_3 + 1) (0) (k25_5 + 1) (some (pw_i x6))  (by omega) (by omega) (by omega) (by omega) (by omega) (by omega) (by omega) (by omega) (by omega) (by omega) (by omega) rfl
            · intro hc23
              have hc23 : ¬ (k25_4 = (0 : Int)) := hc23
              refine pw_ld E (pc' := 55) (st' := [pw_i k25_3]) rfl (fun _ => rfl) ?_
              refine pw_ld E (pc' := 56) (st' := [.ref 40, pw_i k25_3]) rfl (fun _ => rfl) ?_
              refine pw_getI I E (c := 24) (k := 3) (pc' := 59) rfl rfl rfl rfl rfl rfl (fun hf24a hf24b hf24c hf24d => ?_)
              refine pw_if2 E (pc' := 77) rfl (by decide) (by omega) (by omega) (by omega) (by omega) ?_ ?_
              · intro hc25
                have hc25 : pw_g h 24 3 ≤ k25_3 := hc25
                refine pw_ld E (pc' := 78) (st' := [pw_i 0]) rfl (fun _ => rfl) ?_
                refine pw_ist E (pc' := 80) (ls' := [some (.ref 40), some (.ref str), some (pw_i k25_2), some (pw_i k25_3), some (pw_i 0), some (pw_i k25_5), some (pw_i x6)]) rfl rfl rfl rfl ?_
                refine pw_inc E (pc' := 83) (ls' := [some (.ref 40), some (.ref str), some (pw_i k25_2), some (pw_i (k25_3 + 1)), some (pw_i 0), some (pw_i k25_5), some (pw_i x6)]) rfl rfl rfl rfl ?_
                refine pw_goto E (pc' := 124) rfl (by decide) ?_
                refine pw_inc E (pc' := 127) (ls' := [some (.ref 40), some (.ref str), some (pw_i k25_2), some (pw_i (k25_3 + 1)), some (pw_i 0), some (pw_i (k25_5 + 1)), some (pw_i x6)]) rfl rfl rfl rfl ?_
                refine pw_goto E (pc' := 25) rfl (by decide) ?_
                exact ih25 _ (by omega) (k25_2) (k25_3 + 1) (0) (k25_5 + 1) (some (pw_i x6))  (by omega) (by omega) (by omega) (by omega) (by omega) (by omega) (by omega) (by omega) (by omega) (by omega) (by omega) rfl
              · intro hc26
                have hc26 : ¬ (pw_g h 24 3 ≤ k25_3) := hc26
                refine pw_ld E (pc' := 63) (st' := [.ref 40]) rfl (fun _ => rfl) ?_
                refine pw_getR (b := 41) I E (c := 24) (k := 0) (pc' := 66) rfl rfl rfl rfl rfl rfl rfl ?_
                refine pw_ld E (pc' := 67) (st' := [pw_i k25_3, .ref 41]) rfl (fun _ => rfl) ?_
                refine pw_ald I E (c := 25) (pc' := 68) rfl rfl rfl (by decide) rfl (by decide) (by omega) (by omega) rfl (fun hf27a hf27b hf27c hf27d => ?_)
                refine pw_ld E (pc' := 70) (st' := [pw_i x6, pw_i (pw_g h 25 (k25_3.toNat))]) rfl (fun _ => rfl) ?_
                refine pw_if2 E (pc' := 77) rfl (by decide) (by omega) (by omega) (by omega) (by omega) ?_ ?_
                · intro hc28
                  have hc28 : pw_g h 25 (k25_3.toNat) ≠ x6 := hc28
                  refine pw_ld E (pc' := 78) (st' := [pw_i 0]) rfl (fun _ => rfl) ?_
                  refine pw_ist E (pc' := 80) (ls' := [some (.ref 40), some (.ref str), some (pw_i k25_2), some (pw_i k25_3), some (pw_i 0), some (pw_i k25_5), some (pw_i x6)]) rfl rfl rfl rfl ?_
                  refine pw_inc E (pc' := 83) (ls' := [some (.ref 40), some (.ref str), some (pw_i k25_2), some (pw_i (k25_3 + 1)), some (pw_i 0), some (pw_i k25_5), some (pw_i x6)]) rfl rfl rfl rfl ?_
                  refine pw_goto E (pc' := 124) rfl (by decide) ?_
                  refine pw_inc E (pc' := 127) (ls' := [some (.ref 40), some (.ref str), some (pw_i k25_2), some (pw_i (k25_3 + 1)), some (pw_i 0), some (pw_i (k25_5 + 1)), some (pw_i x6)]) rfl rfl rfl rfl ?_
                  refine pw_goto E (pc' := 25) rfl (by decide) ?_
                  exact ih25 _ (by omega) (k25_2) (k25_3 + 1) (0) (k25_5 + 1) (some (pw_i x6))  (by omega) (by omega) (by omega) (by omega) (by omega) (by omega) (by omega) (by omega) (by omega) (by omega) (by omega) rfl
                · intro hc29
                  have hc29 : ¬ (pw_g h 25 (k25_3.toNat) ≠ x6) := hc29
                  refine pw_ld E (pc' := 74) (st' := [pw_i 1]) rfl (fun _ => rfl) ?_
                  refine pw_goto E (pc' := 78) rfl (by decide) ?_
                  refine pw_ist E (pc' := 80) (ls' := [some (.ref 40), some (.ref str), some (pw_i k25_2), some (pw_i k25_3), some (pw_i 1), some (pw_i k25_5), some (pw_i x6)]) rfl rfl rfl rfl ?_
                  refine pw_inc E (pc' := 83) (ls' := [some (.ref 40), some (.ref str), some (pw_i k25_2), some (pw_i (k25_3 + 1)), some (pw_i 1), some (pw_i k25_5), some (pw_i x6)]) rfl rfl rfl rfl ?_
                  refine pw_goto E (pc' := 124) rfl (by decide) ?_
                  refine pw_inc E (pc' := 127) (ls' := [some (.ref 40), some (.ref str), some (pw_i k25_2), some (pw_i (k25_3 + 1)), some (pw_i 1), some (pw_i (k25_5 + 1)), some (pw_i x6)]) rfl rfl rfl rfl ?_
                  refine pw_goto E (pc' := 25) rfl (by decide) ?_
                  exact ih25 _ (by omega) (k25_2) (k25_3 + 1) (1) (k25_5 + 1) (some (pw_i x6))  (by omega) (by omega) (by omega) (by omega) (by omega) (by omega) (by omega) (by omega) (by omega) (by omega) (by omega) rfl
    exact L25 _ (0) (pw_g h 24 2) (0) (0) (none)  (by omega) (by omega) (by omega) (by omega) (by omega) (by omega) (by omega) (by omega) (by omega) (by omega) (by omega) rfl
  · intro hc30
    have hc30 : ¬ (pw_g h 24 4 ≠ (1 : Int)) := hc30
    refine pw_ld E (pc' := 16) (st' := [pw_i 1]) rfl (fun _ => rfl) ?_
    refine pw_goto E (pc' := 20) rfl (by decide) ?_
    refine pw_ist E (pc' := 22) (ls' := [some (.ref 40), some (.ref str), some (pw_i 0), some (pw_i (pw_g h 24 2)), some (pw_i 1), none, none]) rfl rfl rfl rfl ?_
    refine pw_ld E (pc' := 23) (st' := [pw_i 0]) rfl (fun _ => rfl) ?_
    refine pw_ist E (pc' := 25) (ls' := [some (.ref 40), some (.ref str), some (pw_i 0), some (pw_i (pw_g h 24 2)), some (pw_i 1), some (pw_i 0), none]) rfl rfl rfl rfl ?_
    have L25 : ∀ (n25 : Nat) (k25_2 : Int) (k25_3 : Int) (k25_4 : Int) (k25_5 : Int) (k25_6 : Option Value), 0 ≤ k25_2 → k25_2 ≤ 60 → 0 ≤ k25_3 → k25_3 ≤ 1060 → 0 ≤ k25_4 → k25_4 ≤ 1 → 0 ≤ k25_5 → k25_5 ≤ 60 → k25_2 ≤ k25_5 → k25_3 ≤ 1000 + k25_5 → (pw_g h 24 4 = 1 ∨ k25_4 = 0) → (60 - k25_5).toNat = n25 → pw X d h 108 25 [some (.ref 40), some (.ref str), some (pw_i k25_2), some (pw_i k25_3), some (pw_i k25_4), some (pw_i k25_5), k25_6] [] (fun h' v => h = h' ∧ ∃ a : Int, v = .inl (some (pw_i a)) ∧ (-1) ≤ a ∧ a ≤ 60 ∧ (pw_g h 24 4 = 1 ∨ a = -1)) := by
      intro n25
      induction n25 using Nat.strongRecOn with
      | ind n25 ih25 =>
        intro k25_2 k25_3 k25_4 k25_5 k25_6 k25_2a k25_2b k25_3a k25_3b k25_4a k25_4b k25_5a k25_5b hx25_0 hx25_1 hx25_2 hm25
        refine pw_ld E (pc' := 27) (st' := [pw_i k25_5]) rfl (fun _ => rfl) ?_
        refine pw_ld E (pc' := 28) (st' := [.ref str, pw_i k25_5]) rfl (fun _ => rfl) ?_
        refine pw_slen E rfl rfl strs rfl ?_
        refine pw_if2 E (pc' := 130) rfl (by decide) (by omega) (by omega) (by omega) (by omega) ?_ ?_
        · intro hc31
          have hc31 : (strl.length : Int) ≤ k25_5 := hc31
          refine pw_ld E (pc' := 131) (st' := [pw_i ((-1))]) rfl (fun _ => rfl) ?_
          refine pw_iret E rfl ?_
          exact ⟨rfl, ⟨_, rfl, by omega, by omega, by omega⟩⟩
        · intro hc32
          have hc32 : ¬ ((strl.length : Int) ≤ k25_5) := hc32
          refine pw_ld E (pc' := 35) (st' := [.ref str]) rfl (fun _ => rfl) ?_
          refine pw_ld E (pc' := 37) (st' := [pw_i k25_5, .ref str]) rfl (fun _ => rfl) ?_
          refine pw_schr E rfl rfl strs stri strn (by omega) (by omega) rfl (fun x33 hx33a hx33b => ?_)
          refine pw_ist E (pc' := 42) (ls' := [some (.ref 40), some (.ref str), some (pw_i k25_2), some (pw_i k25_3), some (pw_i k25_4), some (pw_i k25_5), some (pw_i x33)]) rfl rfl rfl rfl ?_
          refine pw_ld E (pc' := 44) (st' := [pw_i x33]) rfl (fun _ => rfl) ?_
          refine pw_bip E (pc' := 46) rfl rfl (by decide) ?_
          refine pw_if2 E (pc' := 86) rfl (by decide) (by omega) (by omega) (by decide) (by decide) ?_ ?_
          · intro hc34
            have hc34 : x33 = (32 : Int) := hc34
            refine pw_ld E (pc' := 88) (st' := [pw_i k25_4]) rfl (fun _ => rfl) ?_
            refine pw_if E (pc' := 101) rfl (by decide) (by omega) (by omega) ?_ ?_
            · intro hc35
              have hc35 : k25_4 = (0 : Int) := hc35
              refine pw_inc E (pc' := 104) (ls' := [some (.ref 40), some (.ref str), some (pw_i (k25_2 + 1)), some (pw_i k25_3), some (pw_i k25_4), some (pw_i k25_5), some (pw_i x33)]) rfl rfl rfl rfl ?_
              refine pw_ld E (pc' := 105) (st' := [.ref 40]) rfl (fun _ => rfl) ?_
              refine pw_getI I E (c := 24) (k := 2) (pc' := 108) rfl rfl rfl rfl rfl rfl (fun hf36a hf36b hf36c hf36d => ?_)
              refine pw_istn E (pc' := 109) (ls' := [some (.ref 40), some (.ref str), some (pw_i (k25_2 + 1)), some (pw_i (pw_g h 24 2)), some (pw_i k25_4), some (pw_i k25_5), some (pw_i x33)]) rfl rfl rfl rfl ?_
              refine pw_ld E (pc' := 110) (st' := [.ref 40]) rfl (fun _ => rfl) ?_
              refine pw_getI I E (c := 24) (k := 4) (pc' := 113) rfl rfl rfl rfl rfl rfl (fun hf37a hf37b hf37c hf37d => ?_)
              refine pw_ld E (pc' := 114) (st' := [pw_i 1, pw_i (pw_g h 24 4)]) rfl (fun _ => rfl) ?_
              refine pw_if2 E (pc' := 121) rfl (by decide) (by omega) (by omega) (by decide) (by decide) ?_ ?_
              · intro hc38
                have hc38 : pw_g h 24 4 ≠ (1 : Int) := hc38
                exfalso; omega
              · intro hc39
                have hc39 : ¬ (pw_g h 24 4 ≠ (1 : Int)) := hc39
                refine pw_ld E (pc' := 118) (st' := [pw_i 1]) rfl (fun _ => rfl) ?_
                refine pw_goto E (pc' := 122) rfl (by decide) ?_
                refine pw_ist E (pc' := 124) (ls' := [some (.ref 40), some (.ref str), some (pw_i (k25_2 + 1)), some (pw_i (pw_g h 24 2)), some (pw_i 1), some (pw_i k25_5), some (pw_i x33)]) rfl rfl rfl rfl ?_
                refine pw_inc E (pc' := 127) (ls' := [some (.ref 40), some (.ref str), some (pw_i (k25_2 + 1)), some (pw_i (pw_g h 24 2)), some (pw_i 1), some (pw_i (k25_5 + 1)), some (pw_i x33)]) rfl rfl rfl rfl ?_
                refine pw_goto E (pc' := 25) rfl (by decide) ?_
                exact ih25 _ (by omega) (k25_2 + 1) (pw_g h 24 2) (1) (k25_5 + 1) (some (pw_i x33))  (by omega) (by omega) (by omega) (by omega) (by omega) (by omega) (by omega) (by omega) (by omega) (by omega) (by omega) rfl
            · intro hc40
              have hc40 : ¬ (k25_4 = (0 : Int)) := hc40
              refine pw_ld E (pc' := 92) (st' := [pw_i k25_3]) rfl (fun _ => rfl) ?_
              refine pw_ld E (pc' := 93) (st' := [.ref 40, pw_i k25_3]) rfl (fun _ => rfl) ?_
              refine pw_getI I E (c := 24) (k := 3) (pc' := 96) rfl rfl rfl rfl rfl rfl (fun hf41a hf41b hf41c hf41d => ?_)
              refine pw_if2 E (pc' := 101) rfl (by decide) (by omega) (by omega) (by omega) (by omega) ?_ ?_
              · intro hc42
                have hc42 : k25_3 ≠ pw_g h 24 3 := hc42
                refine pw_inc E (pc' := 104) (ls' := [some (.ref 40), some (.ref str), some (pw_i (k25_2 + 1)), some (pw_i k25_3), some (pw_i k25_4), some (pw_i k25_5), some (pw_i x33)]) rfl rfl rfl rfl ?_
                refine pw_ld E (pc' := 105) (st' := [.ref 40]) rfl (fun _ => rfl) ?_
                refine pw_getI I E (c := 24) (k := 2) (pc' := 108) rfl rfl rfl rfl rfl rfl (fun hf43a hf43b hf43c hf43d => ?_)
                refine pw_istn E (pc' := 109) (ls' := [some (.ref 40), some (.ref str), some (pw_i (k25_2 + 1)), some (pw_i (pw_g h 24 2)), some (pw_i k25_4), some (pw_i k25_5), some (pw_i x33)]) rfl rfl rfl rfl ?_
                refine pw_ld E (pc' := 110) (st' := [.ref 40]) rfl (fun _ => rfl) ?_
                refine pw_getI I E (c := 24) (k := 4) (pc' := 113) rfl rfl rfl rfl rfl rfl (fun hf44a hf44b hf44c hf44d => ?_)
                refine pw_ld E (pc' := 114) (st' := [pw_i 1, pw_i (pw_g h 24 4)]) rfl (fun _ => rfl) ?_
                refine pw_if2 E (pc' := 121) rfl (by decide) (by omega) (by omega) (by decide) (by decide) ?_ ?_
                · intro hc45
                  have hc45 : pw_g h 24 4 ≠ (1 : Int) := hc45
                  exfalso; omega
                · intro hc46
                  have hc46 : ¬ (pw_g h 24 4 ≠ (1 : Int)) := hc46
                  refine pw_ld E (pc' := 118) (st' := [pw_i 1]) rfl (fun _ => rfl) ?_
                  refine pw_goto E (pc' := 122) rfl (by decide) ?_
                  refine pw_ist E (pc' := 124) (ls' := [some (.ref 40), some (.ref str), some (pw_i (k25_2 + 1)), some (pw_i (pw_g h 24 2)), some (pw_i 1), some (pw_i k25_5), some (pw_i x33)]) rfl rfl rfl rfl ?_
                  refine pw_inc E (pc' := 127) (ls' := [some (.ref 40), some (.ref str), some (pw_i (k25_2 + 1)), some (pw_i (pw_g h 24 2)), some (pw_i 1), some (pw_i (k25_5 + 1)), some (pw_i x33)]) rfl rfl rfl rfl ?_
                  refine pw_goto E (pc' := 25) rfl (by decide) ?_
                  exact ih25 _ (by omega) (k25_2 + 1) (pw_g h 24 2) (1) (k25_5 + 1) (some (pw_i x33))  (by omega) (by omega) (by omega) (by omega) (by omega) (by omega) (by omega) (by omega) (by omega) (by omega) (by omega) rfl
              · intro hc47
                have hc47 : ¬ (k25_3 ≠ pw_g h 24 3) := hc47
                refine pw_ld E (pc' := 100) (st' := [pw_i k25_2]) rfl (fun _ => rfl) ?_
                refine pw_iret E rfl ?_
                exact ⟨rfl, ⟨_, rfl, by omega, by omega, by omega⟩⟩
          · intro hc48
            have hc48 : ¬ (x33 = (32 : Int)) := hc48
            refine pw_ld E (pc' := 51) (st' := [pw_i k25_4]) rfl (fun _ => rfl) ?_
            refine pw_if E (pc' := 77) rfl (by decide) (by omega) (by omega) ?_ ?_
            · intro hc49
              have hc49 : k25_4 = (0 : Int) := hc49
              refine pw_ld E (pc' := 78) (st' := [pw_i 0]) rfl (fun _ => rfl) ?_
              refine pw_ist E (pc' := 80) (ls' := [some (.ref 40), some (.ref str), some (pw_i k25_2), some (pw_i k25_3), some (pw_i 0), some (pw_i k25_5), some (pw_i x33)]) rfl rfl rfl rfl ?_
              refine pw_inc E (pc' := 83) (ls' := [some (.ref 40), some (.ref str), some (pw_i k25_2), some (pw_i (k25_3 + 1)), some (pw_i 0), some (pw_i k25_5), some (pw_i x33)]) rfl rfl rfl rfl ?_
              refine pw_goto E (pc' := 124) rfl (by decide) ?_
              refine pw_inc E (pc' := 127) (ls' := [some (.ref 40), some (.ref str), some (pw_i k25_2), some (pw_i (k25_3 + 1)), some (pw_i 0), some (pw_i (k25_5 + 1)), some (pw_i x33)]) rfl rfl rfl rfl ?_
              refine pw_goto E (pc' := 25) rfl (by decide) ?_
              exact ih25 _ (by omega) (k25_2) (k25_3 + 1) (0) (k25_5 + 1) (some (pw_i x33))  (by omega) (by omega) (by omega) (by omega) (by omega) (by omega) (by omega) (by omega) (by omega) (by omega) (by omega) rfl
            · intro hc50
              have hc50 : ¬ (k25_4 = (0 : Int)) := hc50
              refine pw_ld E (pc' := 55) (st' := [pw_i k25_3]) rfl (fun _ => rfl) ?_
              refine pw_ld E (pc' := 56) (st' := [.ref 40, pw_i k25_3]) rfl (fun _ => rfl) ?_
              refine pw_getI I E (c := 24) (k := 3) (pc' := 59) rfl rfl rfl rfl rfl rfl (fun hf51a hf51b hf51c hf51d => ?_)
              refine pw_if2 E (pc' := 77) rfl (by decide) (by omega) (by omega) (by omega) (by omega) ?_ ?_
              · intro hc52
                have hc52 : pw_g h 24 3 ≤ k25_3 := hc52
                refine pw_ld E (pc' := 78) (st' := [pw_i 0]) rfl (fun _ => rfl) ?_
                refine pw_ist E (pc' := 80) (ls' := [some (.ref 40), some (.ref str), some (pw_i k25_2), some (pw_i k25_3), some (pw_i 0), some (pw_i k25_5), some (pw_i x33)]) rfl rfl rfl rfl ?_
                refine pw_inc E (pc' := 83) (ls' := [some (.ref 40), some (.ref str), some (pw_i k25_2), some (pw_i (k25_3 + 1)), some (pw_i 0), some (pw_i k25_5), some (pw_i x33)]) rfl rfl rfl rfl ?_
                refine pw_goto E (pc' := 124) rfl (by decide) ?_
                refine pw_inc E (pc' := 127) (ls' := [some (.ref 40), some (.ref str), some (pw_i k25_2), some (pw_i (k25_3 + 1)), some (pw_i 0), some (pw_i (k25_5 + 1)), some (pw_i x33)]) rfl rfl rfl rfl ?_
                refine pw_goto E (pc' := 25) rfl (by decide) ?_
                exact ih25 _ (by omega) (k25_2) (k25_3 + 1) (0) (k25_5 + 1) (some (pw_i x33))  (by omega) (by omega) (by omega) (by omega) (by omega) (by omega) (by omega) (by omega) (by omega) (by omega) (by omega) rfl
              · intro hc53
                have hc53 : ¬ (pw_g h 24 3 ≤ k25_3) := hc53
                refine pw_ld E (pc' := 63) (st' := [.ref 40]) rfl (fun _ => rfl) ?_
                refine pw_getR (b := 41) I E (c := 24) (k := 0) (pc' := 66) rfl rfl rfl rfl rfl rfl rfl ?_
                refine pw_ld E (pc' := 67) (st' := [pw_i k25_3, .ref 41]) rfl (fun _ => rfl) ?_
                refine pw_ald I E (c := 25) (pc' := 68) rfl rfl rfl (by decide) rfl (by decide) (by omega) (by omega) rfl (fun hf54a hf54b hf54c hf54d => ?_)
                refine pw_ld E (pc' := 70) (st' := [pw_i x33, pw_i (pw_g h 25 (k25_3.toNat))]) rfl (fun _ => rfl) ?_
                refine pw_if2 E (pc' := 77) rfl (by decide) (by omega) (by omega) (by omega) (by omega) ?_ ?_
                · intro hc55
                  have hc55 : pw_g h 25 (k25_3.toNat) ≠ x33 := hc55
                  refine pw_ld E (pc' := 78) (st' := [pw_i 0]) rfl (fun _ => rfl) ?_
                  refine pw_ist E (pc' := 80) (ls' := [some (.ref 40), some (.ref str), some (pw_i k25_2), some (pw_i k25_3), some (pw_i 0), some (pw_i k25_5), some (pw_i x33)]) rfl rfl rfl rfl ?_
                  refine pw_inc E (pc' := 83) (ls' := [some (.ref 40), some (.ref str), some (pw_i k25_2), some (pw_i (k25_3 + 1)), some (pw_i 0), some (pw_i k25_5), some (pw_i x33)]) rfl rfl rfl rfl ?_
                  refine pw_goto E (pc' := 124) rfl (by decide) ?_
                  refine pw_inc E (pc' := 127) (ls' := [some (.ref 40), some (.ref str), some (pw_i k25_2), some (pw_i (k25_3 + 1)), some (pw_i 0), some (pw_i (k25_5 + 1)), some (pw_i x33)]) rfl rfl rfl rfl ?_
                  refine pw_goto E (pc' := 25) rfl (by decide) ?_
                  exact ih25 _ (by omega) (k25_2) (k25_3 + 1) (0) (k25_5 + 1) (some (pw_i x33))  (by omega) (by omega) (by omega) (by omega) (by omega) (by omega) (by omega) (by omega) (by omega) (by omega) (by omega) rfl
                · intro hc56
                  have hc56 : ¬ (pw_g h 25 (k25_3.toNat) ≠ x33) := hc56
                  refine pw_ld E (pc' := 74) (st' := [pw_i 1]) rfl (fun _ => rfl) ?_
                  refine pw_goto E (pc' := 78) rfl (by decide) ?_
                  refine pw_ist E (pc' := 80) (ls' := [some (.ref 40), some (.ref str), some (pw_i k25_2), some (pw_i k25_3), some (pw_i 1), some (pw_i k25_5), some (pw_i x33)]) rfl rfl rfl rfl ?_
                  refine pw_inc E (pc' := 83) (ls' := [some (.ref 40), some (.ref str), some (pw_i k25_2), some (pw_i (k25_3 + 1)), some (pw_i 1), some (pw_i k25_5), some (pw_i x33)]) rfl rfl rfl rfl ?_
                  refine pw_goto E (pc' := 124) rfl (by decide) ?_
                  refine pw_inc E (pc' := 127) (ls' := [some (.ref 40), some (.ref str), some (pw_i k25_2), some (pw_i (k25_3 + 1)), some (pw_i 1), some (pw_i (k25_5 + 1)), some (pw_i x33)]) rfl rfl rfl rfl ?_
                  refine pw_goto E (pc' := 25) rfl (by decide) ?_
                  exact ih25 _ (by omega) (k25_2) (k25_3 + 1) (1) (k25_5 + 1) (some (pw_i x33))  (by omega) (by omega) (by omega) (by omega) (by omega) (by omega) (by omega) (by omega) (by omega) (by omega) (by omega) rfl
    exact L25 _ (0) (pw_g h 24 2) (1) (0) (none)  (by omega) (by omega) (by omega) (by omega) (by omega) (by omega) (by omega) (by omega) (by omega) (by omega) (by omega) rfl
set_option maxHeartbeats 4000000 in
theorem cm_55_24 {X : List (Nat × List Value)} {d : Nat} {h : pm_H} (hd : 2 ≤ d) (I : pw_I h) (hX : pw_Xk X)  : pw X d h 55 0 [some (.ref 40), none] [] (fun h' v => h = h' ∧ ∃ a : Int, v = .inl (some (pw_i a)) ∧ (-1) ≤ a ∧ a ≤ 7 ∧ (a ≠ 0 ∧ (pw_g h 24 4 ≠ 4 ∨ a = -1))) := by
  have E : pm_ent 55 = some (1, 2, 5, 0, pmc_55) := rfl
  refine pw_ld E (pc' := 1) (st' := [.ref 40]) rfl (fun _ => rfl) ?_
  refine pw_ld E (pc' := 3) (st' := [.ref 11, .ref 40]) rfl (fun _ => rfl) ?_
  obtain ⟨f1l, f1h, -⟩ := pw_obj (c := 24) I rfl
  refine pw_call (m' := 108) (As := [.ref 40, .ref 11]) (rest := []) (ls'' := [some (.ref 40), some (.ref 11), none, none, none, none, none]) (by omega) E rfl (fun _ => pw_iV rfl rfl rfl rfl (pw_cellI f1h rfl)) (rfl : pm_ent 108 = some (2, 7, 9, 0, pmc_108)) rfl rfl (cm_108_24 (by omega) I hX 11 (by omega) (by omega)) ?_
  rintro u3 v2 ⟨rfl, x4, rfl, hx4a, hx4b, hx4r⟩
  refine ⟨_, rfl, ?_⟩
  show pw X d h 55 6 [some (.ref 40), none] [pw_i x4] _
  have hx4r : pw_g h 24 4 = 1 ∨ x4 = -1 := hx4r
  refine pw_istn E (pc' := 7) (ls' := [some (.ref 40), some (pw_i x4)]) rfl rfl rfl rfl ?_
  refine pw_ld E (pc' := 8) (st' := [pw_i x4]) rfl (fun _ => rfl) ?_
  refine pw_ld E (pc' := 9) (st' := [pw_i ((-1)), pw_i x4]) rfl (fun _ => rfl) ?_
  refine pw_if2 E (pc' := 22) rfl (by decide) (by omega) (by omega) (by decide) (by decide) ?_ ?_
  · intro hc5
    have hc5 : x4 = ((-1) : Int) := hc5
    refine pw_ld E (pc' := 23) (st' := [.ref 40]) rfl (fun _ => rfl) ?_
    obtain ⟨f6l, f6h, -⟩ := pw_obj (c := 24) I rfl
    refine pw_call (m' := 107) (As := [.ref 40]) (rest := []) (ls'' := [some (.ref 40)]) (by omega) E rfl (fun _ => pw_iV rfl rfl rfl rfl (pw_cellI f6h rfl)) (rfl : pm_ent 107 = some (1, 1, 9, 0, pmc_107)) rfl rfl (cm_107_24 (by omega) I ) ?_
    rintro u8 v7 ⟨rfl, x9, rfl, hx9a, hx9b, hx9r⟩
    refine ⟨_, rfl, ?_⟩
    show pw X d h 55 26 [some (.ref 40), some (pw_i x4)] [pw_i x9] _
    have hx9r : x9 = pw_g h 24 4 := hx9r
    refine pw_ld E (pc' := 27) (st' := [pw_i 3, pw_i x9]) rfl (fun _ => rfl) ?_
    refine pw_if2 E (pc' := 32) rfl (by decide) (by omega) (by omega) (by decide) (by decide) ?_ ?_
    · intro hc10
      have hc10 : x9 = (3 : Int) := hc10
      refine pw_ld E (pc' := 33) (st' := [.ref 40]) rfl (fun _ => rfl) ?_
      obtain ⟨f11l, f11h, -⟩ := pw_obj (c := 24) I rfl
      refine pw_call (m' := 110) (As := [.ref 40]) (rest := []) (ls'' := [some (.ref 40)]) (by omega) E rfl (fun _ => pw_iV rfl rfl rfl rfl (pw_cellI f11h rfl)) (rfl : pm_ent 110 = some (1, 1, 9, 0, pmc_110)) rfl rfl (cm_110 (by omega) I ) ?_
      rintro u13 v12 ⟨rfl, x14, rfl, hx14a, hx14b⟩
      refine ⟨_, rfl, ?_⟩
      show pw X d h 55 36 [some (.ref 40), some (pw_i x4)] [pw_i x14] _
      rcases (by omega : x14 = 42 ∨ x14 = 43 ∨ x14 = 45 ∨ x14 = 60 ∨ x14 = 61 ∨ (x14 ≠ 42 ∧ x14 ≠ 43 ∧ x14 ≠ 45 ∧ x14 ≠ 60 ∧ x14 ≠ 61)) with hs15 | hs15 | hs15 | hs15 | hs15 | hs15
      · refine pw_lsw (o := 61) E (pc' := 97) rfl (by omega) (by omega) rfl (by rw [hs15]; rfl) (by decide) ?_
        refine pw_bip E (pc' := 99) rfl rfl (by decide) ?_
        refine pw_iret E rfl ?_
        exact ⟨rfl, ⟨_, rfl, by omega, by omega, by omega⟩⟩
      · refine pw_lsw (o := 56) E (pc' := 92) rfl (by omega) (by omega) rfl (by rw [hs15]; rfl) (by decide) ?_
        refine pw_ld E (pc' := 93) (st' := [pw_i 5]) rfl (fun _ => rfl) ?_
        refine pw_iret E rfl ?_
        exact ⟨rfl, ⟨_, rfl, by omega, by omega, by omega⟩⟩
      · refine pw_lsw (o := 58) E (pc' := 94) rfl (by omega) (by omega) rfl (by rw [hs15]; rfl) (by decide) ?_
        refine pw_bip E (pc' := 96) rfl rfl (by decide) ?_
        refine pw_iret E rfl ?_
        exact ⟨rfl, ⟨_, rfl, by omega, by omega, by omega⟩⟩
      · refine pw_lsw (o := 52) E (pc' := 88) rfl (by omega) (by omega) rfl (by rw [hs15]; rfl) (by decide) ?_
        refine pw_ld E (pc' := 89) (st' := [pw_i 3]) rfl (fun _ => rfl) ?_
        refine pw_iret E rfl ?_
        exact ⟨rfl, ⟨_, rfl, by omega, by omega, by omega⟩⟩
      · refine pw_lsw (o := 54) E (pc' := 90) rfl (by omega) (by omega) rfl (by rw [hs15]; rfl) (by decide) ?_
        refine pw_ld E (pc' := 91) (st' := [pw_i 4]) rfl (fun _ => rfl) ?_
        refine pw_iret E rfl ?_
        exact ⟨rfl, ⟨_, rfl, by omega, by omega, by omega⟩⟩
      · refine pw_lsw (o := 64) E (pc' := 100) rfl (by omega) (by omega) rfl (by simp only [Op.lookupswitch.offset]; repeat rw [if_neg (by omega)]) (by decide) ?_
        refine pw_ld E (pc' := 101) (st' := [pw_i ((-1))]) rfl (fun _ => rfl) ?_
        refine pw_iret E rfl ?_
        exact ⟨rfl, ⟨_, rfl, by omega, by omega, by omega⟩⟩
    · intro hc16
      have hc16 : ¬ (x9 = (3 : Int)) := hc16
      refine pw_ld E (pc' := 31) (st' := [pw_i ((-1))]) rfl (fun _ => rfl) ?_
      refine pw_iret E rfl ?_
      exact ⟨rfl, ⟨_, rfl, by omega, by omega, by omega⟩⟩
  · intro hc17
    have hc17 : ¬ (x4 = ((-1) : Int)) := hc17
    refine pw_ld E (pc' := 13) (st' := [pw_i x4]) rfl (fun _ => rfl) ?_
    refine pw_if E (pc' := 20) rfl (by decide) (by omega) (by omega) ?_ ?_
    · intro hc18
      have hc18 : x4 ≠ (0 : Int) := hc18
      refine pw_ld E (pc' := 21) (st' := [pw_i 2]) rfl (fun _ => rfl) ?_
      refine pw_iret E rfl ?_
      exact ⟨rfl, ⟨_, rfl, by omega, by omega, by omega⟩⟩
    · intro hc19
      have hc19 : ¬ (x4 ≠ (0 : Int)) := hc19
      refine pw_ld E (pc' := 17) (st' := [pw_i 1]) rfl (fun _ => rfl) ?_
      refine pw_goto E (pc' := 21) rfl (by decide) ?_
      refine pw_iret E rfl ?_
      exact ⟨rfl, ⟨_, rfl, by omega, by omega, by omega⟩⟩
