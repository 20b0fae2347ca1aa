section
/-! the tokens, exactly -/
set_option maxHeartbeats 4000000 in
theorem cm_239_t {X : List (Nat × List Value)} {d : Nat} {h : pm_H} (hd : 1 ≤ d) (I : pw_I h) (ch : Int) (hch1 : (-2147483648) ≤ ch) (hch2 : ch ≤ 2147483647) : pw X d h 239 0 [some (pw_i ch)] [] (fun h' v => h = h' ∧ ∃ a : Int, v = .inl (some (pw_i a)) ∧ 0 ≤ a ∧ a ≤ 1 ∧ ((a = 1 ∧ 97 ≤ ch ∧ ch ≤ 122) ∨ (a = 0 ∧ ¬ (97 ≤ ch ∧ ch ≤ 122)))) := by
  have E : pm_ent 239 = some (1, 1, 12, 1, pmc_239) := rfl
  refine pw_ld E (pc' := 1) (st' := [pw_i ch]) rfl (fun _ => rfl) ?_
  refine pw_bip E (pc' := 3) rfl rfl (by decide) ?_
  refine pw_if2 E (pc' := 16) rfl (by decide) (by omega) (by omega) (by decide) (by decide) ?_ ?_
  · intro hc1
    change ch < (97 : Int) at hc1
    refine pw_ld E (pc' := 17) (st' := [pw_i 0]) rfl (fun _ => rfl) ?_
    refine pw_zret E rfl (by omega) ?_
    exact ⟨rfl, ⟨_, rfl, by omega, by omega, by omega⟩⟩
  · intro hc2
    change ¬ (ch < (97 : Int)) at hc2
    refine pw_ld E (pc' := 7) (st' := [pw_i ch]) rfl (fun _ => rfl) ?_
    refine pw_bip E (pc' := 9) rfl rfl (by decide) ?_
    refine pw_if2 E (pc' := 16) rfl (by decide) (by omega) (by omega) (by decide) (by decide) ?_ ?_
    · intro hc3
      change (122 : Int) < ch at hc3
      refine pw_ld E (pc' := 17) (st' := [pw_i 0]) rfl (fun _ => rfl) ?_
      refine pw_zret E rfl (by omega) ?_
      exact ⟨rfl, ⟨_, rfl, by omega, by omega, by omega⟩⟩
    · intro hc4
      change ¬ ((122 : Int) < ch) at hc4
      refine pw_ld E (pc' := 13) (st' := [pw_i 1]) rfl (fun _ => rfl) ?_
      refine pw_goto E (pc' := 17) rfl (by decide) ?_
      refine pw_zret E rfl (by omega) ?_
      exact ⟨rfl, ⟨_, rfl, by omega, by omega, by omega⟩⟩
set_option maxHeartbeats 4000000 in
theorem cm_241_t {X : List (Nat × List Value)} {d : Nat} {h : pm_H} (hd : 1 ≤ d) (I : pw_I h) (ch : Int) (hch1 : (-2147483648) ≤ ch) (hch2 : ch ≤ 2147483647) : pw X d h 241 0 [some (pw_i ch)] [] (fun h' v => h = h' ∧ ∃ a : Int, v = .inl (some (pw_i a)) ∧ 0 ≤ a ∧ a ≤ 1 ∧ ((a = 1 ∧ 48 ≤ ch ∧ ch ≤ 57) ∨ (a = 0 ∧ ¬ (48 ≤ ch ∧ ch ≤ 57)))) := by
  have E : pm_ent 241 = some (1, 1, 12, 1, pmc_241) := rfl
  refine pw_ld E (pc' := 1) (st' := [pw_i ch]) rfl (fun _ => rfl) ?_
  refine pw_bip E (pc' := 3) rfl rfl (by decide) ?_
  refine pw_if2 E (pc' := 16) rfl (by decide) (by omega) (by omega) (by decide) (by decide) ?_ ?_
  · intro hc1
    change ch < (48 : Int) at hc1
    refine pw_ld E (pc' := 17) (st' := [pw_i 0]) rfl (fun _ => rfl) ?_
    refine pw_zret E rfl (by omega) ?_
    exact ⟨rfl, ⟨_, rfl, by omega, by omega, by omega⟩⟩
  · intro hc2
    change ¬ (ch < (48 : Int)) at hc2
    refine pw_ld E (pc' := 7) (st' := [pw_i ch]) rfl (fun _ => rfl) ?_
    refine pw_bip E (pc' := 9) rfl rfl (by decide) ?_
    refine pw_if2 E (pc' := 16) rfl (by decide) (by omega) (by omega) (by decide) (by decide) ?_ ?_
    · intro hc3
      change (57 : Int) < ch at hc3
      refine pw_ld E (pc' := 17) (st' := [pw_i 0]) rfl (fun _ => rfl) ?_
      refine pw_zret E rfl (by omega) ?_
      exact ⟨rfl, ⟨_, rfl, by omega, by omega, by omega⟩⟩
    · intro hc4
      change ¬ ((57 : Int) < ch) at hc4
      refine pw_ld E (pc' := 13) (st' := [pw_i 1]) rfl (fun _ => rfl) ?_
      refine pw_goto E (pc' := 17) rfl (by decide) ?_
      refine pw_zret E rfl (by omega) ?_
      exact ⟨rfl, ⟨_, rfl, by omega, by omega, by omega⟩⟩
set_option maxHeartbeats 4000000 in
theorem cm_242_t {X : List (Nat × List Value)} {d : Nat} {h : pm_H} (hd : 1 ≤ d) (I : pw_I h) (ch : Int) (hch1 : (-2147483648) ≤ ch) (hch2 : ch ≤ 2147483647) : pw X d h 242 0 [some (pw_i ch)] [] (fun h' v => h = h' ∧ ∃ a : Int, v = .inl (some (pw_i a)) ∧ 0 ≤ a ∧ a ≤ 1 ∧ ((a = 1 ∧ pt_si ch) ∨ (a = 0 ∧ ¬ pt_si ch))) := by
  have E : pm_ent 242 = some (1, 1, 12, 1, pmc_242) := rfl
  refine pw_ld E (pc' := 1) (st' := [pw_i ch]) rfl (fun _ => rfl) ?_
  refine pw_bip E (pc' := 3) rfl rfl (by decide) ?_
  refine pw_if2 E (pc' := 48) rfl (by decide) (by omega) (by omega) (by decide) (by decide) ?_ ?_
  · intro hc1
    change ch = (40 : Int) at hc1
    refine pw_ld E (pc' := 49) (st' := [pw_i 1]) rfl (fun _ => rfl) ?_
    refine pw_goto E (pc' := 53) rfl (by decide) ?_
    refine pw_zret E rfl (by omega) ?_
    exact ⟨rfl, ⟨_, rfl, by omega, by omega, (by unfold pt_si; omega)⟩⟩
  · intro hc2
    change ¬ (ch = (40 : Int)) at hc2
    refine pw_ld E (pc' := 7) (st' := [pw_i ch]) rfl (fun _ => rfl) ?_
    refine pw_bip E (pc' := 9) rfl rfl (by decide) ?_
    refine pw_if2 E (pc' := 48) rfl (by decide) (by omega) (by omega) (by decide) (by decide) ?_ ?_
    · intro hc3
      change ch = (41 : Int) at hc3
      refine pw_ld E (pc' := 49) (st' := [pw_i 1]) rfl (fun _ => rfl) ?_
      refine pw_goto E (pc' := 53) rfl (by decide) ?_
      refine pw_zret E rfl (by omega) ?_
      exact ⟨rfl, ⟨_, rfl, by omega, by omega, (by unfold pt_si; omega)⟩⟩
    · intro hc4
      change ¬ (ch = (41 : Int)) at hc4
      refine pw_ld E (pc' := 13) (st' := [pw_i ch]) rfl (fun _ => rfl) ?_
      refine pw_bip E (pc' := 15) rfl rfl (by decide) ?_
      refine pw_if2 E (pc' := 48) rfl (by decide) (by omega) (by omega) (by decide) (by decide) ?_ ?_
      · intro hc5
        change ch = (59 : Int) at hc5
        refine pw_ld E (pc' := 49) (st' := [pw_i 1]) rfl (fun _ => rfl) ?_
        refine pw_goto E (pc' := 53) rfl (by decide) ?_
        refine pw_zret E rfl (by omega) ?_
        exact ⟨rfl, ⟨_, rfl, by omega, by omega, (by unfold pt_si; omega)⟩⟩
      · intro hc6
        change ¬ (ch = (59 : Int)) at hc6
        refine pw_ld E (pc' := 19) (st' := [pw_i ch]) rfl (fun _ => rfl) ?_
        refine pw_bip E (pc' := 21) rfl rfl (by decide) ?_
        refine pw_if2 E (pc' := 48) rfl (by decide) (by omega) (by omega) (by decide) (by decide) ?_ ?_
        · intro hc7
          change ch = (61 : Int) at hc7
          refine pw_ld E (pc' := 49) (st' := [pw_i 1]) rfl (fun _ => rfl) ?_
          refine pw_goto E (pc' := 53) rfl (by decide) ?_
          refine pw_zret E rfl (by omega) ?_
          exact ⟨rfl, ⟨_, rfl, by omega, by omega, (by unfold pt_si; omega)⟩⟩
        · intro hc8
          change ¬ (ch = (61 : Int)) at hc8
          refine pw_ld E (pc' := 25) (st' := [pw_i ch]) rfl (fun _ => rfl) ?_
          refine pw_bip E (pc' := 27) rfl rfl (by decide) ?_
          refine pw_if2 E (pc' := 48) rfl (by decide) (by omega) (by omega) (by decide) (by decide) ?_ ?_
          · intro hc9
            change ch = (60 : Int) at hc9
            refine pw_ld E (pc' := 49) (st' := [pw_i 1]) rfl (fun _ => rfl) ?_
            refine pw_goto E (pc' := 53) rfl (by decide) ?_
            refine pw_zret E rfl (by omega) ?_
            exact ⟨rfl, ⟨_, rfl, by omega, by omega, (by unfold pt_si; omega)⟩⟩
          · intro hc10
            change ¬ (ch = (60 : Int)) at hc10
            refine pw_ld E (pc' := 31) (st' := [pw_i ch]) rfl (fun _ => rfl) ?_
            refine pw_bip E (pc' := 33) rfl rfl (by decide) ?_
            refine pw_if2 E (pc' := 48) rfl (by decide) (by omega) (by omega) (by decide) (by decide) ?_ ?_
            · intro hc11
              change ch = (43 : Int) at hc11
              refine pw_ld E (pc' := 49) (st' := [pw_i 1]) rfl (fun _ => rfl) ?_
              refine pw_goto E (pc' := 53) rfl (by decide) ?_
              refine pw_zret E rfl (by omega) ?_
              exact ⟨rfl, ⟨_, rfl, by omega, by omega, (by unfold pt_si; omega)⟩⟩
            · intro hc12
              change ¬ (ch = (43 : Int)) at hc12
              refine pw_ld E (pc' := 37) (st' := [pw_i ch]) rfl (fun _ => rfl) ?_
              refine pw_bip E (pc' := 39) rfl rfl (by decide) ?_
              refine pw_if2 E (pc' := 48) rfl (by decide) (by omega) (by omega) (by decide) (by decide) ?_ ?_
              · intro hc13
                change ch = (45 : Int) at hc13
                refine pw_ld E (pc' := 49) (st' := [pw_i 1]) rfl (fun _ => rfl) ?_
                refine pw_goto E (pc' := 53) rfl (by decide) ?_
                refine pw_zret E rfl (by omega) ?_
                exact ⟨rfl, ⟨_, rfl, by omega, by omega, (by unfold pt_si; omega)⟩⟩
              · intro hc14
                change ¬ (ch = (45 : Int)) at hc14
                refine pw_ld E (pc' := 43) (st' := [pw_i ch]) rfl (fun _ => rfl) ?_
                refine pw_bip E (pc' := 45) rfl rfl (by decide) ?_
                refine pw_if2 E (pc' := 52) rfl (by decide) (by omega) (by omega) (by decide) (by decide) ?_ ?_
                · intro hc15
                  change ch ≠ (42 : Int) at hc15
                  refine pw_ld E (pc' := 53) (st' := [pw_i 0]) rfl (fun _ => rfl) ?_
                  refine pw_zret E rfl (by omega) ?_
                  exact ⟨rfl, ⟨_, rfl, by omega, by omega, (by unfold pt_si; omega)⟩⟩
                · intro hc16
                  change ¬ (ch ≠ (42 : Int)) at hc16
                  refine pw_ld E (pc' := 49) (st' := [pw_i 1]) rfl (fun _ => rfl) ?_
                  refine pw_goto E (pc' := 53) rfl (by decide) ?_
                  refine pw_zret E rfl (by omega) ?_
                  exact ⟨rfl, ⟨_, rfl, by omega, by omega, (by unfold pt_si; omega)⟩⟩
set_option maxHeartbeats 4000000 in
theorem cm_240_t {X : List (Nat × List Value)} {d : Nat} {h : pm_H} (hd : 2 ≤ d) (I : pw_I h) (ch : Int) (hch1 : (-1000) ≤ ch) (hch2 : ch ≤ 1000) : pw X d h 240 0 [some (pw_i ch)] [] (fun h' v => h = h' ∧ ∃ a : Int, v = .inl (some (pw_i a)) ∧ (-1021) ≤ a ∧ a ≤ 979 ∧ (97 ≤ ch ∧ ch ≤ 122 → a = ch - 96)) := by
  have E : pm_ent 240 = some (1, 1, 12, 0, pmc_240) := rfl
  refine pw_ld E (pc' := 1) (st' := [pw_i ch]) rfl (fun _ => rfl) ?_
  refine pw_call (m' := 239) (As := [pw_i ch]) (rest := []) (ls'' := [some (pw_i ch)]) (Nat.le_trans (by decide) hd) E rfl (fun _ => pw_iS rfl rfl rfl) (rfl : pm_ent 239 = some (1, 1, 12, 1, pmc_239)) rfl rfl (cm_239_t (pw_dp hd (by decide)) I (ch) (by omega) (by omega)) ?_
  rintro u2 v1 ⟨rfl, x3, rfl, hx3a, hx3b, hx3r⟩
  refine ⟨_, rfl, ?_⟩
  show pw X d h 240 4 [some (pw_i ch)] [pw_i x3] _
  change (x3 = 1 ∧ 97 ≤ ch ∧ ch ≤ 122) ∨ (x3 = 0 ∧ ¬ (97 ≤ ch ∧ ch ≤ 122)) at hx3r
  rcases (by omega : x3 = 1 ∨ x3 = 0) with hb4 | hb4
  · skip
    refine pw_if E (pc' := 14) rfl (by decide) (by omega) (by omega) ?_ ?_
    · intro hc5
      change x3 = (0 : Int) at hc5
      exfalso; omega
    · intro hc6
      change ¬ (x3 = (0 : Int)) at hc6
      refine pw_ld E (pc' := 8) (st' := [pw_i ch]) rfl (fun _ => rfl) ?_
      refine pw_bip E (pc' := 10) rfl rfl (by decide) ?_
      refine pw_sub E (pc' := 11) rfl rfl ?_
      refine pw_goto E (pc' := 18) rfl (by decide) ?_
      refine pw_iret E rfl ?_
      exact ⟨rfl, ⟨_, rfl, by omega, by omega, (fun q => by omega)⟩⟩
  · skip
    refine pw_if E (pc' := 14) rfl (by decide) (by omega) (by omega) ?_ ?_
    · intro hc8
      change x3 = (0 : Int) at hc8
      refine pw_ld E (pc' := 15) (st' := [pw_i ch]) rfl (fun _ => rfl) ?_
      refine pw_bip E (pc' := 17) rfl rfl (by decide) ?_
      refine pw_sub E (pc' := 18) rfl rfl ?_
      refine pw_iret E rfl ?_
      exact ⟨rfl, ⟨_, rfl, by omega, by omega, (fun q => by omega)⟩⟩
    · intro hc9
      change ¬ (x3 = (0 : Int)) at hc9
      exfalso; omega
set_option maxHeartbeats 4000000 in
theorem cm_238_t {X : List (Nat × List Value)} {d : Nat} {h : pm_H} (hd : 3 ≤ d) (I : pw_I h)  : pw X d h 238 0 [some (.ref 141), none, none, none, none, none, none] [] (fun h' v => pw_I h' ∧ pw_E [125, 127, 128, 129, 1002] h h' ∧ (∃ L : List pt_tok, pw_A L.length h' ∧ pw_g h' 125 7 = 0 ∧ pw_g h' 125 8 = 0 ∧ pt_sg (pw_g h 126) (pw_g h 125 2).toNat 0 L (pw_g h 125 2).toNat ∧ pt_LI L h' ∧ pw_g h' 127 L.length = 0 ∧ pw_g h' 128 L.length = pw_g h 125 2 ∧ pw_g h' 125 2 = 0) ∧ (v = .inl none)) := by
  have E : pm_ent 238 = some (1, 7, 12, 4, pmc_238) := rfl
  have E0 : pw_E [125, 127, 128, 129, 1002] h h := pw_E.rf _ _
  refine pw_ld E (pc' := 1) (st' := [.ref 141]) rfl (fun _ => rfl) ?_
  refine pw_ld E (pc' := 2) (st' := [.ref 141, .ref 141]) rfl (fun _ => rfl) ?_
  refine pw_getI2 I E (c := 125) (k := 2) (pc' := 5) rfl rfl rfl rfl rfl rfl (fun hf1a hf1b => ?_)
  refine pw_putI I E (c := 125) (k := 3) (pc' := 8) rfl rfl rfl rfl (by omega) (by omega) (by omega) (by omega) rfl rfl ?_
  intro h2I h2E
  generalize h2w : pw_w h 125 3 (pw_i (pw_g h 125 2)) = h2 at h2I h2E ⊢
  have h2F := E0.tr (h2E.wk (W' := [125, 127, 128, 129, 1002]) (by first | rfl | simp))
  refine pw_ld E (pc' := 9) (st' := [.ref 141]) rfl (fun _ => rfl) ?_
  refine pw_ld E (pc' := 10) (st' := [pw_i 0, .ref 141]) rfl (fun _ => rfl) ?_
  refine pw_putP h2I E (k := 2) (pc' := 13) rfl rfl rfl rfl (by omega) (by omega) (by omega) (by omega) rfl rfl ?_
  intro h3I h3E
  generalize h3w : pw_w h2 125 2 (pw_i 0) = h3 at h3I h3E ⊢
  have h3F := h2F.tr (h3E.wk (W' := [125, 127, 128, 129, 1002]) (by first | rfl | simp))
  refine pw_ld E (pc' := 14) (st' := [pw_i 0]) rfl (fun _ => rfl) ?_
  refine pw_istn E (pc' := 15) (ls' := [some (.ref 141), some (pw_i 0), none, none, none, none, none]) rfl rfl rfl rfl ?_
  refine pw_ld E (pc' := 16) (st' := [pw_i 0]) rfl (fun _ => rfl) ?_
  refine pw_istn E (pc' := 17) (ls' := [some (.ref 141), some (pw_i 0), some (pw_i 0), none, none, none, none]) rfl rfl rfl rfl ?_
  have L17 : ∀ (n17 : Nat) (k17_1 : Int) (k17_2 : Int) (k17_3 : Option Value) (k17_4 : Option Value) (k17_5 : Option Value) (gh17 : pm_H), pw_I gh17 → pw_E [125, 127, 128, 129, 1002] h gh17 → 0 ≤ k17_1 → k17_1 ≤ 1000 → 0 ≤ k17_2 → k17_2 ≤ 1000 → k17_1 ≤ k17_2 → k17_2 ≤ pw_g gh17 125 3 → pw_g gh17 125 3 = pw_g h 125 2 → pt_LJ (pw_g h 126) (pw_g h 125 2).toNat (k17_1) (k17_2) gh17 → pw_g gh17 125 2 = 0 → (1000 - k17_2).toNat = n17 → pw X d gh17 238 17 [some (.ref 141), some (pw_i k17_1), some (pw_i k17_2), k17_3, k17_4, k17_5, none] [] (fun h' v => pw_I h' ∧ pw_E [125, 127, 128, 129, 1002] h h' ∧ (∃ L : List pt_tok, pw_A L.length h' ∧ pw_g h' 125 7 = 0 ∧ pw_g h' 125 8 = 0 ∧ pt_sg (pw_g h 126) (pw_g h 125 2).toNat 0 L (pw_g h 125 2).toNat ∧ pt_LI L h' ∧ pw_g h' 127 L.length = 0 ∧ pw_g h' 128 L.length = pw_g h 125 2 ∧ pw_g h' 125 2 = 0) ∧ (v = .inl none)) := by
    intro n17
    induction n17 using Nat.strongRecOn with
    | ind n17 ih17 =>
      intro k17_1 k17_2 k17_3 k17_4 k17_5 gh17 I17 E17 k17_1a k17_1b k17_2a k17_2b hx17_0 hx17_1 hx17_2 hx17_3 hx17_4 hm17
      refine pw_ld E (pc' := 18) (st' := [pw_i k17_2]) rfl (fun _ => rfl) ?_
      refine pw_ld E (pc' := 19) (st' := [.ref 141, pw_i k17_2]) rfl (fun _ => rfl) ?_
      refine pw_getI2 I17 E (c := 125) (k := 3) (pc' := 22) rfl rfl rfl rfl rfl rfl (fun hf4a hf4b => ?_)
      refine pw_if2 E (pc' := 279) rfl (by decide) (by omega) (by omega) (by omega) (by omega) ?_ ?_
      · intro hc5
        change pw_g gh17 125 3 ≤ k17_2 at hc5
        refine pw_ld E (pc' := 280) (st' := [.ref 141]) rfl (fun _ => rfl) ?_
        refine pw_getR (b := 143) I17 E (c := 125) (k := 4) (pc' := 283) rfl rfl rfl rfl rfl rfl rfl ?_
        refine pw_ld E (pc' := 284) (st' := [pw_i k17_1, .ref 143]) rfl (fun _ => rfl) ?_
        refine pw_ld E (pc' := 285) (st' := [pw_i 0, pw_i k17_1, .ref 143]) rfl (fun _ => rfl) ?_
        refine pw_ast0 I17 E (c := 127) (pc' := 286) rfl rfl rfl (by decide) rfl (by decide) (by omega) (by omega) rfl (by omega) (by omega) (by omega) (by omega) rfl ?_
        intro h6I h6E
        generalize h6w : pw_w gh17 127 (k17_1.toNat) (pw_i 0) = h6 at h6I h6E ⊢
        have h6F := E17.tr (h6E.wk (W' := [125, 127, 128, 129, 1002]) (by first | rfl | simp))
        refine pw_ld E (pc' := 287) (st' := [.ref 141]) rfl (fun _ => rfl) ?_
        refine pw_getR (b := 144) h6I E (c := 125) (k := 5) (pc' := 290) rfl rfl rfl rfl rfl rfl rfl ?_
        refine pw_ld E (pc' := 291) (st' := [pw_i k17_1, .ref 144]) rfl (fun _ => rfl) ?_
        refine pw_ld E (pc' := 292) (st' := [.ref 141, pw_i k17_1, .ref 144]) rfl (fun _ => rfl) ?_
        have he8 : pw_g h6 125 3 = pw_g gh17 125 3 := by rw [← h6w]; exact pw_g_ne (by omega)
        refine pw_getI2 h6I E (c := 125) (k := 3) (pc' := 295) rfl rfl rfl rfl rfl rfl (fun hf7a hf7b => ?_)
        refine pw_ast0 h6I E (c := 128) (pc' := 296) rfl rfl rfl (by decide) rfl (by decide) (by omega) (by omega) rfl (by omega) (by omega) (by omega) (by omega) rfl ?_
        intro h9I h9E
        generalize h9w : pw_w h6 128 (k17_1.toNat) (pw_i (pw_g h6 125 3)) = h9 at h9I h9E ⊢
        have h9F := h6F.tr (h9E.wk (W' := [125, 127, 128, 129, 1002]) (by first | rfl | simp))
        refine pw_ld E (pc' := 297) (st' := [.ref 141]) rfl (fun _ => rfl) ?_
        refine pw_ld E (pc' := 298) (st' := [pw_i 0, .ref 141]) rfl (fun _ => rfl) ?_
        refine pw_putI h9I E (c := 125) (k := 7) (pc' := 301) rfl rfl rfl rfl (by omega) (by omega) (by omega) (by omega) rfl rfl ?_
        intro h10I h10E
        generalize h10w : pw_w h9 125 7 (pw_i 0) = h10 at h10I h10E ⊢
        have h10F := h9F.tr (h10E.wk (W' := [125, 127, 128, 129, 1002]) (by first | rfl | simp))
        refine pw_ld E (pc' := 302) (st' := [.ref 141]) rfl (fun _ => rfl) ?_
        refine pw_ld E (pc' := 303) (st' := [pw_i 0, .ref 141]) rfl (fun _ => rfl) ?_
        refine pw_putI h10I E (c := 125) (k := 8) (pc' := 306) rfl rfl rfl rfl (by omega) (by omega) (by omega) (by omega) rfl rfl ?_
        intro h11I h11E
        generalize h11w : pw_w h10 125 8 (pw_i 0) = h11 at h11I h11E ⊢
        have h11F := h10F.tr (h11E.wk (W' := [125, 127, 128, 129, 1002]) (by first | rfl | simp))
        refine pw_vret E rfl ?_
        obtain ⟨L, e1, e2, e3⟩ := hx17_3
        rw [show (k17_2).toNat = (pw_g h 125 2).toNat by omega] at e2
        have e7 : pw_g h11 125 7 = 0 := by rw [← h11w, pw_g_ne (by omega), ← h10w]; exact pw_g_eq (c := 125) (k := 7) h9I rfl rfl (by omega) (by omega)
        have e8 : pw_g h11 125 8 = 0 := by rw [← h11w]; exact pw_g_eq (c := 125) (k := 8) h10I rfl rfl (by omega) (by omega)
        have es : pw_g h11 127 (k17_1.toNat) = 0 := by rw [← h11w, pw_g_ne (by omega), ← h10w, pw_g_ne (by omega), ← h9w, pw_g_ne (by omega), ← h6w]; exact pw_g_eqA I17 rfl (by omega) (by omega) (by omega)
        have ep : pw_g h11 128 (k17_1.toNat) = pw_g h 125 2 := by rw [← h11w, pw_g_ne (by omega), ← h10w, pw_g_ne (by omega), ← h9w]; rw [show pw_g h 125 2 = pw_g h6 125 3 by rw [← h6w, pw_g_ne (by omega)]; omega]; exact pw_g_eqA h6I rfl (by omega) (by omega) (by omega)
        have en : pt_LI L h11 := fun j hj => by rw [← h11w, pw_g_ne (by omega), pw_gm_ne (by omega), pw_g_ne (by omega), ← h10w, pw_g_ne (by omega), pw_gm_ne (by omega), pw_g_ne (by omega), ← h9w, pw_g_ne (by omega), pw_gm_ne (by omega), pw_g_ne (by omega), ← h6w, pw_g_ne (by omega), pw_gm_ne (by omega), pw_g_ne (by omega)]; exact e3 j hj
        have et : pw_g h11 125 2 = 0 := by rw [← h11w, pw_g_ne (by omega), ← h10w, pw_g_ne (by omega), ← h9w, pw_g_ne (by omega), ← h6w, pw_g_ne (by omega)]; exact hx17_4
        exact ⟨h11I, h11F, ⟨L, ⟨by omega, by rw [e1]; exact es, by omega, by omega, by omega, (pw_gI (c := 125) (k := 32) h11I rfl rfl).1⟩, e7, e8, e2, en, by rw [e1]; exact es, by rw [e1]; exact ep, et⟩, rfl⟩
      · intro hc12
        change ¬ (pw_g gh17 125 3 ≤ k17_2) at hc12
        refine pw_ld E (pc' := 26) (st' := [.ref 141]) rfl (fun _ => rfl) ?_
        refine pw_getR (b := 142) I17 E (c := 125) (k := 1) (pc' := 29) rfl rfl rfl rfl rfl rfl rfl ?_
        refine pw_ld E (pc' := 30) (st' := [pw_i k17_2, .ref 142]) rfl (fun _ => rfl) ?_
        refine pw_ald2 I17 E (c := 126) (pc' := 31) rfl rfl rfl (by decide) rfl (by decide) (by omega) (by omega) rfl (fun hf13a hf13b => ?_)
        have hT0 : ∀ j : Nat, pw_g gh17 126 j = pw_g h 126 j := fun j => pw_Eg (c := 126) I E17 rfl rfl j
        have hc126 := hT0 (k17_2).toNat
        refine pw_istn E (pc' := 32) (ls' := [some (.ref 141), some (pw_i k17_1), some (pw_i k17_2), some (pw_i (pw_g gh17 126 (k17_2.toNat))), k17_4, k17_5, none]) rfl rfl rfl rfl ?_
        refine pw_ld E (pc' := 33) (st' := [pw_i (pw_g gh17 126 (k17_2.toNat))]) rfl (fun _ => rfl) ?_
        refine pw_bip E (pc' := 35) rfl rfl (by decide) ?_
        refine pw_if2 E (pc' := 44) rfl (by decide) (by omega) (by omega) (by decide) (by decide) ?_ ?_
        · intro hc14
          change pw_g gh17 126 (k17_2.toNat) = (10 : Int) at hc14
          refine pw_inc E (pc' := 47) (ls' := [some (.ref 141), some (pw_i k17_1), some (pw_i (k17_2 + 1)), some (pw_i (pw_g gh17 126 (k17_2.toNat))), k17_4, k17_5, none]) rfl rfl rfl rfl ?_
          have o3 := hx17_3.bl (by omega) (by rw [← hT0]; unfold pt_bl; omega)
          refine pw_goto E (pc' := 17) rfl (by decide) ?_
          exact ih17 _ (by omega) (k17_1) (k17_2 + 1) (some (pw_i (pw_g gh17 126 (k17_2.toNat)))) k17_4 k17_5 gh17 I17 E17 (by omega) (by omega) (by omega) (by omega) (by omega) (by omega) (by omega) o3 (by omega) rfl
        · intro hc15
          change ¬ (pw_g gh17 126 (k17_2.toNat) = (10 : Int)) at hc15
          refine pw_ld E (pc' := 39) (st' := [pw_i (pw_g gh17 126 (k17_2.toNat))]) rfl (fun _ => rfl) ?_
          refine pw_bip E (pc' := 41) rfl rfl (by decide) ?_
          refine pw_if2 E (pc' := 50) rfl (by decide) (by omega) (by omega) (by decide) (by decide) ?_ ?_
          · intro hc16
            change pw_g gh17 126 (k17_2.toNat) ≠ (32 : Int) at hc16
            refine pw_ld E (pc' := 51) (st' := [pw_i k17_2]) rfl (fun _ => rfl) ?_
            refine pw_ist E (pc' := 53) (ls' := [some (.ref 141), some (pw_i k17_1), some (pw_i k17_2), some (pw_i (pw_g gh17 126 (k17_2.toNat))), some (pw_i k17_2), k17_5, none]) rfl rfl rfl rfl ?_
            refine pw_ld E (pc' := 54) (st' := [.long (Int64.ofInt 0)]) rfl (fun _ => rfl) ?_
            refine pw_lst E (pc' := 56) (ls' := [some (.ref 141), some (pw_i k17_1), some (pw_i k17_2), some (pw_i (pw_g gh17 126 (k17_2.toNat))), some (pw_i k17_2), some (.long (Int64.ofInt 0)), none]) rfl rfl rfl rfl ?_
            refine pw_ld E (pc' := 57) (st' := [.ref 141]) rfl (fun _ => rfl) ?_
            refine pw_getR (b := 144) I17 E (c := 125) (k := 5) (pc' := 60) rfl rfl rfl rfl rfl rfl rfl ?_
            refine pw_ld E (pc' := 61) (st' := [pw_i k17_1, .ref 144]) rfl (fun _ => rfl) ?_
            refine pw_ld E (pc' := 62) (st' := [pw_i k17_2, pw_i k17_1, .ref 144]) rfl (fun _ => rfl) ?_
            refine pw_ast0 I17 E (c := 128) (pc' := 63) rfl rfl rfl (by decide) rfl (by decide) (by omega) (by omega) rfl (by omega) (by omega) (by omega) (by omega) rfl ?_
            intro h17I h17E
            generalize h17w : pw_w gh17 128 (k17_1.toNat) (pw_i k17_2) = h17 at h17I h17E ⊢
            have h17F := E17.tr (h17E.wk (W' := [125, 127, 128, 129, 1002]) (by first | rfl | simp))
            have hT1 : ∀ j : Nat, pw_g h17 126 j = pw_g h 126 j := fun j => pw_Eg (c := 126) I h17F rfl rfl j
            have hc0 : pw_g h17 126 (k17_2).toNat = pw_g gh17 126 (k17_2).toNat := by rw [← h17w]; exact pw_g_ne (by omega)
            have hz1 : pw_g h17 125 3 = pw_g gh17 125 3 := by rw [← h17w]; exact pw_g_ne (by omega)
            have hnb : ¬ pt_bl (pw_g h 126 (k17_2).toNat) := by rw [← hT0]; unfold pt_bl; omega
            refine pw_ld E (pc' := 64) (st' := [pw_i (pw_g gh17 126 (k17_2.toNat))]) rfl (fun _ => rfl) ?_
            refine pw_call (m' := 239) (As := [pw_i (pw_g gh17 126 (k17_2.toNat))]) (rest := []) (ls'' := [some (pw_i (pw_g gh17 126 (k17_2.toNat)))]) (Nat.le_trans (by decide) hd) E rfl (fun _ => pw_iS rfl rfl rfl) (rfl : pm_ent 239 = some (1, 1, 12, 1, pmc_239)) rfl rfl (cm_239_t (pw_dp hd (by decide)) h17I (pw_g gh17 126 (k17_2.toNat)) (by omega) (by omega)) ?_
            rintro u19 v18 ⟨rfl, x20, rfl, hx20a, hx20b, hx20r⟩
            refine ⟨_, rfl, ?_⟩
            show pw X d h17 238 67 [some (.ref 141), some (pw_i k17_1), some (pw_i k17_2), some (pw_i (pw_g gh17 126 (k17_2.toNat))), some (pw_i k17_2), some (.long (Int64.ofInt 0)), none] [pw_i x20] _
            change (x20 = 1 ∧ 97 ≤ (pw_g gh17 126 (k17_2.toNat)) ∧ (pw_g gh17 126 (k17_2.toNat)) ≤ 122) ∨ (x20 = 0 ∧ ¬ (97 ≤ (pw_g gh17 126 (k17_2.toNat)) ∧ (pw_g gh17 126 (k17_2.toNat)) ≤ 122)) at hx20r
            rcases (by omega : x20 = 1 ∨ x20 = 0) with hb21 | hb21
            · skip
              refine pw_if E (pc' := 152) rfl (by decide) (by omega) (by omega) ?_ ?_
              · intro hc22
                change x20 = (0 : Int) at hc22
                exfalso; omega
              · intro hc23
                change ¬ (x20 = (0 : Int)) at hc23
                have L70 : ∀ (n70 : Nat) (k70_2 : Int) (k70_5 : Int), 0 ≤ k70_2 → k70_2 ≤ 1000 → 0 ≤ k70_5 → k70_5 ≤ 3512479453921 → k17_2 < k70_2 ∨ (k70_2 = k17_2 ∧ 97 ≤ pw_g h17 126 (k70_2).toNat ∧ pw_g h17 126 (k70_2).toNat ≤ 122) → k17_2 < pw_g h17 125 3 → k70_2 ≤ pw_g h17 125 3 → k17_2 ≤ k70_2 → pt_WL (pw_g h 126) (k17_2) (k70_2) (k70_5) → (1000 - k70_2).toNat = n70 → pw X d h17 238 70 [some (.ref 141), some (pw_i k17_1), some (pw_i k70_2), some (pw_i (pw_g gh17 126 (k17_2.toNat))), some (pw_i k17_2), some (.long (Int64.ofInt k70_5)), none] [] (fun h' v => pw_I h' ∧ pw_E [125, 127, 128, 129, 1002] h h' ∧ (∃ L : List pt_tok, pw_A L.length h' ∧ pw_g h' 125 7 = 0 ∧ pw_g h' 125 8 = 0 ∧ pt_sg (pw_g h 126) (pw_g h 125 2).toNat 0 L (pw_g h 125 2).toNat ∧ pt_LI L h' ∧ pw_g h' 127 L.length = 0 ∧ pw_g h' 128 L.length = pw_g h 125 2 ∧ pw_g h' 125 2 = 0) ∧ (v = .inl none)) := by
                  intro n70
                  induction n70 using Nat.strongRecOn with
                  | ind n70 ih70 =>
                    intro k70_2 k70_5 k70_2a k70_2b k70_5a k70_5b hx70_0 hx70_1 hx70_2 hx70_3 hx70_4 hm70
                    refine pw_ld E (pc' := 71) (st' := [pw_i k70_2]) rfl (fun _ => rfl) ?_
                    refine pw_ld E (pc' := 72) (st' := [.ref 141, pw_i k70_2]) rfl (fun _ => rfl) ?_
                    refine pw_getI2 h17I E (c := 125) (k := 3) (pc' := 75) rfl rfl rfl rfl rfl rfl (fun hf24a hf24b => ?_)
                    refine pw_if2 E (pc' := 129) rfl (by decide) (by omega) (by omega) (by omega) (by omega) ?_ ?_
                    · intro hc25
                      change pw_g h17 125 3 ≤ k70_2 at hc25
                      have hend : (k70_2).toNat < (pw_g h 125 2).toNat → ¬ pt_le (pw_g h 126 (k70_2).toNat) := fun q => by omega
                      refine pw_ld E (pc' := 130) (st' := [.ref 141]) rfl (fun _ => rfl) ?_
                      refine pw_getR (b := 143) h17I E (c := 125) (k := 4) (pc' := 133) rfl rfl rfl rfl rfl rfl rfl ?_
                      refine pw_ld E (pc' := 134) (st' := [pw_i k17_1, .ref 143]) rfl (fun _ => rfl) ?_
                      refine pw_ld E (pc' := 135) (st' := [pw_i k70_2, pw_i k17_1, .ref 143]) rfl (fun _ => rfl) ?_
                      refine pw_ld E (pc' := 137) (st' := [pw_i k17_2, pw_i k70_2, pw_i k17_1, .ref 143]) rfl (fun _ => rfl) ?_
                      refine pw_sub E (pc' := 138) rfl rfl ?_
                      refine pw_bip E (pc' := 140) rfl rfl (by decide) ?_
                      refine pw_if2 E (pc' := 147) rfl (by decide) (by omega) (by omega) (by decide) (by decide) ?_ ?_
                      · intro hc26
                        change k70_2 - k17_2 ≤ (8 : Int) at hc26
                        refine pw_ld E (pc' := 148) (st' := [pw_i 1, pw_i k17_1, .ref 143]) rfl (fun _ => rfl) ?_
                        refine pw_ast0 h17I E (c := 127) (pc' := 149) rfl rfl rfl (by decide) rfl (by decide) (by omega) (by omega) rfl (by omega) (by omega) (by omega) (by omega) rfl ?_
                        intro h27I h27E
                        generalize h27w : pw_w h17 127 (k17_1.toNat) (pw_i 1) = h27 at h27I h27E ⊢
                        have h27F := h17F.tr (h27E.wk (W' := [125, 127, 128, 129, 1002]) (by first | rfl | simp))
                        refine pw_goto E (pc' := 265) rfl (by decide) ?_
                        refine pw_ld E (pc' := 266) (st' := [.ref 141]) rfl (fun _ => rfl) ?_
                        refine pw_getR (b := 145) h27I E (c := 125) (k := 6) (pc' := 269) rfl rfl rfl rfl rfl rfl rfl ?_
                        refine pw_ld E (pc' := 270) (st' := [pw_i k17_1, .ref 145]) rfl (fun _ => rfl) ?_
                        refine pw_ld E (pc' := 272) (st' := [.long (Int64.ofInt k70_5), pw_i k17_1, .ref 145]) rfl (fun _ => rfl) ?_
                        refine pw_last h27I E (c := 129) (pc' := 273) rfl rfl rfl (by decide) (by omega) (by omega) rfl ?_
                        intro h28I h28E
                        generalize h28w : pw_w h27 129 (k17_1.toNat) (.long (Int64.ofInt k70_5)) = h28 at h28I h28E ⊢
                        have h28F := h27F.tr (h28E.wk (W' := [125, 127, 128, 129, 1002]) (by first | rfl | simp))
                        refine pw_inc E (pc' := 276) (ls' := [some (.ref 141), some (pw_i (k17_1 + 1)), some (pw_i k70_2), some (pw_i (pw_g gh17 126 (k17_2.toNat))), some (pw_i k17_2), some (.long (Int64.ofInt k70_5)), none]) rfl rfl rfl rfl ?_
                        have ta : pt_ta (pw_g h 126) (pw_g h 125 2).toNat ((k17_2).toNat, (k70_2).toNat, 1, k70_5) := pt_taW (by omega) (by omega) hx70_4.1 hend (fun q => by first | rfl | (exfalso; omega)) (fun q => by first | rfl | (exfalso; omega)) hx70_4.2
                        have o3 := pt_LJ.st (a := k17_2) (b := k70_2) hx17_3 (by omega) (by omega) h17w h27w h28w I17 h17I h27I (by omega) (by omega) (by decide) (by decide) (pw_lToInt (by omega) (by omega)).symm ta
                        have hst2 : pw_g h28 125 2 = 0 := by rw [← h28w, pw_g_ne (by omega), ← h27w, pw_g_ne (by omega), ← h17w, pw_g_ne (by omega)]; exact hx17_4
                        have hsz : pw_g h28 125 3 = pw_g h 125 2 := by rw [← h28w, pw_g_ne (by omega), ← h27w, pw_g_ne (by omega), ← h17w, pw_g_ne (by omega)]; exact hx17_2
                        refine pw_goto E (pc' := 17) rfl (by decide) ?_
                        have he29 : pw_g h28 125 3 = pw_g h27 125 3 := by rw [← h28w]; exact pw_g_ne (by omega)
                        have he30 : pw_g h27 125 3 = pw_g h17 125 3 := by rw [← h27w]; exact pw_g_ne (by omega)
                        exact ih17 _ (by omega) (k17_1 + 1) (k70_2) (some (pw_i (pw_g gh17 126 (k17_2.toNat)))) (some (pw_i k17_2)) (some (.long (Int64.ofInt k70_5))) h28 h28I h28F (by omega) (by omega) (by omega) (by omega) (by omega) (by omega) (by omega) o3 (by omega) rfl
                      · intro hc31
                        change ¬ (k70_2 - k17_2 ≤ (8 : Int)) at hc31
                        refine pw_ld E (pc' := 144) (st' := [pw_i 4, pw_i k17_1, .ref 143]) rfl (fun _ => rfl) ?_
                        refine pw_goto E (pc' := 148) rfl (by decide) ?_
                        refine pw_ast0 h17I E (c := 127) (pc' := 149) rfl rfl rfl (by decide) rfl (by decide) (by omega) (by omega) rfl (by omega) (by omega) (by omega) (by omega) rfl ?_
                        intro h32I h32E
                        generalize h32w : pw_w h17 127 (k17_1.toNat) (pw_i 4) = h32 at h32I h32E ⊢
                        have h32F := h17F.tr (h32E.wk (W' := [125, 127, 128, 129, 1002]) (by first | rfl | simp))
                        refine pw_goto E (pc' := 265) rfl (by decide) ?_
                        refine pw_ld E (pc' := 266) (st' := [.ref 141]) rfl (fun _ => rfl) ?_
                        refine pw_getR (b := 145) h32I E (c := 125) (k := 6) (pc' := 269) rfl rfl rfl rfl rfl rfl rfl ?_
                        refine pw_ld E (pc' := 270) (st' := [pw_i k17_1, .ref 145]) rfl (fun _ => rfl) ?_
                        refine pw_ld E (pc' := 272) (st' := [.long (Int64.ofInt k70_5), pw_i k17_1, .ref 145]) rfl (fun _ => rfl) ?_
                        refine pw_last h32I E (c := 129) (pc' := 273) rfl rfl rfl (by decide) (by omega) (by omega) rfl ?_
                        intro h33I h33E
                        generalize h33w : pw_w h32 129 (k17_1.toNat) (.long (Int64.ofInt k70_5)) = h33 at h33I h33E ⊢
                        have h33F := h32F.tr (h33E.wk (W' := [125, 127, 128, 129, 1002]) (by first | rfl | simp))
                        refine pw_inc E (pc' := 276) (ls' := [some (.ref 141), some (pw_i (k17_1 + 1)), some (pw_i k70_2), some (pw_i (pw_g gh17 126 (k17_2.toNat))), some (pw_i k17_2), some (.long (Int64.ofInt k70_5)), none]) rfl rfl rfl rfl ?_
                        have ta : pt_ta (pw_g h 126) (pw_g h 125 2).toNat ((k17_2).toNat, (k70_2).toNat, 4, k70_5) := pt_taW (by omega) (by omega) hx70_4.1 hend (fun q => by first | rfl | (exfalso; omega)) (fun q => by first | rfl | (exfalso; omega)) hx70_4.2
                        have o3 := pt_LJ.st (a := k17_2) (b := k70_2) hx17_3 (by omega) (by omega) h17w h32w h33w I17 h17I h32I (by omega) (by omega) (by decide) (by decide) (pw_lToInt (by omega) (by omega)).symm ta
                        have hst2 : pw_g h33 125 2 = 0 := by rw [← h33w, pw_g_ne (by omega), ← h32w, pw_g_ne (by omega), ← h17w, pw_g_ne (by omega)]; exact hx17_4
                        have hsz : pw_g h33 125 3 = pw_g h 125 2 := by rw [← h33w, pw_g_ne (by omega), ← h32w, pw_g_ne (by omega), ← h17w, pw_g_ne (by omega)]; exact hx17_2
                        refine pw_goto E (pc' := 17) rfl (by decide) ?_
                        have he34 : pw_g h33 125 3 = pw_g h32 125 3 := by rw [← h33w]; exact pw_g_ne (by omega)
                        have he35 : pw_g h32 125 3 = pw_g h17 125 3 := by rw [← h32w]; exact pw_g_ne (by omega)
                        exact ih17 _ (by omega) (k17_1 + 1) (k70_2) (some (pw_i (pw_g gh17 126 (k17_2.toNat)))) (some (pw_i k17_2)) (some (.long (Int64.ofInt k70_5))) h33 h33I h33F (by omega) (by omega) (by omega) (by omega) (by omega) (by omega) (by omega) o3 (by omega) rfl
                    · intro hc36
                      change ¬ (pw_g h17 125 3 ≤ k70_2) at hc36
                      refine pw_ld E (pc' := 79) (st' := [.ref 141]) rfl (fun _ => rfl) ?_
                      refine pw_getR (b := 142) h17I E (c := 125) (k := 1) (pc' := 82) rfl rfl rfl rfl rfl rfl rfl ?_
                      refine pw_ld E (pc' := 83) (st' := [pw_i k70_2, .ref 142]) rfl (fun _ => rfl) ?_
                      refine pw_ald2 h17I E (c := 126) (pc' := 84) rfl rfl rfl (by decide) rfl (by decide) (by omega) (by omega) rfl (fun hf37a hf37b => ?_)
                      refine pw_call (m' := 239) (As := [pw_i (pw_g h17 126 (k70_2.toNat))]) (rest := []) (ls'' := [some (pw_i (pw_g h17 126 (k70_2.toNat)))]) (Nat.le_trans (by decide) hd) E rfl (fun _ => pw_iS rfl rfl rfl) (rfl : pm_ent 239 = some (1, 1, 12, 1, pmc_239)) rfl rfl (cm_239_t (pw_dp hd (by decide)) h17I (pw_g h17 126 (k70_2.toNat)) (by omega) (by omega)) ?_
                      rintro u39 v38 ⟨rfl, x40, rfl, hx40a, hx40b, hx40r⟩
                      refine ⟨_, rfl, ?_⟩
                      show pw X d h17 238 87 [some (.ref 141), some (pw_i k17_1), some (pw_i k70_2), some (pw_i (pw_g gh17 126 (k17_2.toNat))), some (pw_i k17_2), some (.long (Int64.ofInt k70_5)), none] [pw_i x40] _
                      change (x40 = 1 ∧ 97 ≤ (pw_g h17 126 (k70_2.toNat)) ∧ (pw_g h17 126 (k70_2.toNat)) ≤ 122) ∨ (x40 = 0 ∧ ¬ (97 ≤ (pw_g h17 126 (k70_2.toNat)) ∧ (pw_g h17 126 (k70_2.toNat)) ≤ 122)) at hx40r
                      rcases (by omega : x40 = 1 ∨ x40 = 0) with hb41 | hb41
                      · skip
                        refine pw_if E (pc' := 129) rfl (by decide) (by omega) (by omega) ?_ ?_
                        · intro hc42
                          change x40 = (0 : Int) at hc42
                          exfalso; omega
                        · intro hc43
                          change ¬ (x40 = (0 : Int)) at hc43
                          refine pw_ld E (pc' := 91) (st' := [pw_i k70_2]) rfl (fun _ => rfl) ?_
                          refine pw_ld E (pc' := 93) (st' := [pw_i k17_2, pw_i k70_2]) rfl (fun _ => rfl) ?_
                          refine pw_sub E (pc' := 94) rfl rfl ?_
                          refine pw_bip E (pc' := 96) rfl rfl (by decide) ?_
                          refine pw_if2 E (pc' := 119) rfl (by decide) (by omega) (by omega) (by decide) (by decide) ?_ ?_
                          · intro hc44
                            change (8 : Int) ≤ k70_2 - k17_2 at hc44
                            refine pw_ld E (pc' := 121) (st' := [.long (Int64.ofInt k70_5)]) rfl (fun _ => rfl) ?_
                            refine pw_lst E (pc' := 123) (ls' := [some (.ref 141), some (pw_i k17_1), some (pw_i k70_2), some (pw_i (pw_g gh17 126 (k17_2.toNat))), some (pw_i k17_2), some (.long (Int64.ofInt k70_5)), none]) rfl rfl rfl rfl ?_
                            refine pw_inc E (pc' := 126) (ls' := [some (.ref 141), some (pw_i k17_1), some (pw_i (k70_2 + 1)), some (pw_i (pw_g gh17 126 (k17_2.toNat))), some (pw_i k17_2), some (.long (Int64.ofInt k70_5)), none]) rfl rfl rfl rfl ?_
                            have hle : pt_le (pw_g h 126 (k70_2).toNat) := by rw [← hT1]; rcases hx40r with q | q <;> first | exact q.2 | omega
                            have o4 := hx70_4.s (by omega) (by omega) hle
                            rw [← hT1] at o4
                            have o5 := o4.1 (by omega)
                            clear o4
                            refine pw_goto E (pc' := 70) rfl (by decide) ?_
                            exact ih70 _ (by omega) (k70_2 + 1) (k70_5)  (by omega) (by omega) (by omega) (by omega) (by omega) (by omega) (by omega) (by omega) o5 rfl
                          · intro hc45
                            change ¬ ((8 : Int) ≤ k70_2 - k17_2) at hc45
                            refine pw_ld E (pc' := 102) (st' := [.long (Int64.ofInt 37)]) rfl (fun _ => rfl) ?_
                            refine pw_ld E (pc' := 104) (st' := [.long (Int64.ofInt k70_5), .long (Int64.ofInt 37)]) rfl (fun _ => rfl) ?_
                            refine pw_lmul E (pc' := 105) rfl rfl ?_
                            refine pw_ld E (pc' := 106) (st' := [.ref 141, .long (Int64.ofInt (37 * k70_5))]) rfl (fun _ => rfl) ?_
                            refine pw_getR (b := 142) h17I E (c := 125) (k := 1) (pc' := 109) rfl rfl rfl rfl rfl rfl rfl ?_
                            refine pw_ld E (pc' := 110) (st' := [pw_i k70_2, .ref 142, .long (Int64.ofInt (37 * k70_5))]) rfl (fun _ => rfl) ?_
                            refine pw_ald2 h17I E (c := 126) (pc' := 111) rfl rfl rfl (by decide) rfl (by decide) (by omega) (by omega) rfl (fun hf46a hf46b => ?_)
                            refine pw_call (m' := 240) (As := [pw_i (pw_g h17 126 (k70_2.toNat))]) (rest := [.long (Int64.ofInt (37 * k70_5))]) (ls'' := [some (pw_i (pw_g h17 126 (k70_2.toNat)))]) (Nat.le_trans (by decide) hd) E rfl (fun _ => pw_iS rfl rfl rfl) (rfl : pm_ent 240 = some (1, 1, 12, 0, pmc_240)) rfl rfl (cm_240_t (pw_dp hd (by decide)) h17I (pw_g h17 126 (k70_2.toNat)) (by omega) (by omega)) ?_
                            rintro u48 v47 ⟨rfl, x49, rfl, hx49a, hx49b, hx49r⟩
                            refine ⟨_, rfl, ?_⟩
                            show pw X d h17 238 114 [some (.ref 141), some (pw_i k17_1), some (pw_i k70_2), some (pw_i (pw_g gh17 126 (k17_2.toNat))), some (pw_i k17_2), some (.long (Int64.ofInt k70_5)), none] [pw_i x49, .long (Int64.ofInt (37 * k70_5))] _
                            change 97 ≤ (pw_g h17 126 (k70_2.toNat)) ∧ (pw_g h17 126 (k70_2.toNat)) ≤ 122 → x49 = (pw_g h17 126 (k70_2.toNat)) - 96 at hx49r
                            refine pw_i2l E (pc' := 115) rfl rfl (by omega) (by omega) ?_
                            refine pw_ladd E (pc' := 116) rfl rfl ?_
                            refine pw_goto E (pc' := 121) rfl (by decide) ?_
                            refine pw_lst E (pc' := 123) (ls' := [some (.ref 141), some (pw_i k17_1), some (pw_i k70_2), some (pw_i (pw_g gh17 126 (k17_2.toNat))), some (pw_i k17_2), some (.long (Int64.ofInt ((37 * k70_5) + x49))), none]) rfl rfl rfl rfl ?_
                            refine pw_inc E (pc' := 126) (ls' := [some (.ref 141), some (pw_i k17_1), some (pw_i (k70_2 + 1)), some (pw_i (pw_g gh17 126 (k17_2.toNat))), some (pw_i k17_2), some (.long (Int64.ofInt ((37 * k70_5) + x49))), none]) rfl rfl rfl rfl ?_
                            have hle : pt_le (pw_g h 126 (k70_2).toNat) := by rw [← hT1]; rcases hx40r with q | q <;> first | exact q.2 | omega
                            have o4 := hx70_4.s (by omega) (by omega) hle
                            rw [← hT1] at o4
                            have hrk := hx49r (by rw [← hT1] at hle; exact hle)
                            rw [← hrk] at o4
                            obtain ⟨o5, o6, o7⟩ := o4.2 (by omega)
                            clear o4
                            refine pw_goto E (pc' := 70) rfl (by decide) ?_
                            exact ih70 _ (by omega) (k70_2 + 1) ((37 * k70_5) + x49)  (by omega) (by omega) (by omega) (by omega) (by omega) (by omega) (by omega) (by omega) o5 rfl
                      · skip
                        refine pw_if E (pc' := 129) rfl (by decide) (by omega) (by omega) ?_ ?_
                        · intro hc51
                          change x40 = (0 : Int) at hc51
                          have hend : (k70_2).toNat < (pw_g h 125 2).toNat → ¬ pt_le (pw_g h 126 (k70_2).toNat) := fun q => by (rw [← hT1]; rcases hx40r with w | w <;> first | exact w.2 | omega)
                          refine pw_ld E (pc' := 130) (st' := [.ref 141]) rfl (fun _ => rfl) ?_
                          refine pw_getR (b := 143) h17I E (c := 125) (k := 4) (pc' := 133) rfl rfl rfl rfl rfl rfl rfl ?_
                          refine pw_ld E (pc' := 134) (st' := [pw_i k17_1, .ref 143]) rfl (fun _ => rfl) ?_
                          refine pw_ld E (pc' := 135) (st' := [pw_i k70_2, pw_i k17_1, .ref 143]) rfl (fun _ => rfl) ?_
                          refine pw_ld E (pc' := 137) (st' := [pw_i k17_2, pw_i k70_2, pw_i k17_1, .ref 143]) rfl (fun _ => rfl) ?_
                          refine pw_sub E (pc' := 138) rfl rfl ?_
                          refine pw_bip E (pc' := 140) rfl rfl (by decide) ?_
                          refine pw_if2 E (pc' := 147) rfl (by decide) (by omega) (by omega) (by decide) (by decide) ?_ ?_
                          · intro hc52
                            change k70_2 - k17_2 ≤ (8 : Int) at hc52
                            refine pw_ld E (pc' := 148) (st' := [pw_i 1, pw_i k17_1, .ref 143]) rfl (fun _ => rfl) ?_
                            refine pw_ast0 h17I E (c := 127) (pc' := 149) rfl rfl rfl (by decide) rfl (by decide) (by omega) (by omega) rfl (by omega) (by omega) (by omega) (by omega) rfl ?_
                            intro h53I h53E
                            generalize h53w : pw_w h17 127 (k17_1.toNat) (pw_i 1) = h53 at h53I h53E ⊢
                            have h53F := h17F.tr (h53E.wk (W' := [125, 127, 128, 129, 1002]) (by first | rfl | simp))
                            refine pw_goto E (pc' := 265) rfl (by decide) ?_
                            refine pw_ld E (pc' := 266) (st' := [.ref 141]) rfl (fun _ => rfl) ?_
                            refine pw_getR (b := 145) h53I E (c := 125) (k := 6) (pc' := 269) rfl rfl rfl rfl rfl rfl rfl ?_
                            refine pw_ld E (pc' := 270) (st' := [pw_i k17_1, .ref 145]) rfl (fun _ => rfl) ?_
                            refine pw_ld E (pc' := 272) (st' := [.long (Int64.ofInt k70_5), pw_i k17_1, .ref 145]) rfl (fun _ => rfl) ?_
                            refine pw_last h53I E (c := 129) (pc' := 273) rfl rfl rfl (by decide) (by omega) (by omega) rfl ?_
                            intro h54I h54E
                            generalize h54w : pw_w h53 129 (k17_1.toNat) (.long (Int64.ofInt k70_5)) = h54 at h54I h54E ⊢
                            have h54F := h53F.tr (h54E.wk (W' := [125, 127, 128, 129, 1002]) (by first | rfl | simp))
                            refine pw_inc E (pc' := 276) (ls' := [some (.ref 141), some (pw_i (k17_1 + 1)), some (pw_i k70_2), some (pw_i (pw_g gh17 126 (k17_2.toNat))), some (pw_i k17_2), some (.long (Int64.ofInt k70_5)), none]) rfl rfl rfl rfl ?_
                            have ta : pt_ta (pw_g h 126) (pw_g h 125 2).toNat ((k17_2).toNat, (k70_2).toNat, 1, k70_5) := pt_taW (by omega) (by omega) hx70_4.1 hend (fun q => by first | rfl | (exfalso; omega)) (fun q => by first | rfl | (exfalso; omega)) hx70_4.2
                            have o3 := pt_LJ.st (a := k17_2) (b := k70_2) hx17_3 (by omega) (by omega) h17w h53w h54w I17 h17I h53I (by omega) (by omega) (by decide) (by decide) (pw_lToInt (by omega) (by omega)).symm ta
                            have hst2 : pw_g h54 125 2 = 0 := by rw [← h54w, pw_g_ne (by omega), ← h53w, pw_g_ne (by omega), ← h17w, pw_g_ne (by omega)]; exact hx17_4
                            have hsz : pw_g h54 125 3 = pw_g h 125 2 := by rw [← h54w, pw_g_ne (by omega), ← h53w, pw_g_ne (by omega), ← h17w, pw_g_ne (by omega)]; exact hx17_2
                            refine pw_goto E (pc' := 17) rfl (by decide) ?_
                            have he55 : pw_g h54 125 3 = pw_g h53 125 3 := by rw [← h54w]; exact pw_g_ne (by omega)
                            have he56 : pw_g h53 125 3 = pw_g h17 125 3 := by rw [← h53w]; exact pw_g_ne (by omega)
                            exact ih17 _ (by omega) (k17_1 + 1) (k70_2) (some (pw_i (pw_g gh17 126 (k17_2.toNat)))) (some (pw_i k17_2)) (some (.long (Int64.ofInt k70_5))) h54 h54I h54F (by omega) (by omega) (by omega) (by omega) (by omega) (by omega) (by omega) o3 (by omega) rfl
                          · intro hc57
                            change ¬ (k70_2 - k17_2 ≤ (8 : Int)) at hc57
                            refine pw_ld E (pc' := 144) (st' := [pw_i 4, pw_i k17_1, .ref 143]) rfl (fun _ => rfl) ?_
                            refine pw_goto E (pc' := 148) rfl (by decide) ?_
                            refine pw_ast0 h17I E (c := 127) (pc' := 149) rfl rfl rfl (by decide) rfl (by decide) (by omega) (by omega) rfl (by omega) (by omega) (by omega) (by omega) rfl ?_
                            intro h58I h58E
                            generalize h58w : pw_w h17 127 (k17_1.toNat) (pw_i 4) = h58 at h58I h58E ⊢
                            have h58F := h17F.tr (h58E.wk (W' := [125, 127, 128, 129, 1002]) (by first | rfl | simp))
                            refine pw_goto E (pc' := 265) rfl (by decide) ?_
                            refine pw_ld E (pc' := 266) (st' := [.ref 141]) rfl (fun _ => rfl) ?_
                            refine pw_getR (b := 145) h58I E (c := 125) (k := 6) (pc' := 269) rfl rfl rfl rfl rfl rfl rfl ?_
                            refine pw_ld E (pc' := 270) (st' := [pw_i k17_1, .ref 145]) rfl (fun _ => rfl) ?_
                            refine pw_ld E (pc' := 272) (st' := [.long (Int64.ofInt k70_5), pw_i k17_1, .ref 145]) rfl (fun _ => rfl) ?_
                            refine pw_last h58I E (c := 129) (pc' := 273) rfl rfl rfl (by decide) (by omega) (by omega) rfl ?_
                            intro h59I h59E
                            generalize h59w : pw_w h58 129 (k17_1.toNat) (.long (Int64.ofInt k70_5)) = h59 at h59I h59E ⊢
                            have h59F := h58F.tr (h59E.wk (W' := [125, 127, 128, 129, 1002]) (by first | rfl | simp))
                            refine pw_inc E (pc' := 276) (ls' := [some (.ref 141), some (pw_i (k17_1 + 1)), some (pw_i k70_2), some (pw_i (pw_g gh17 126 (k17_2.toNat))), some (pw_i k17_2), some (.long (Int64.ofInt k70_5)), none]) rfl rfl rfl rfl ?_
                            have ta : pt_ta (pw_g h 126) (pw_g h 125 2).toNat ((k17_2).toNat, (k70_2).toNat, 4, k70_5) := pt_taW (by omega) (by omega) hx70_4.1 hend (fun q => by first | rfl | (exfalso; omega)) (fun q => by first | rfl | (exfalso; omega)) hx70_4.2
                            have o3 := pt_LJ.st (a := k17_2) (b := k70_2) hx17_3 (by omega) (by omega) h17w h58w h59w I17 h17I h58I (by omega) (by omega) (by decide) (by decide) (pw_lToInt (by omega) (by omega)).symm ta
                            have hst2 : pw_g h59 125 2 = 0 := by rw [← h59w, pw_g_ne (by omega), ← h58w, pw_g_ne (by omega), ← h17w, pw_g_ne (by omega)]; exact hx17_4
                            have hsz : pw_g h59 125 3 = pw_g h 125 2 := by rw [← h59w, pw_g_ne (by omega), ← h58w, pw_g_ne (by omega), ← h17w, pw_g_ne (by omega)]; exact hx17_2
                            refine pw_goto E (pc' := 17) rfl (by decide) ?_
                            have he60 : pw_g h59 125 3 = pw_g h58 125 3 := by rw [← h59w]; exact pw_g_ne (by omega)
                            have he61 : pw_g h58 125 3 = pw_g h17 125 3 := by rw [← h58w]; exact pw_g_ne (by omega)
                            exact ih17 _ (by omega) (k17_1 + 1) (k70_2) (some (pw_i (pw_g gh17 126 (k17_2.toNat)))) (some (pw_i k17_2)) (some (.long (Int64.ofInt k70_5))) h59 h59I h59F (by omega) (by omega) (by omega) (by omega) (by omega) (by omega) (by omega) o3 (by omega) rfl
                        · intro hc62
                          change ¬ (x40 = (0 : Int)) at hc62
                          exfalso; omega
                have he63 : pw_g h17 125 3 = pw_g gh17 125 3 := by rw [← h17w]; exact pw_g_ne (by omega)
                exact L70 _ (k17_2) (0)  (by omega) (by omega) (by omega) (by omega) (by omega) (by omega) (by omega) (by omega) pt_WL.z rfl
            · skip
              refine pw_if E (pc' := 152) rfl (by decide) (by omega) (by omega) ?_ ?_
              · intro hc65
                change x20 = (0 : Int) at hc65
                refine pw_ld E (pc' := 153) (st' := [pw_i (pw_g gh17 126 (k17_2.toNat))]) rfl (fun _ => rfl) ?_
                refine pw_call (m' := 241) (As := [pw_i (pw_g gh17 126 (k17_2.toNat))]) (rest := []) (ls'' := [some (pw_i (pw_g gh17 126 (k17_2.toNat)))]) (Nat.le_trans (by decide) hd) E rfl (fun _ => pw_iS rfl rfl rfl) (rfl : pm_ent 241 = some (1, 1, 12, 1, pmc_241)) rfl rfl (cm_241_t (pw_dp hd (by decide)) h17I (pw_g gh17 126 (k17_2.toNat)) (by omega) (by omega)) ?_
                rintro u67 v66 ⟨rfl, x68, rfl, hx68a, hx68b, hx68r⟩
                refine ⟨_, rfl, ?_⟩
                show pw X d h17 238 156 [some (.ref 141), some (pw_i k17_1), some (pw_i k17_2), some (pw_i (pw_g gh17 126 (k17_2.toNat))), some (pw_i k17_2), some (.long (Int64.ofInt 0)), none] [pw_i x68] _
                change (x68 = 1 ∧ 48 ≤ (pw_g gh17 126 (k17_2.toNat)) ∧ (pw_g gh17 126 (k17_2.toNat)) ≤ 57) ∨ (x68 = 0 ∧ ¬ (48 ≤ (pw_g gh17 126 (k17_2.toNat)) ∧ (pw_g gh17 126 (k17_2.toNat)) ≤ 57)) at hx68r
                rcases (by omega : x68 = 1 ∨ x68 = 0) with hb69 | hb69
                · skip
                  refine pw_if E (pc' := 240) rfl (by decide) (by omega) (by omega) ?_ ?_
                  · intro hc70
                    change x68 = (0 : Int) at hc70
                    exfalso; omega
                  · intro hc71
                    change ¬ (x68 = (0 : Int)) at hc71
                    have L159 : ∀ (n159 : Nat) (k159_2 : Int) (k159_5 : Int), 0 ≤ k159_2 → k159_2 ≤ 1000 → 0 ≤ k159_5 → k159_5 ≤ 9999 → k17_2 < k159_2 ∨ (k159_2 = k17_2 ∧ 48 ≤ pw_g h17 126 (k159_2).toNat ∧ pw_g h17 126 (k159_2).toNat ≤ 57) → k17_2 < pw_g h17 125 3 → k159_2 ≤ pw_g h17 125 3 → k17_2 ≤ k159_2 → pt_WD (pw_g h 126) (k17_2) (k159_2) (k159_5) → (1000 - k159_2).toNat = n159 → pw X d h17 238 159 [some (.ref 141), some (pw_i k17_1), some (pw_i k159_2), some (pw_i (pw_g gh17 126 (k17_2.toNat))), some (pw_i k17_2), some (.long (Int64.ofInt k159_5)), none] [] (fun h' v => pw_I h' ∧ pw_E [125, 127, 128, 129, 1002] h h' ∧ (∃ L : List pt_tok, pw_A L.length h' ∧ pw_g h' 125 7 = 0 ∧ pw_g h' 125 8 = 0 ∧ pt_sg (pw_g h 126) (pw_g h 125 2).toNat 0 L (pw_g h 125 2).toNat ∧ pt_LI L h' ∧ pw_g h' 127 L.length = 0 ∧ pw_g h' 128 L.length = pw_g h 125 2 ∧ pw_g h' 125 2 = 0) ∧ (v = .inl none)) := by
                      intro n159
                      induction n159 using Nat.strongRecOn with
                      | ind n159 ih159 =>
                        intro k159_2 k159_5 k159_2a k159_2b k159_5a k159_5b hx159_0 hx159_1 hx159_2 hx159_3 hx159_4 hm159
                        refine pw_ld E (pc' := 160) (st' := [pw_i k159_2]) rfl (fun _ => rfl) ?_
                        refine pw_ld E (pc' := 161) (st' := [.ref 141, pw_i k159_2]) rfl (fun _ => rfl) ?_
                        refine pw_getI2 h17I E (c := 125) (k := 3) (pc' := 164) rfl rfl rfl rfl rfl rfl (fun hf72a hf72b => ?_)
                        refine pw_if2 E (pc' := 218) rfl (by decide) (by omega) (by omega) (by omega) (by omega) ?_ ?_
                        · intro hc73
                          change pw_g h17 125 3 ≤ k159_2 at hc73
                          have hend : (k159_2).toNat < (pw_g h 125 2).toNat → ¬ pt_di (pw_g h 126 (k159_2).toNat) := fun q => by omega
                          refine pw_ld E (pc' := 219) (st' := [.ref 141]) rfl (fun _ => rfl) ?_
                          refine pw_getR (b := 143) h17I E (c := 125) (k := 4) (pc' := 222) rfl rfl rfl rfl rfl rfl rfl ?_
                          refine pw_ld E (pc' := 223) (st' := [pw_i k17_1, .ref 143]) rfl (fun _ => rfl) ?_
                          refine pw_ld E (pc' := 224) (st' := [pw_i k159_2, pw_i k17_1, .ref 143]) rfl (fun _ => rfl) ?_
                          refine pw_ld E (pc' := 226) (st' := [pw_i k17_2, pw_i k159_2, pw_i k17_1, .ref 143]) rfl (fun _ => rfl) ?_
                          refine pw_sub E (pc' := 227) rfl rfl ?_
                          refine pw_ld E (pc' := 228) (st' := [pw_i 4, pw_i (k159_2 - k17_2), pw_i k17_1, .ref 143]) rfl (fun _ => rfl) ?_
                          refine pw_if2 E (pc' := 235) rfl (by decide) (by omega) (by omega) (by decide) (by decide) ?_ ?_
                          · intro hc74
                            change k159_2 - k17_2 ≤ (4 : Int) at hc74
                            refine pw_ld E (pc' := 236) (st' := [pw_i 2, pw_i k17_1, .ref 143]) rfl (fun _ => rfl) ?_
                            refine pw_ast0 h17I E (c := 127) (pc' := 237) rfl rfl rfl (by decide) rfl (by decide) (by omega) (by omega) rfl (by omega) (by omega) (by omega) (by omega) rfl ?_
                            intro h75I h75E
                            generalize h75w : pw_w h17 127 (k17_1.toNat) (pw_i 2) = h75 at h75I h75E ⊢
                            have h75F := h17F.tr (h75E.wk (W' := [125, 127, 128, 129, 1002]) (by first | rfl | simp))
                            refine pw_goto E (pc' := 265) rfl (by decide) ?_
                            refine pw_ld E (pc' := 266) (st' := [.ref 141]) rfl (fun _ => rfl) ?_
                            refine pw_getR (b := 145) h75I E (c := 125) (k := 6) (pc' := 269) rfl rfl rfl rfl rfl rfl rfl ?_
                            refine pw_ld E (pc' := 270) (st' := [pw_i k17_1, .ref 145]) rfl (fun _ => rfl) ?_
                            refine pw_ld E (pc' := 272) (st' := [.long (Int64.ofInt k159_5), pw_i k17_1, .ref 145]) rfl (fun _ => rfl) ?_
                            refine pw_last h75I E (c := 129) (pc' := 273) rfl rfl rfl (by decide) (by omega) (by omega) rfl ?_
                            intro h76I h76E
                            generalize h76w : pw_w h75 129 (k17_1.toNat) (.long (Int64.ofInt k159_5)) = h76 at h76I h76E ⊢
                            have h76F := h75F.tr (h76E.wk (W' := [125, 127, 128, 129, 1002]) (by first | rfl | simp))
                            refine pw_inc E (pc' := 276) (ls' := [some (.ref 141), some (pw_i (k17_1 + 1)), some (pw_i k159_2), some (pw_i (pw_g gh17 126 (k17_2.toNat))), some (pw_i k17_2), some (.long (Int64.ofInt k159_5)), none]) rfl rfl rfl rfl ?_
                            have ta : pt_ta (pw_g h 126) (pw_g h 125 2).toNat ((k17_2).toNat, (k159_2).toNat, 2, k159_5) := pt_taN (by omega) (by omega) hx159_4.1 hend (fun q => by first | rfl | (exfalso; omega)) (fun q => by first | rfl | (exfalso; omega)) hx159_4.2
                            have o3 := pt_LJ.st (a := k17_2) (b := k159_2) hx17_3 (by omega) (by omega) h17w h75w h76w I17 h17I h75I (by omega) (by omega) (by decide) (by decide) (pw_lToInt (by omega) (by omega)).symm ta
                            have hst2 : pw_g h76 125 2 = 0 := by rw [← h76w, pw_g_ne (by omega), ← h75w, pw_g_ne (by omega), ← h17w, pw_g_ne (by omega)]; exact hx17_4
                            have hsz : pw_g h76 125 3 = pw_g h 125 2 := by rw [← h76w, pw_g_ne (by omega), ← h75w, pw_g_ne (by omega), ← h17w, pw_g_ne (by omega)]; exact hx17_2
                            refine pw_goto E (pc' := 17) rfl (by decide) ?_
                            have he77 : pw_g h76 125 3 = pw_g h75 125 3 := by rw [← h76w]; exact pw_g_ne (by omega)
                            have he78 : pw_g h75 125 3 = pw_g h17 125 3 := by rw [← h75w]; exact pw_g_ne (by omega)
                            exact ih17 _ (by omega) (k17_1 + 1) (k159_2) (some (pw_i (pw_g gh17 126 (k17_2.toNat)))) (some (pw_i k17_2)) (some (.long (Int64.ofInt k159_5))) h76 h76I h76F (by omega) (by omega) (by omega) (by omega) (by omega) (by omega) (by omega) o3 (by omega) rfl
                          · intro hc79
                            change ¬ (k159_2 - k17_2 ≤ (4 : Int)) at hc79
                            refine pw_ld E (pc' := 232) (st' := [pw_i 4, pw_i k17_1, .ref 143]) rfl (fun _ => rfl) ?_
                            refine pw_goto E (pc' := 236) rfl (by decide) ?_
                            refine pw_ast0 h17I E (c := 127) (pc' := 237) rfl rfl rfl (by decide) rfl (by decide) (by omega) (by omega) rfl (by omega) (by omega) (by omega) (by omega) rfl ?_
                            intro h80I h80E
                            generalize h80w : pw_w h17 127 (k17_1.toNat) (pw_i 4) = h80 at h80I h80E ⊢
                            have h80F := h17F.tr (h80E.wk (W' := [125, 127, 128, 129, 1002]) (by first | rfl | simp))
                            refine pw_goto E (pc' := 265) rfl (by decide) ?_
                            refine pw_ld E (pc' := 266) (st' := [.ref 141]) rfl (fun _ => rfl) ?_
                            refine pw_getR (b := 145) h80I E (c := 125) (k := 6) (pc' := 269) rfl rfl rfl rfl rfl rfl rfl ?_
                            refine pw_ld E (pc' := 270) (st' := [pw_i k17_1, .ref 145]) rfl (fun _ => rfl) ?_
                            refine pw_ld E (pc' := 272) (st' := [.long (Int64.ofInt k159_5), pw_i k17_1, .ref 145]) rfl (fun _ => rfl) ?_
                            refine pw_last h80I E (c := 129) (pc' := 273) rfl rfl rfl (by decide) (by omega) (by omega) rfl ?_
                            intro h81I h81E
                            generalize h81w : pw_w h80 129 (k17_1.toNat) (.long (Int64.ofInt k159_5)) = h81 at h81I h81E ⊢
                            have h81F := h80F.tr (h81E.wk (W' := [125, 127, 128, 129, 1002]) (by first | rfl | simp))
                            refine pw_inc E (pc' := 276) (ls' := [some (.ref 141), some (pw_i (k17_1 + 1)), some (pw_i k159_2), some (pw_i (pw_g gh17 126 (k17_2.toNat))), some (pw_i k17_2), some (.long (Int64.ofInt k159_5)), none]) rfl rfl rfl rfl ?_
                            have ta : pt_ta (pw_g h 126) (pw_g h 125 2).toNat ((k17_2).toNat, (k159_2).toNat, 4, k159_5) := pt_taN (by omega) (by omega) hx159_4.1 hend (fun q => by first | rfl | (exfalso; omega)) (fun q => by first | rfl | (exfalso; omega)) hx159_4.2
                            have o3 := pt_LJ.st (a := k17_2) (b := k159_2) hx17_3 (by omega) (by omega) h17w h80w h81w I17 h17I h80I (by omega) (by omega) (by decide) (by decide) (pw_lToInt (by omega) (by omega)).symm ta
                            have hst2 : pw_g h81 125 2 = 0 := by rw [← h81w, pw_g_ne (by omega), ← h80w, pw_g_ne (by omega), ← h17w, pw_g_ne (by omega)]; exact hx17_4
                            have hsz : pw_g h81 125 3 = pw_g h 125 2 := by rw [← h81w, pw_g_ne (by omega), ← h80w, pw_g_ne (by omega), ← h17w, pw_g_ne (by omega)]; exact hx17_2
                            refine pw_goto E (pc' := 17) rfl (by decide) ?_
                            have he82 : pw_g h81 125 3 = pw_g h80 125 3 := by rw [← h81w]; exact pw_g_ne (by omega)
                            have he83 : pw_g h80 125 3 = pw_g h17 125 3 := by rw [← h80w]; exact pw_g_ne (by omega)
                            exact ih17 _ (by omega) (k17_1 + 1) (k159_2) (some (pw_i (pw_g gh17 126 (k17_2.toNat)))) (some (pw_i k17_2)) (some (.long (Int64.ofInt k159_5))) h81 h81I h81F (by omega) (by omega) (by omega) (by omega) (by omega) (by omega) (by omega) o3 (by omega) rfl
                        · intro hc84
                          change ¬ (pw_g h17 125 3 ≤ k159_2) at hc84
                          refine pw_ld E (pc' := 168) (st' := [.ref 141]) rfl (fun _ => rfl) ?_
                          refine pw_getR (b := 142) h17I E (c := 125) (k := 1) (pc' := 171) rfl rfl rfl rfl rfl rfl rfl ?_
                          refine pw_ld E (pc' := 172) (st' := [pw_i k159_2, .ref 142]) rfl (fun _ => rfl) ?_
                          refine pw_ald2 h17I E (c := 126) (pc' := 173) rfl rfl rfl (by decide) rfl (by decide) (by omega) (by omega) rfl (fun hf85a hf85b => ?_)
                          refine pw_call (m' := 241) (As := [pw_i (pw_g h17 126 (k159_2.toNat))]) (rest := []) (ls'' := [some (pw_i (pw_g h17 126 (k159_2.toNat)))]) (Nat.le_trans (by decide) hd) E rfl (fun _ => pw_iS rfl rfl rfl) (rfl : pm_ent 241 = some (1, 1, 12, 1, pmc_241)) rfl rfl (cm_241_t (pw_dp hd (by decide)) h17I (pw_g h17 126 (k159_2.toNat)) (by omega) (by omega)) ?_
                          rintro u87 v86 ⟨rfl, x88, rfl, hx88a, hx88b, hx88r⟩
                          refine ⟨_, rfl, ?_⟩
                          show pw X d h17 238 176 [some (.ref 141), some (pw_i k17_1), some (pw_i k159_2), some (pw_i (pw_g gh17 126 (k17_2.toNat))), some (pw_i k17_2), some (.long (Int64.ofInt k159_5)), none] [pw_i x88] _
                          change (x88 = 1 ∧ 48 ≤ (pw_g h17 126 (k159_2.toNat)) ∧ (pw_g h17 126 (k159_2.toNat)) ≤ 57) ∨ (x88 = 0 ∧ ¬ (48 ≤ (pw_g h17 126 (k159_2.toNat)) ∧ (pw_g h17 126 (k159_2.toNat)) ≤ 57)) at hx88r
                          rcases (by omega : x88 = 1 ∨ x88 = 0) with hb89 | hb89
                          · skip
                            refine pw_if E (pc' := 218) rfl (by decide) (by omega) (by omega) ?_ ?_
                            · intro hc90
                              change x88 = (0 : Int) at hc90
                              exfalso; omega
                            · intro hc91
                              change ¬ (x88 = (0 : Int)) at hc91
                              refine pw_ld E (pc' := 180) (st' := [pw_i k159_2]) rfl (fun _ => rfl) ?_
                              refine pw_ld E (pc' := 182) (st' := [pw_i k17_2, pw_i k159_2]) rfl (fun _ => rfl) ?_
                              refine pw_sub E (pc' := 183) rfl rfl ?_
                              refine pw_ld E (pc' := 184) (st' := [pw_i 4, pw_i (k159_2 - k17_2)]) rfl (fun _ => rfl) ?_
                              refine pw_if2 E (pc' := 208) rfl (by decide) (by omega) (by omega) (by decide) (by decide) ?_ ?_
                              · intro hc92
                                change (4 : Int) ≤ k159_2 - k17_2 at hc92
                                refine pw_ld E (pc' := 210) (st' := [.long (Int64.ofInt k159_5)]) rfl (fun _ => rfl) ?_
                                refine pw_lst E (pc' := 212) (ls' := [some (.ref 141), some (pw_i k17_1), some (pw_i k159_2), some (pw_i (pw_g gh17 126 (k17_2.toNat))), some (pw_i k17_2), some (.long (Int64.ofInt k159_5)), none]) rfl rfl rfl rfl ?_
                                refine pw_inc E (pc' := 215) (ls' := [some (.ref 141), some (pw_i k17_1), some (pw_i (k159_2 + 1)), some (pw_i (pw_g gh17 126 (k17_2.toNat))), some (pw_i k17_2), some (.long (Int64.ofInt k159_5)), none]) rfl rfl rfl rfl ?_
                                have hle : pt_di (pw_g h 126 (k159_2).toNat) := by rw [← hT1]; rcases hx88r with q | q <;> first | exact q.2 | omega
                                have o4 := hx159_4.s (by omega) (by omega) hle
                                rw [← hT1] at o4
                                have o5 := o4.1 (by omega)
                                clear o4
                                refine pw_goto E (pc' := 159) rfl (by decide) ?_
                                exact ih159 _ (by omega) (k159_2 + 1) (k159_5)  (by omega) (by omega) (by omega) (by omega) (by omega) (by omega) (by omega) (by omega) o5 rfl
                              · intro hc93
                                change ¬ ((4 : Int) ≤ k159_2 - k17_2) at hc93
                                refine pw_ld E (pc' := 190) (st' := [.long (Int64.ofInt 10)]) rfl (fun _ => rfl) ?_
                                refine pw_ld E (pc' := 192) (st' := [.long (Int64.ofInt k159_5), .long (Int64.ofInt 10)]) rfl (fun _ => rfl) ?_
                                refine pw_lmul E (pc' := 193) rfl rfl ?_
                                refine pw_ld E (pc' := 194) (st' := [.ref 141, .long (Int64.ofInt (10 * k159_5))]) rfl (fun _ => rfl) ?_
                                refine pw_getR (b := 142) h17I E (c := 125) (k := 1) (pc' := 197) rfl rfl rfl rfl rfl rfl rfl ?_
                                refine pw_ld E (pc' := 198) (st' := [pw_i k159_2, .ref 142, .long (Int64.ofInt (10 * k159_5))]) rfl (fun _ => rfl) ?_
                                refine pw_ald2 h17I E (c := 126) (pc' := 199) rfl rfl rfl (by decide) rfl (by decide) (by omega) (by omega) rfl (fun hf94a hf94b => ?_)
                                refine pw_i2l E (pc' := 200) rfl rfl (by omega) (by omega) ?_
                                refine pw_ladd E (pc' := 201) rfl rfl ?_
                                refine pw_ld E (pc' := 204) (st' := [.long (Int64.ofInt 48), .long (Int64.ofInt ((10 * k159_5) + (pw_g h17 126 (k159_2.toNat))))]) rfl (fun _ => rfl) ?_
                                refine pw_lsub E (pc' := 205) rfl rfl ?_
                                refine pw_goto E (pc' := 210) rfl (by decide) ?_
                                refine pw_lst E (pc' := 212) (ls' := [some (.ref 141), some (pw_i k17_1), some (pw_i k159_2), some (pw_i (pw_g gh17 126 (k17_2.toNat))), some (pw_i k17_2), some (.long (Int64.ofInt (((10 * k159_5) + (pw_g h17 126 (k159_2.toNat))) - 48))), none]) rfl rfl rfl rfl ?_
                                refine pw_inc E (pc' := 215) (ls' := [some (.ref 141), some (pw_i k17_1), some (pw_i (k159_2 + 1)), some (pw_i (pw_g gh17 126 (k17_2.toNat))), some (pw_i k17_2), some (.long (Int64.ofInt (((10 * k159_5) + (pw_g h17 126 (k159_2.toNat))) - 48))), none]) rfl rfl rfl rfl ?_
                                have hle : pt_di (pw_g h 126 (k159_2).toNat) := by rw [← hT1]; rcases hx88r with q | q <;> first | exact q.2 | omega
                                have o4 := hx159_4.s (by omega) (by omega) hle
                                rw [← hT1] at o4
                                obtain ⟨o5, o6, o7⟩ := o4.2 (by omega)
                                clear o4
                                refine pw_goto E (pc' := 159) rfl (by decide) ?_
                                exact ih159 _ (by omega) (k159_2 + 1) (((10 * k159_5) + (pw_g h17 126 (k159_2.toNat))) - 48)  (by omega) (by omega) (by omega) (by omega) (by omega) (by omega) (by omega) (by omega) o5 rfl
                          · skip
                            refine pw_if E (pc' := 218) rfl (by decide) (by omega) (by omega) ?_ ?_
                            · intro hc96
                              change x88 = (0 : Int) at hc96
                              have hend : (k159_2).toNat < (pw_g h 125 2).toNat → ¬ pt_di (pw_g h 126 (k159_2).toNat) := fun q => by (rw [← hT1]; rcases hx88r with w | w <;> first | exact w.2 | omega)
                              refine pw_ld E (pc' := 219) (st' := [.ref 141]) rfl (fun _ => rfl) ?_
                              refine pw_getR (b := 143) h17I E (c := 125) (k := 4) (pc' := 222) rfl rfl rfl rfl rfl rfl rfl ?_
                              refine pw_ld E (pc' := 223) (st' := [pw_i k17_1, .ref 143]) rfl (fun _ => rfl) ?_
                              refine pw_ld E (pc' := 224) (st' := [pw_i k159_2, pw_i k17_1, .ref 143]) rfl (fun _ => rfl) ?_
                              refine pw_ld E (pc' := 226) (st' := [pw_i k17_2, pw_i k159_2, pw_i k17_1, .ref 143]) rfl (fun _ => rfl) ?_
                              refine pw_sub E (pc' := 227) rfl rfl ?_
                              refine pw_ld E (pc' := 228) (st' := [pw_i 4, pw_i (k159_2 - k17_2), pw_i k17_1, .ref 143]) rfl (fun _ => rfl) ?_
                              refine pw_if2 E (pc' := 235) rfl (by decide) (by omega) (by omega) (by decide) (by decide) ?_ ?_
                              · intro hc97
                                change k159_2 - k17_2 ≤ (4 : Int) at hc97
                                refine pw_ld E (pc' := 236) (st' := [pw_i 2, pw_i k17_1, .ref 143]) rfl (fun _ => rfl) ?_
                                refine pw_ast0 h17I E (c := 127) (pc' := 237) rfl rfl rfl (by decide) rfl (by decide) (by omega) (by omega) rfl (by omega) (by omega) (by omega) (by omega) rfl ?_
                                intro h98I h98E
                                generalize h98w : pw_w h17 127 (k17_1.toNat) (pw_i 2) = h98 at h98I h98E ⊢
                                have h98F := h17F.tr (h98E.wk (W' := [125, 127, 128, 129, 1002]) (by first | rfl | simp))
                                refine pw_goto E (pc' := 265) rfl (by decide) ?_
                                refine pw_ld E (pc' := 266) (st' := [.ref 141]) rfl (fun _ => rfl) ?_
                                refine pw_getR (b := 145) h98I E (c := 125) (k := 6) (pc' := 269) rfl rfl rfl rfl rfl rfl rfl ?_
                                refine pw_ld E (pc' := 270) (st' := [pw_i k17_1, .ref 145]) rfl (fun _ => rfl) ?_
                                refine pw_ld E (pc' := 272) (st' := [.long (Int64.ofInt k159_5), pw_i k17_1, .ref 145]) rfl (fun _ => rfl) ?_
                                refine pw_last h98I E (c := 129) (pc' := 273) rfl rfl rfl (by decide) (by omega) (by omega) rfl ?_
                                intro h99I h99E
                                generalize h99w : pw_w h98 129 (k17_1.toNat) (.long (Int64.ofInt k159_5)) = h99 at h99I h99E ⊢
                                have h99F := h98F.tr (h99E.wk (W' := [125, 127, 128, 129, 1002]) (by first | rfl | simp))
                                refine pw_inc E (pc' := 276) (ls' := [some (.ref 141), some (pw_i (k17_1 + 1)), some (pw_i k159_2), some (pw_i (pw_g gh17 126 (k17_2.toNat))), some (pw_i k17_2), some (.long (Int64.ofInt k159_5)), none]) rfl rfl rfl rfl ?_
                                have ta : pt_ta (pw_g h 126) (pw_g h 125 2).toNat ((k17_2).toNat, (k159_2).toNat, 2, k159_5) := pt_taN (by omega) (by omega) hx159_4.1 hend (fun q => by first | rfl | (exfalso; omega)) (fun q => by first | rfl | (exfalso; omega)) hx159_4.2
                                have o3 := pt_LJ.st (a := k17_2) (b := k159_2) hx17_3 (by omega) (by omega) h17w h98w h99w I17 h17I h98I (by omega) (by omega) (by decide) (by decide) (pw_lToInt (by omega) (by omega)).symm ta
                                have hst2 : pw_g h99 125 2 = 0 := by rw [← h99w, pw_g_ne (by omega), ← h98w, pw_g_ne (by omega), ← h17w, pw_g_ne (by omega)]; exact hx17_4
                                have hsz : pw_g h99 125 3 = pw_g h 125 2 := by rw [← h99w, pw_g_ne (by omega), ← h98w, pw_g_ne (by omega), ← h17w, pw_g_ne (by omega)]; exact hx17_2
                                refine pw_goto E (pc' := 17) rfl (by decide) ?_
                                have he100 : pw_g h99 125 3 = pw_g h98 125 3 := by rw [← h99w]; exact pw_g_ne (by omega)
                                have he101 : pw_g h98 125 3 = pw_g h17 125 3 := by rw [← h98w]; exact pw_g_ne (by omega)
                                exact ih17 _ (by omega) (k17_1 + 1) (k159_2) (some (pw_i (pw_g gh17 126 (k17_2.toNat)))) (some (pw_i k17_2)) (some (.long (Int64.ofInt k159_5))) h99 h99I h99F (by omega) (by omega) (by omega) (by omega) (by omega) (by omega) (by omega) o3 (by omega) rfl
                              · intro hc102
                                change ¬ (k159_2 - k17_2 ≤ (4 : Int)) at hc102
                                refine pw_ld E (pc' := 232) (st' := [pw_i 4, pw_i k17_1, .ref 143]) rfl (fun _ => rfl) ?_
                                refine pw_goto E (pc' := 236) rfl (by decide) ?_
                                refine pw_ast0 h17I E (c := 127) (pc' := 237) rfl rfl rfl (by decide) rfl (by decide) (by omega) (by omega) rfl (by omega) (by omega) (by omega) (by omega) rfl ?_
                                intro h103I h103E
                                generalize h103w : pw_w h17 127 (k17_1.toNat) (pw_i 4) = h103 at h103I h103E ⊢
                                have h103F := h17F.tr (h103E.wk (W' := [125, 127, 128, 129, 1002]) (by first | rfl | simp))
                                refine pw_goto E (pc' := 265) rfl (by decide) ?_
                                refine pw_ld E (pc' := 266) (st' := [.ref 141]) rfl (fun _ => rfl) ?_
                                refine pw_getR (b := 145) h103I E (c := 125) (k := 6) (pc' := 269) rfl rfl rfl rfl rfl rfl rfl ?_
                                refine pw_ld E (pc' := 270) (st' := [pw_i k17_1, .ref 145]) rfl (fun _ => rfl) ?_
                                refine pw_ld E (pc' := 272) (st' := [.long (Int64.ofInt k159_5), pw_i k17_1, .ref 145]) rfl (fun _ => rfl) ?_
                                refine pw_last h103I E (c := 129) (pc' := 273) rfl rfl rfl (by decide) (by omega) (by omega) rfl ?_
                                intro h104I h104E
                                generalize h104w : pw_w h103 129 (k17_1.toNat) (.long (Int64.ofInt k159_5)) = h104 at h104I h104E ⊢
                                have h104F := h103F.tr (h104E.wk (W' := [125, 127, 128, 129, 1002]) (by first | rfl | simp))
                                refine pw_inc E (pc' := 276) (ls' := [some (.ref 141), some (pw_i (k17_1 + 1)), some (pw_i k159_2), some (pw_i (pw_g gh17 126 (k17_2.toNat))), some (pw_i k17_2), some (.long (Int64.ofInt k159_5)), none]) rfl rfl rfl rfl ?_
                                have ta : pt_ta (pw_g h 126) (pw_g h 125 2).toNat ((k17_2).toNat, (k159_2).toNat, 4, k159_5) := pt_taN (by omega) (by omega) hx159_4.1 hend (fun q => by first | rfl | (exfalso; omega)) (fun q => by first | rfl | (exfalso; omega)) hx159_4.2
                                have o3 := pt_LJ.st (a := k17_2) (b := k159_2) hx17_3 (by omega) (by omega) h17w h103w h104w I17 h17I h103I (by omega) (by omega) (by decide) (by decide) (pw_lToInt (by omega) (by omega)).symm ta
                                have hst2 : pw_g h104 125 2 = 0 := by rw [← h104w, pw_g_ne (by omega), ← h103w, pw_g_ne (by omega), ← h17w, pw_g_ne (by omega)]; exact hx17_4
                                have hsz : pw_g h104 125 3 = pw_g h 125 2 := by rw [← h104w, pw_g_ne (by omega), ← h103w, pw_g_ne (by omega), ← h17w, pw_g_ne (by omega)]; exact hx17_2
                                refine pw_goto E (pc' := 17) rfl (by decide) ?_
                                have he105 : pw_g h104 125 3 = pw_g h103 125 3 := by rw [← h104w]; exact pw_g_ne (by omega)
                                have he106 : pw_g h103 125 3 = pw_g h17 125 3 := by rw [← h103w]; exact pw_g_ne (by omega)
                                exact ih17 _ (by omega) (k17_1 + 1) (k159_2) (some (pw_i (pw_g gh17 126 (k17_2.toNat)))) (some (pw_i k17_2)) (some (.long (Int64.ofInt k159_5))) h104 h104I h104F (by omega) (by omega) (by omega) (by omega) (by omega) (by omega) (by omega) o3 (by omega) rfl
                            · intro hc107
                              change ¬ (x88 = (0 : Int)) at hc107
                              exfalso; omega
                    have he108 : pw_g h17 125 3 = pw_g gh17 125 3 := by rw [← h17w]; exact pw_g_ne (by omega)
                    exact L159 _ (k17_2) (0)  (by omega) (by omega) (by omega) (by omega) (by omega) (by omega) (by omega) (by omega) pt_WD.z rfl
                · skip
                  refine pw_if E (pc' := 240) rfl (by decide) (by omega) (by omega) ?_ ?_
                  · intro hc110
                    change x68 = (0 : Int) at hc110
                    refine pw_ld E (pc' := 241) (st' := [pw_i (pw_g gh17 126 (k17_2.toNat))]) rfl (fun _ => rfl) ?_
                    refine pw_i2l E (pc' := 242) rfl rfl (by omega) (by omega) ?_
                    refine pw_lst E (pc' := 244) (ls' := [some (.ref 141), some (pw_i k17_1), some (pw_i k17_2), some (pw_i (pw_g gh17 126 (k17_2.toNat))), some (pw_i k17_2), some (.long (Int64.ofInt (pw_g gh17 126 (k17_2.toNat)))), none]) rfl rfl rfl rfl ?_
                    refine pw_ld E (pc' := 245) (st' := [.ref 141]) rfl (fun _ => rfl) ?_
                    refine pw_getR (b := 143) h17I E (c := 125) (k := 4) (pc' := 248) rfl rfl rfl rfl rfl rfl rfl ?_
                    refine pw_ld E (pc' := 249) (st' := [pw_i k17_1, .ref 143]) rfl (fun _ => rfl) ?_
                    refine pw_ld E (pc' := 250) (st' := [pw_i (pw_g gh17 126 (k17_2.toNat)), pw_i k17_1, .ref 143]) rfl (fun _ => rfl) ?_
                    refine pw_call (m' := 242) (As := [pw_i (pw_g gh17 126 (k17_2.toNat))]) (rest := [pw_i k17_1, .ref 143]) (ls'' := [some (pw_i (pw_g gh17 126 (k17_2.toNat)))]) (Nat.le_trans (by decide) hd) E rfl (fun _ => pw_iS rfl rfl rfl) (rfl : pm_ent 242 = some (1, 1, 12, 1, pmc_242)) rfl rfl (cm_242_t (pw_dp hd (by decide)) h17I (pw_g gh17 126 (k17_2.toNat)) (by omega) (by omega)) ?_
                    rintro u112 v111 ⟨rfl, x113, rfl, hx113a, hx113b, hx113r⟩
                    refine ⟨_, rfl, ?_⟩
                    show pw X d h17 238 253 [some (.ref 141), some (pw_i k17_1), some (pw_i k17_2), some (pw_i (pw_g gh17 126 (k17_2.toNat))), some (pw_i k17_2), some (.long (Int64.ofInt (pw_g gh17 126 (k17_2.toNat)))), none] [pw_i x113, pw_i k17_1, .ref 143] _
                    change (x113 = 1 ∧ pt_si (pw_g gh17 126 (k17_2.toNat))) ∨ (x113 = 0 ∧ ¬ pt_si (pw_g gh17 126 (k17_2.toNat))) at hx113r
                    rcases (by omega : x113 = 1 ∨ x113 = 0) with hb114 | hb114
                    · skip
                      refine pw_if E (pc' := 260) rfl (by decide) (by omega) (by omega) ?_ ?_
                      · intro hc115
                        change x113 = (0 : Int) at hc115
                        exfalso; omega
                      · intro hc116
                        change ¬ (x113 = (0 : Int)) at hc116
                        have hnle : ¬ pt_le (pw_g h 126 (k17_2).toNat) := by rw [← hT0]; rcases hx20r with q | q <;> first | exact q.2 | omega
                        have hndi : ¬ pt_di (pw_g h 126 (k17_2).toNat) := by rw [← hT0]; rcases hx68r with q | q <;> first | exact q.2 | omega
                        have hsi : pt_si (pw_g h 126 (k17_2).toNat) := by rw [← hT0]; rcases hx113r with q | q <;> first | exact q.2 | omega
                        refine pw_ld E (pc' := 257) (st' := [pw_i 3, pw_i k17_1, .ref 143]) rfl (fun _ => rfl) ?_
                        refine pw_goto E (pc' := 261) rfl (by decide) ?_
                        refine pw_ast0 h17I E (c := 127) (pc' := 262) rfl rfl rfl (by decide) rfl (by decide) (by omega) (by omega) rfl (by omega) (by omega) (by omega) (by omega) rfl ?_
                        intro h117I h117E
                        generalize h117w : pw_w h17 127 (k17_1.toNat) (pw_i 3) = h117 at h117I h117E ⊢
                        have h117F := h17F.tr (h117E.wk (W' := [125, 127, 128, 129, 1002]) (by first | rfl | simp))
                        refine pw_inc E (pc' := 265) (ls' := [some (.ref 141), some (pw_i k17_1), some (pw_i (k17_2 + 1)), some (pw_i (pw_g gh17 126 (k17_2.toNat))), some (pw_i k17_2), some (.long (Int64.ofInt (pw_g gh17 126 (k17_2.toNat)))), none]) rfl rfl rfl rfl ?_
                        refine pw_ld E (pc' := 266) (st' := [.ref 141]) rfl (fun _ => rfl) ?_
                        refine pw_getR (b := 145) h117I E (c := 125) (k := 6) (pc' := 269) rfl rfl rfl rfl rfl rfl rfl ?_
                        refine pw_ld E (pc' := 270) (st' := [pw_i k17_1, .ref 145]) rfl (fun _ => rfl) ?_
                        refine pw_ld E (pc' := 272) (st' := [.long (Int64.ofInt (pw_g gh17 126 (k17_2.toNat))), pw_i k17_1, .ref 145]) rfl (fun _ => rfl) ?_
                        refine pw_last h117I E (c := 129) (pc' := 273) rfl rfl rfl (by decide) (by omega) (by omega) rfl ?_
                        intro h118I h118E
                        generalize h118w : pw_w h117 129 (k17_1.toNat) (.long (Int64.ofInt (pw_g gh17 126 (k17_2.toNat)))) = h118 at h118I h118E ⊢
                        have h118F := h117F.tr (h118E.wk (W' := [125, 127, 128, 129, 1002]) (by first | rfl | simp))
                        refine pw_inc E (pc' := 276) (ls' := [some (.ref 141), some (pw_i (k17_1 + 1)), some (pw_i (k17_2 + 1)), some (pw_i (pw_g gh17 126 (k17_2.toNat))), some (pw_i k17_2), some (.long (Int64.ofInt (pw_g gh17 126 (k17_2.toNat)))), none]) rfl rfl rfl rfl ?_
                        have ta : pt_ta (pw_g h 126) (pw_g h 125 2).toNat ((k17_2).toNat, (k17_2 + 1).toNat, 3, pw_g gh17 126 (k17_2).toNat) := pt_taS (by omega) (by omega) hnb hnle hndi (fun q => by first | rfl | exact absurd q hsi) (fun q => by first | rfl | exact absurd hsi q) (hT0 _)
                        have o3 := pt_LJ.st (a := k17_2) (b := k17_2 + 1) hx17_3 (by omega) (by omega) h17w h117w h118w I17 h17I h117I (by omega) (by omega) (by decide) (by decide) (pw_lToInt (by omega) (by omega)).symm ta
                        have hst2 : pw_g h118 125 2 = 0 := by rw [← h118w, pw_g_ne (by omega), ← h117w, pw_g_ne (by omega), ← h17w, pw_g_ne (by omega)]; exact hx17_4
                        have hsz : pw_g h118 125 3 = pw_g h 125 2 := by rw [← h118w, pw_g_ne (by omega), ← h117w, pw_g_ne (by omega), ← h17w, pw_g_ne (by omega)]; exact hx17_2
                        refine pw_goto E (pc' := 17) rfl (by decide) ?_
                        have he119 : pw_g h118 125 3 = pw_g h117 125 3 := by rw [← h118w]; exact pw_g_ne (by omega)
                        have he120 : pw_g h117 125 3 = pw_g h17 125 3 := by rw [← h117w]; exact pw_g_ne (by omega)
                        have he121 : pw_g h17 125 3 = pw_g gh17 125 3 := by rw [← h17w]; exact pw_g_ne (by omega)
                        exact ih17 _ (by omega) (k17_1 + 1) (k17_2 + 1) (some (pw_i (pw_g gh17 126 (k17_2.toNat)))) (some (pw_i k17_2)) (some (.long (Int64.ofInt (pw_g gh17 126 (k17_2.toNat))))) h118 h118I h118F (by omega) (by omega) (by omega) (by omega) (by omega) (by omega) (by omega) o3 (by omega) rfl
                    · skip
                      refine pw_if E (pc' := 260) rfl (by decide) (by omega) (by omega) ?_ ?_
                      · intro hc123
                        change x113 = (0 : Int) at hc123
                        have hnle : ¬ pt_le (pw_g h 126 (k17_2).toNat) := by rw [← hT0]; rcases hx20r with q | q <;> first | exact q.2 | omega
                        have hndi : ¬ pt_di (pw_g h 126 (k17_2).toNat) := by rw [← hT0]; rcases hx68r with q | q <;> first | exact q.2 | omega
                        have hsi : ¬ pt_si (pw_g h 126 (k17_2).toNat) := by rw [← hT0]; rcases hx113r with q | q <;> first | exact q.2 | omega
                        refine pw_ld E (pc' := 261) (st' := [pw_i 4, pw_i k17_1, .ref 143]) rfl (fun _ => rfl) ?_
                        refine pw_ast0 h17I E (c := 127) (pc' := 262) rfl rfl rfl (by decide) rfl (by decide) (by omega) (by omega) rfl (by omega) (by omega) (by omega) (by omega) rfl ?_
                        intro h124I h124E
                        generalize h124w : pw_w h17 127 (k17_1.toNat) (pw_i 4) = h124 at h124I h124E ⊢
                        have h124F := h17F.tr (h124E.wk (W' := [125, 127, 128, 129, 1002]) (by first | rfl | simp))
                        refine pw_inc E (pc' := 265) (ls' := [some (.ref 141), some (pw_i k17_1), some (pw_i (k17_2 + 1)), some (pw_i (pw_g gh17 126 (k17_2.toNat))), some (pw_i k17_2), some (.long (Int64.ofInt (pw_g gh17 126 (k17_2.toNat)))), none]) rfl rfl rfl rfl ?_
                        refine pw_ld E (pc' := 266) (st' := [.ref 141]) rfl (fun _ => rfl) ?_
                        refine pw_getR (b := 145) h124I E (c := 125) (k := 6) (pc' := 269) rfl rfl rfl rfl rfl rfl rfl ?_
                        refine pw_ld E (pc' := 270) (st' := [pw_i k17_1, .ref 145]) rfl (fun _ => rfl) ?_
                        refine pw_ld E (pc' := 272) (st' := [.long (Int64.ofInt (pw_g gh17 126 (k17_2.toNat))), pw_i k17_1, .ref 145]) rfl (fun _ => rfl) ?_
                        refine pw_last h124I E (c := 129) (pc' := 273) rfl rfl rfl (by decide) (by omega) (by omega) rfl ?_
                        intro h125I h125E
                        generalize h125w : pw_w h124 129 (k17_1.toNat) (.long (Int64.ofInt (pw_g gh17 126 (k17_2.toNat)))) = h125 at h125I h125E ⊢
                        have h125F := h124F.tr (h125E.wk (W' := [125, 127, 128, 129, 1002]) (by first | rfl | simp))
                        refine pw_inc E (pc' := 276) (ls' := [some (.ref 141), some (pw_i (k17_1 + 1)), some (pw_i (k17_2 + 1)), some (pw_i (pw_g gh17 126 (k17_2.toNat))), some (pw_i k17_2), some (.long (Int64.ofInt (pw_g gh17 126 (k17_2.toNat)))), none]) rfl rfl rfl rfl ?_
                        have ta : pt_ta (pw_g h 126) (pw_g h 125 2).toNat ((k17_2).toNat, (k17_2 + 1).toNat, 4, pw_g gh17 126 (k17_2).toNat) := pt_taS (by omega) (by omega) hnb hnle hndi (fun q => by first | rfl | exact absurd q hsi) (fun q => by first | rfl | exact absurd hsi q) (hT0 _)
                        have o3 := pt_LJ.st (a := k17_2) (b := k17_2 + 1) hx17_3 (by omega) (by omega) h17w h124w h125w I17 h17I h124I (by omega) (by omega) (by decide) (by decide) (pw_lToInt (by omega) (by omega)).symm ta
                        have hst2 : pw_g h125 125 2 = 0 := by rw [← h125w, pw_g_ne (by omega), ← h124w, pw_g_ne (by omega), ← h17w, pw_g_ne (by omega)]; exact hx17_4
                        have hsz : pw_g h125 125 3 = pw_g h 125 2 := by rw [← h125w, pw_g_ne (by omega), ← h124w, pw_g_ne (by omega), ← h17w, pw_g_ne (by omega)]; exact hx17_2
                        refine pw_goto E (pc' := 17) rfl (by decide) ?_
                        have he126 : pw_g h125 125 3 = pw_g h124 125 3 := by rw [← h125w]; exact pw_g_ne (by omega)
                        have he127 : pw_g h124 125 3 = pw_g h17 125 3 := by rw [← h124w]; exact pw_g_ne (by omega)
                        have he128 : pw_g h17 125 3 = pw_g gh17 125 3 := by rw [← h17w]; exact pw_g_ne (by omega)
                        exact ih17 _ (by omega) (k17_1 + 1) (k17_2 + 1) (some (pw_i (pw_g gh17 126 (k17_2.toNat)))) (some (pw_i k17_2)) (some (.long (Int64.ofInt (pw_g gh17 126 (k17_2.toNat))))) h125 h125I h125F (by omega) (by omega) (by omega) (by omega) (by omega) (by omega) (by omega) o3 (by omega) rfl
                      · intro hc129
                        change ¬ (x113 = (0 : Int)) at hc129
                        exfalso; omega
                  · intro hc130
                    change ¬ (x68 = (0 : Int)) at hc130
                    exfalso; omega
              · intro hc131
                change ¬ (x20 = (0 : Int)) at hc131
                exfalso; omega
          · intro hc132
            change ¬ (pw_g gh17 126 (k17_2.toNat) ≠ (32 : Int)) at hc132
            refine pw_inc E (pc' := 47) (ls' := [some (.ref 141), some (pw_i k17_1), some (pw_i (k17_2 + 1)), some (pw_i (pw_g gh17 126 (k17_2.toNat))), k17_4, k17_5, none]) rfl rfl rfl rfl ?_
            have o3 := hx17_3.bl (by omega) (by rw [← hT0]; unfold pt_bl; omega)
            refine pw_goto E (pc' := 17) rfl (by decide) ?_
            exact ih17 _ (by omega) (k17_1) (k17_2 + 1) (some (pw_i (pw_g gh17 126 (k17_2.toNat)))) k17_4 k17_5 gh17 I17 E17 (by omega) (by omega) (by omega) (by omega) (by omega) (by omega) (by omega) o3 (by omega) rfl
  have he133 : pw_g h3 125 3 = pw_g h2 125 3 := by rw [← h3w]; exact pw_g_ne (by omega)
  have he134 : pw_g h2 125 3 = pw_g h 125 2 := by rw [← h2w]; exact pw_g_eq (c := 125) (k := 3) I rfl rfl (by omega) (by omega)
  exact L17 _ (0) (0) (none) (none) (none) h3 h3I h3F (by omega) (by omega) (by omega) (by omega) (by omega) (by omega) (by rw [← h3w, pw_g_ne (by omega), ← h2w]; exact pw_g_eq (c := 125) (k := 3) I rfl rfl (by omega) (by omega)) pt_LJ.z (by rw [← h3w]; exact pw_g_eq (c := 125) (k := 2) h2I rfl rfl (by omega) (by omega)) rfl
end
section
/-! texts: only the tokens up to the end are read; a text is read line by line -/
def pt_AG (n : Nat) (K V P K' V' P' : Nat → Int) : Prop := (∀ i : Nat, i < n → K i = K' i ∧ V i = V' i ∧ P i = P' i) ∧ K n = 0 ∧ K' n = 0 ∧ P n = P' n
theorem pt_es_k0 {F : Int → Int} {V : Int} {s : pt_St} : pt_es F 0 V s = (1, (if s.1 = 0 then (0 : Int) else 1), s.2) := by
  obtain ⟨a, S, d, o, c⟩ := s
  unfold pt_es
  dsimp only
  by_cases q : a = 0
  · rw [if_pos q, if_pos q]
    unfold pt_eo
    rw [if_pos (by omega)]
  · rw [if_neg q, if_neg q]
    unfold pt_er
    have e : pt_opn 0 V = -1 := by unfold pt_opn; rw [if_neg (by decide), if_neg (by decide)]
    rw [if_neg (by omega), if_neg (by omega), if_pos e]
theorem pt_rn_ag {F : Int → Int} {n : Nat} {K V P K' V' P' : Nat → Int} (A : pt_AG n K V P K' V' P') : ∀ (m i : Nat) (s : pt_St), i ≤ n → pt_rn F K V m i s = pt_rn F K' V' m i s ∧ (pt_rn F K V m i s).2.1 ≤ n ∧ ((pt_rn F K V m i s).1 = 9 → (pt_rn F K V m i s).2.1 < n) := by
  intro m
  induction m with
  | zero => intro i s hi; exact ⟨rfl, hi, fun q => absurd (show (0 : Int) = 9 from q) (by decide)⟩
  | succ m ih =>
    intro i s hi
    by_cases q : i < n
    · obtain ⟨a1, a2, -⟩ := A.1 i q
      by_cases z : (pt_es F (K i) (V i) s).1 = 0
      · have e : pt_rn F K V (m + 1) i s = pt_rn F K V m (i + 1) (pt_es F (K i) (V i) s).2 := if_pos z
        have z' : (pt_es F (K' i) (V' i) s).1 = 0 := by rw [← a1, ← a2]; exact z
        have e' : pt_rn F K' V' (m + 1) i s = pt_rn F K' V' m (i + 1) (pt_es F (K' i) (V' i) s).2 := if_pos z'
        rw [e, e', ← a1, ← a2]
        exact ih _ _ (by omega)
      · have e : pt_rn F K V (m + 1) i s = ((pt_es F (K i) (V i) s).1, i, (pt_es F (K i) (V i) s).2) := if_neg z
        have z' : ¬ (pt_es F (K' i) (V' i) s).1 = 0 := by rw [← a1, ← a2]; exact z
        have e' : pt_rn F K' V' (m + 1) i s = ((pt_es F (K' i) (V' i) s).1, i, (pt_es F (K' i) (V' i) s).2) := if_neg z'
        rw [e, e', ← a1, ← a2]
        exact ⟨rfl, hi, fun _ => q⟩
    · have hi : i = n := by omega
      subst hi
      have k := A.2.1
      have k' := A.2.2.1
      have z : ¬ (pt_es F (K i) (V i) s).1 = 0 := by rw [k, pt_es_k0]; exact show ¬ (1 : Int) = 0 by decide
      have z' : ¬ (pt_es F (K' i) (V' i) s).1 = 0 := by rw [k', pt_es_k0]; exact show ¬ (1 : Int) = 0 by decide
      have e : pt_rn F K V (m + 1) i s = ((pt_es F (K i) (V i) s).1, i, (pt_es F (K i) (V i) s).2) := if_neg z
      have e' : pt_rn F K' V' (m + 1) i s = ((pt_es F (K' i) (V' i) s).1, i, (pt_es F (K' i) (V' i) s).2) := if_neg z'
      rw [e, e', k, k', pt_es_k0, pt_es_k0]
      exact ⟨rfl, Nat.le_refl _, fun q => absurd (show (1 : Int) = 9 from q) (by decide)⟩
theorem pt_es_v {F : Int → Int} {K V : Int} {s : pt_St} : (pt_es F K V s).1 = 0 ∨ (pt_es F K V s).1 = 1 ∨ (pt_es F K V s).1 = 5 ∨ (pt_es F K V s).1 = 9 := by
  obtain ⟨a, S, d, o, c⟩ := s
  unfold pt_es
  dsimp only
  by_cases q : a = 0
  · rw [if_pos q]
    unfold pt_eo
    by_cases c1 : ¬ ((K = 1 ∧ (V = 19741 ∨ 0 ≤ F V)) ∨ (K = 3 ∧ V = 40) ∨ K = 2)
    · rw [if_pos c1]; exact Or.inr (Or.inl rfl)
    rw [if_neg c1]
    by_cases c2 : 5 ≤ d
    · rw [if_pos c2]; exact Or.inr (Or.inr (Or.inl rfl))
    rw [if_neg c2]
    by_cases c3 : K = 1 ∧ V = 19741
    · rw [if_pos c3]; exact Or.inl rfl
    rw [if_neg c3]
    by_cases c4 : K = 3
    · rw [if_pos c4]; exact Or.inl rfl
    · rw [if_neg c4]; exact Or.inl rfl
  · rw [if_neg q]
    unfold pt_er
    by_cases c1 : K = 3 ∧ V = 59
    · rw [if_pos c1]
      by_cases c2 : 0 < o
      · rw [if_pos c2]; exact Or.inr (Or.inl rfl)
      · rw [if_neg c2]; exact Or.inr (Or.inr (Or.inr rfl))
    rw [if_neg c1]
    by_cases c2 : K = 3 ∧ V = 41
    · rw [if_pos c2]
      by_cases c3 : o ≤ 0
      · rw [if_pos c3]; exact Or.inr (Or.inl rfl)
      · rw [if_neg c3]; exact Or.inl rfl
    rw [if_neg c2]
    by_cases c3 : pt_opn K V = -1
    · rw [if_pos c3]; exact Or.inr (Or.inl rfl)
    rw [if_neg c3]
    by_cases c4 : pt_rk (pt_opn K V) = 2 ∧ pt_tr (pt_rl 3 S c).1 = 2
    · rw [if_pos c4]; exact Or.inr (Or.inl rfl)
    · rw [if_neg c4]; exact Or.inl rfl
/-- it stops before the tokens end, and not before where it began -/
theorem pt_rn_st {F : Int → Int} {n : Nat} {K V : Nat → Int} (k0 : K n = 0) : ∀ (m i : Nat) (s : pt_St), i ≤ n → n < i + m → ((pt_rn F K V m i s).1 = 1 ∨ (pt_rn F K V m i s).1 = 5 ∨ (pt_rn F K V m i s).1 = 9) ∧ i ≤ (pt_rn F K V m i s).2.1 := by
  intro m
  induction m with
  | zero => intro i s h1 h2; omega
  | succ m ih =>
    intro i s h1 h2
    by_cases z : (pt_es F (K i) (V i) s).1 = 0
    · have e : pt_rn F K V (m + 1) i s = pt_rn F K V m (i + 1) (pt_es F (K i) (V i) s).2 := if_pos z
      have l : i < n := by
        by_cases q : i = n
        · rw [q, k0, pt_es_k0] at z
          exact absurd (show (1 : Int) = 0 from z) (by decide)
        · omega
      rw [e]
      obtain ⟨a, b⟩ := ih (i + 1) (pt_es F (K i) (V i) s).2 (by omega) (by omega)
      exact ⟨a, by omega⟩
    · have e : pt_rn F K V (m + 1) i s = ((pt_es F (K i) (V i) s).1, i, (pt_es F (K i) (V i) s).2) := if_neg z
      rw [e]
      exact ⟨pt_es_v.resolve_left z, Nat.le_refl _⟩
theorem pt_E_gt {F : Int → Int} {n i : Nat} {K V P : Nat → Int} (k0 : K n = 0) (n0 : n ≤ 1000) (p0 : ∀ j : Nat, 0 ≤ P j) (h : i ≤ n) (z : (pt_E F K V P i).1 = 0) : (i : Int) < (pt_E F K V P i).2.1 := by
  obtain ⟨a, b⟩ := pt_rn_st (F := F) (V := V) k0 1100 i pt_s0 h (by omega)
  unfold pt_E at z ⊢
  by_cases q : (pt_rn F K V 1100 i pt_s0).1 = 9
  · rw [if_pos q]
    show (i : Int) < ((pt_rn F K V 1100 i pt_s0).2.1 : Int) + 1
    omega
  · rw [if_neg q] at z
    have z : (pt_rn F K V 1100 i pt_s0).1 + 16 * P (pt_rn F K V 1100 i pt_s0).2.1 = 0 := z
    have := p0 (pt_rn F K V 1100 i pt_s0).2.1
    omega
theorem pt_line_gt {wr : Int} {n i : Nat} {K V P : Nat → Int} {th : Int → Int} (k0 : K n = 0) (n0 : n ≤ 1000) (p0 : ∀ j : Nat, 0 ≤ P j) (h : i < n) (z : (pt_line wr K V P th i).1 = 0) : (i : Int) < (pt_line wr K V P th i).2.1 := by
  unfold pt_line at z ⊢
  generalize pt_wo wr K V i = x at z ⊢
  unfold pt_ln2 at z ⊢
  have q0 := p0 i
  have q1 := p0 (i + 1)
  have q2 := p0 (i + 2)
  by_cases c1 : x < 0
  · rw [if_pos c1] at z; exact absurd z (show ¬ (1 + 16 * P i = 0) by omega)
  rw [if_neg c1] at z ⊢
  by_cases c2 : th x ≠ 0
  · rw [if_pos c2] at z; exact absurd z (show ¬ (3 + 16 * P i = 0) by omega)
  rw [if_neg c2] at z ⊢
  by_cases c3 : pt_FO wr x = -1
  · rw [if_pos c3] at z ⊢
    have := pt_E_gt k0 n0 p0 (i := i + 1) (by omega) z
    show (i : Int) < (pt_E (pt_FF wr) K V P (i + 1)).2.1
    omega
  rw [if_neg c3] at z ⊢
  by_cases c4 : pt_FO wr x = -2
  · rw [if_pos c4] at z ⊢
    by_cases c5 : K (i + 1) = 1 ∧ V (i + 1) = 1176170
    · rw [if_pos c5] at z ⊢
      have l : i + 1 ≠ n := fun q => by rw [q, k0] at c5; exact absurd c5.1 (by decide)
      have := pt_E_gt k0 n0 p0 (i := i + 2) (by omega) z
      show (i : Int) < (pt_E (pt_FF wr) K V P (i + 2)).2.1
      omega
    · rw [if_neg c5] at z; exact absurd z (show ¬ (1 + 16 * P (i + 1) = 0) by omega)
  rw [if_neg c4] at z ⊢
  by_cases c5 : K (i + 1) ≠ 2
  · rw [if_pos c5] at z; exact absurd z (show ¬ (1 + 16 * P (i + 1) = 0) by omega)
  rw [if_neg c5] at z ⊢
  by_cases c6 : pt_FO wr x < V (i + 1)
  · rw [if_pos c6] at z; exact absurd z (show ¬ (4 + 16 * P (i + 1) = 0) by omega)
  rw [if_neg c6] at z ⊢
  by_cases c7 : K (i + 2) = 3 ∧ V (i + 2) = 59
  · rw [if_pos c7]
    show (i : Int) < (i : Int) + 3
    omega
  · rw [if_neg c7] at z; exact absurd z (show ¬ (1 + 16 * P (i + 2) = 0) by omega)
theorem pt_AG.p {n i : Nat} {K V P K' V' P' : Nat → Int} (A : pt_AG n K V P K' V' P') (h : i ≤ n) : P i = P' i := by
  by_cases q : i = n
  · rw [q]; exact A.2.2.2
  · exact (A.1 i (by omega)).2.2
theorem pt_AG.k {n i : Nat} {K V P K' V' P' : Nat → Int} (A : pt_AG n K V P K' V' P') (h : i ≤ n) : K i = K' i := by
  by_cases q : i = n
  · rw [q, A.2.1, A.2.2.1]
  · exact (A.1 i (by omega)).1
theorem pt_AG.lt {n i : Nat} {K V P K' V' P' : Nat → Int} (A : pt_AG n K V P K' V' P') (h : i ≤ n) (k : K i ≠ 0) : i < n := by
  by_cases q : i = n
  · rw [q] at k; exact absurd A.2.1 k
  · omega
theorem pt_E_ag {F : Int → Int} {n i : Nat} {K V P K' V' P' : Nat → Int} (A : pt_AG n K V P K' V' P') (h : i ≤ n) : pt_E F K V P i = pt_E F K' V' P' i ∧ (pt_E F K V P i).2.1 ≤ n := by
  obtain ⟨a, b, c⟩ := pt_rn_ag (F := F) A 1100 i pt_s0 h
  unfold pt_E
  rw [← a]
  by_cases q : (pt_rn F K V 1100 i pt_s0).1 = 9
  · rw [if_pos q, if_pos q]
    have := c q
    exact ⟨rfl, by show ((pt_rn F K V 1100 i pt_s0).2.1 : Int) + 1 ≤ n; omega⟩
  · rw [if_neg q, if_neg q, A.p b]
    exact ⟨rfl, by show (0 : Int) ≤ n; omega⟩
theorem pt_line_ag {wr : Int} {n i : Nat} {K V P K' V' P' : Nat → Int} {th : Int → Int} (A : pt_AG n K V P K' V' P') (h : i < n) : pt_line wr K V P th i = pt_line wr K' V' P' th i ∧ (pt_line wr K V P th i).2.1 ≤ n := by
  obtain ⟨a1, a2, a3⟩ := A.1 i h
  have w : pt_wo wr K V i = pt_wo wr K' V' i := by unfold pt_wo; rw [a1, a2]
  unfold pt_line
  rw [← w]
  generalize pt_wo wr K V i = x
  unfold pt_ln2
  rw [← a3]
  by_cases c1 : x < 0
  · rw [if_pos c1, if_pos c1]; exact ⟨rfl, by show (0 : Int) ≤ n; omega⟩
  rw [if_neg c1, if_neg c1]
  by_cases c2 : th x ≠ 0
  · rw [if_pos c2, if_pos c2]; exact ⟨rfl, by show (0 : Int) ≤ n; omega⟩
  rw [if_neg c2, if_neg c2]
  have k1 := A.k (i := i + 1) (by omega)
  have p1 := A.p (i := i + 1) (by omega)
  by_cases c3 : pt_FO wr x = -1
  · rw [if_pos c3, if_pos c3]
    obtain ⟨u, v⟩ := pt_E_ag (F := pt_FF wr) A (i := i + 1) (by omega)
    rw [← u]
    exact ⟨rfl, v⟩
  rw [if_neg c3, if_neg c3]
  by_cases c4 : pt_FO wr x = -2
  · rw [if_pos c4, if_pos c4]
    by_cases c5 : K (i + 1) = 1 ∧ V (i + 1) = 1176170
    · have l := A.lt (i := i + 1) (by omega) (by omega)
      have c5' : K' (i + 1) = 1 ∧ V' (i + 1) = 1176170 := by rw [← (A.1 _ l).1, ← (A.1 _ l).2.1]; exact c5
      rw [if_pos c5, if_pos c5']
      obtain ⟨u, v⟩ := pt_E_ag (F := pt_FF wr) A (i := i + 2) (by omega)
      rw [← u]
      exact ⟨rfl, v⟩
    · have c5' : ¬ (K' (i + 1) = 1 ∧ V' (i + 1) = 1176170) := fun q => by
        have l := A.lt (i := i + 1) (by omega) (by omega)
        exact c5 (by rw [(A.1 _ l).1, (A.1 _ l).2.1]; exact q)
      rw [if_neg c5, if_neg c5', p1]
      exact ⟨rfl, by show (0 : Int) ≤ n; omega⟩
  rw [if_neg c4, if_neg c4]
  by_cases c5 : K (i + 1) ≠ 2
  · have c5' : K' (i + 1) ≠ 2 := by rw [← k1]; exact c5
    rw [if_pos c5, if_pos c5', p1]
    exact ⟨rfl, by show (0 : Int) ≤ n; omega⟩
  have l := A.lt (i := i + 1) (by omega) (by omega)
  have v1 := (A.1 _ l).2.1
  have c5' : ¬ K' (i + 1) ≠ 2 := by rw [← k1]; exact c5
  rw [if_neg c5, if_neg c5', ← v1, ← p1]
  by_cases c6 : pt_FO wr x < V (i + 1)
  · rw [if_pos c6, if_pos c6]; exact ⟨rfl, by show (0 : Int) ≤ n; omega⟩
  rw [if_neg c6, if_neg c6]
  have k2 := A.k (i := i + 2) (by omega)
  have p2 := A.p (i := i + 2) (by omega)
  by_cases c7 : K (i + 2) = 3 ∧ V (i + 2) = 59
  · have l2 := A.lt (i := i + 2) (by omega) (by omega)
    have c7' : K' (i + 2) = 3 ∧ V' (i + 2) = 59 := by rw [← k2, ← (A.1 _ l2).2.1]; exact c7
    rw [if_pos c7, if_pos c7']
    exact ⟨rfl, by show (i : Int) + 3 ≤ n; omega⟩
  · have c7' : ¬ (K' (i + 2) = 3 ∧ V' (i + 2) = 59) := fun q => by
      have l2 := A.lt (i := i + 2) (by omega) (by omega)
      exact c7 (by rw [k2, (A.1 _ l2).2.1]; exact q)
    rw [if_neg c7, if_neg c7', p2]
    exact ⟨rfl, by show (0 : Int) ≤ n; omega⟩
theorem pt_text_ag {wr : Int} {n : Nat} {K V P K' V' P' : Nat → Int} (A : pt_AG n K V P K' V' P') : ∀ (m : Nat) (i : Int) (th : Int → Int) (C : Int → List Int) (N : Int → Int), i ≤ n → pt_text wr K V P m i th C N = pt_text wr K' V' P' m i th C N := by
  intro m
  induction m with
  | zero => intro i th C N _; rfl
  | succ m ih =>
    intro i th C N hi
    have k := A.k (i := i.toNat) (by omega)
    by_cases c1 : K i.toNat = 0
    · have e : pt_text wr K V P (m + 1) i th C N = (0, th, C, N) := if_pos c1
      have e' : pt_text wr K' V' P' (m + 1) i th C N = (0, th, C, N) := if_pos (by rw [← k]; exact c1)
      rw [e, e']
    · have l := A.lt (i := i.toNat) (by omega) c1
      obtain ⟨u, v⟩ := pt_line_ag (wr := wr) (th := th) A l
      have c1' : ¬ K' i.toNat = 0 := by rw [← k]; exact c1
      unfold pt_text
      rw [if_neg c1, if_neg c1', ← u]
      by_cases c2 : (pt_line wr K V P th i.toNat).1 ≠ 0
      · rw [if_pos c2, if_pos c2]
      · rw [if_neg c2, if_neg c2]
        exact ih _ _ _ _ v
/-- how far it has come: what is still to be read gives all -/
abbrev pt_TR := Int × (Int → Int) × (Int → List Int) × (Int → Int)
def pt_TI (wr : Int) (K V P : Nat → Int) (n : Nat) (i : Int) (th : Int → Int) (C : Int → List Int) (N : Int → Int) (R : pt_TR) : Prop := ∃ m : Nat, (n : Int) - i < m ∧ pt_text wr K V P m i th C N = R
theorem pt_TI.st {wr : Int} {K V P : Nat → Int} {n : Nat} {i : Int} {th : Int → Int} {C : Int → List Int} {N : Int → Int} {R : pt_TR} (H : pt_TI wr K V P n i th C N R) (hi : i ≤ n) (hk : K i.toNat ≠ 0) : ((pt_line wr K V P th i.toNat).1 ≠ 0 → R = ((pt_line wr K V P th i.toNat).1, th, C, N)) ∧ ((pt_line wr K V P th i.toNat).1 = 0 → i < (pt_line wr K V P th i.toNat).2.1 → pt_TI wr K V P n (pt_line wr K V P th i.toNat).2.1 (fun k => if k = (pt_line wr K V P th i.toNat).2.2.1 then 1 else th k) (fun k => if k = (pt_line wr K V P th i.toNat).2.2.1 then (pt_line wr K V P th i.toNat).2.2.2.1 else C k) (fun k => if k = (pt_line wr K V P th i.toNat).2.2.1 then (pt_line wr K V P th i.toNat).2.2.2.2 else N k) R) := by
  obtain ⟨m, a, b⟩ := H
  obtain ⟨m, rfl⟩ : ∃ m', m = m' + 1 := ⟨m - 1, by omega⟩
  unfold pt_text at b
  rw [if_neg hk] at b
  refine ⟨fun q => ?_, fun q l => ?_⟩
  · rw [if_pos q] at b
    exact b.symm
  · rw [if_neg (fun z => z q)] at b
    exact ⟨m, by omega, b⟩
theorem pt_TI.en {wr : Int} {K V P : Nat → Int} {n : Nat} {i : Int} {th : Int → Int} {C : Int → List Int} {N : Int → Int} {R : pt_TR} (H : pt_TI wr K V P n i th C N R) (hi : i ≤ n) (hk : K i.toNat = 0) : R = (0, th, C, N) := by
  obtain ⟨m, a, b⟩ := H
  obtain ⟨m, rfl⟩ : ∃ m', m = m' + 1 := ⟨m - 1, by omega⟩
  unfold pt_text at b
  rw [if_pos hk] at b
  exact b.symm
end
section
/-! texts: a law is taken -/
theorem pt_e2 {W : List Nat} {g g' : pm_H} (E : pw_E W g g') (hn : W.contains 1002 = false) : pw_g g' 125 2 = pw_g g 125 2 := by
  unfold pw_g
  rw [E.2.2 2 (Or.inl rfl) (fun hm => by rw [List.contains_iff_mem.mpr hm] at hn; cases hn)]
def pt_WK (g : pm_H) : Prop := (∀ w : Nat, w < 28 → pw_gm g 130 w = pt_wc w) ∧ ∀ k : Nat, k < 9 → pw_g g 148 k = pt_wf k
theorem pt_WK.E {W : List Nat} {g g' : pm_H} (I : pw_I g) (E : pw_E W g g') (H : pt_WK g) (hn : (W.contains 130 || W.contains 148) = false) : pt_WK g' := by
  obtain ⟨h1, h2⟩ := Bool.or_eq_false_iff.mp hn
  exact ⟨fun w hw => (pw_Egm (c := 130) I E rfl h1 w).trans (H.1 w hw), fun k hk => (pw_Eg (c := 148) I E rfl h2 k).trans (H.2 k hk)⟩
/-- what a text says -/
def pt_TX (wr : Int) (L : List pt_tok) (z : Nat) : pt_TR := pt_text wr (pt_K L) (pt_V L) (pt_P L z) (L.length + 1) 0 (fun _ => 0) (fun _ => []) (fun _ => 0)
theorem pt_TK.mk {W : List Nat} {g g' : pm_H} {wr : Int} (I : pw_I g) (E : pw_E W g g') (H : pt_WK g) (hn : ((W.contains 127 || W.contains 129) || (W.contains 128 || (W.contains 130 || W.contains 148))) = false) (h45 : pw_g g' 125 45 = wr) : pt_TK (pw_g g 127) (pw_gm g 129) (pw_g g 128) wr g' := by
  obtain ⟨h1, h2⟩ := Bool.or_eq_false_iff.mp hn
  obtain ⟨h1, h3⟩ := Bool.or_eq_false_iff.mp h1
  obtain ⟨h2, h4⟩ := Bool.or_eq_false_iff.mp h2
  have K := H.E I E h4
  exact ⟨funext (fun j => pw_Eg (c := 127) I E rfl h1 j), funext (fun j => pw_Egm (c := 129) I E rfl h3 j), funext (fun j => pw_Eg (c := 128) I E rfl h2 j), K.1, K.2, h45⟩
theorem pt_AG.of {L : List pt_tok} {g : pm_H} {z : Int} (H : pt_LI L g) (k0 : pw_g g 127 L.length = 0) (p0 : pw_g g 128 L.length = z) (z0 : 0 ≤ z) : pt_AG L.length (pw_g g 127) (pw_gm g 129) (pw_g g 128) (pt_K L) (pt_V L) (pt_P L z.toNat) := by
  refine ⟨fun i hi => ?_, k0, ?_, ?_⟩
  · obtain ⟨a, b, c⟩ := H i hi
    refine ⟨a, b, ?_⟩
    unfold pt_P
    rw [if_pos hi]
    exact c
  · unfold pt_K
    rw [pt_gt2 (Nat.le_refl _)]
  · unfold pt_P
    rw [if_neg (Nat.lt_irrefl _), p0]
    omega
/-- numerals are small -/
theorem pt_ta.nv {T : Nat → Int} {z : Nat} {t : pt_tok} (h : pt_ta T z t) (k : t.2.2.1 = 2) : 0 ≤ t.2.2.2 ∧ t.2.2.2 ≤ 9999 := by
  obtain ⟨h1, h2, h3, h4⟩ := h
  rcases h4 with ⟨-, -, -, c4, c5, -⟩ | ⟨-, c2, -, c4, c5, c6⟩ | ⟨-, -, -, c4, c5, -⟩
  · exfalso
    by_cases q : 8 < t.2.1 - t.1
    · rw [c4 q] at k; exact absurd k (by decide)
    · rw [c5 (by omega)] at k; exact absurd k (by decide)
  · have B := pt_hdB (T := T) (s := t.1) (min 4 (t.2.1 - t.1)) (fun j hj => c2 _ (by omega) (by omega))
    have D : (10 : Int) ^ (min 4 (t.2.1 - t.1)) ≤ 10000 := by
      have : ∀ n : Nat, n ≤ 4 → (10 : Int) ^ n ≤ 10000 := by decide
      exact this _ (by omega)
    rw [c6]
    omega
  · exfalso
    by_cases q : pt_si (T t.1)
    · rw [c4 q] at k; exact absurd k (by decide)
    · rw [c5 q] at k; exact absurd k (by decide)
theorem pt_sg.nv {T : Nat → Int} {z e : Nat} : ∀ {L : List pt_tok} {k : Nat}, pt_sg T z k L e → ∀ j : Nat, pt_K L j = 2 → 0 ≤ pt_V L j ∧ pt_V L j ≤ 9999
  | [], _, _, _, q => absurd (show (0 : Int) = 2 from q) (by decide)
  | _ :: _, _, h, 0, q => h.2.1.nv q
  | _ :: _, _, h, j + 1, q => pt_sg.nv h.2.2 j q
def pt_SB (g : pm_H) (B b : Int) (c : List Int) : Prop := pt_cl g (B + b).toNat c ∧ pw_g g 146 (B + b + c.length).toNat = 0 ∧ b + c.length < 1100
def pt_MS (g : pm_H) (l : Int) (th : Int → Int) (C : Int → List Int) : Prop := ∀ k : Int, 0 ≤ k → k ≤ 3 → (th k = 1 ∧ 0 ≤ pw_g g 145 (4 * l + k).toNat ∧ pt_SB g (1100 * l) (pw_g g 145 (4 * l + k).toNat) (C k)) ∨ (th k = 0 ∧ pw_g g 145 (4 * l + k).toNat < 0)
/-- the lines and codes of the others stay -/
def pt_LO (h g : pm_H) (l : Int) : Prop := (∀ j : Nat, j < 16 → ((j : Int) < 4 * l ∨ 4 * l + 4 ≤ j) → pw_g g 145 j = pw_g h 145 j) ∧ (∀ j : Nat, (j < 4400 ∨ 5500 ≤ j) → ((j : Int) < 1100 * l ∨ 1100 * l + 1100 ≤ j) → pw_g g 146 j = pw_g h 146 j ∧ pw_g g 147 j = pw_g h 147 j) ∧ ∀ j : Nat, pw_g g 157 j = pw_g h 157 j
theorem pt_SG.to {g g' : pm_H} {l b : Int} {c : List Int} (H : pt_SG g b c) (h0 : 0 ≤ l) (b0 : 0 ≤ b) (hc : pw_g g 125 32 ≤ 1100) (h7 : pw_KC g g' l (pw_g g 125 32)) : pt_SB g' (1100 * l) b c := by
  obtain ⟨a3, a4, a5⟩ := H
  refine ⟨a3.cg (fun j hj => ?_), ?_, by omega⟩
  · have e := h7.1 (b.toNat + j) (by omega)
    rw [show (1100 * l + b).toNat + j = (1100 * l).toNat + (b.toNat + j) by omega, show (4400 + b).toNat + j = 4400 + (b.toNat + j) by omega]
    exact e
  · have e := (h7.1 (b.toNat + c.length) (by omega)).1
    rw [show (1100 * l + b + c.length).toNat = (1100 * l).toNat + (b.toNat + c.length) by omega, e, show 4400 + (b.toNat + c.length) = (4400 + b + c.length).toNat by omega]
    exact a4
theorem pt_ML.law {g g' : pm_H} {th : Int → Int} {C : Int → List Int} {l : Int} (H : pt_ML g th C) (h0 : 0 ≤ l) (h3 : l ≤ 3) (hc : pw_g g 125 32 ≤ 1100) (h5 : ∀ k : Nat, k < 4 → pw_g g' 145 ((4 * l).toNat + k) = pw_g g 145 (16 + k)) (h7 : pw_KC g g' l (pw_g g 125 32)) : pt_MS g' l th C := by
  intro k k0 k3
  have e := h5 k.toNat (by omega)
  rw [show (4 * l).toNat + k.toNat = (4 * l + k).toNat by omega, show 16 + k.toNat = (16 + k).toNat by omega] at e
  rw [e]
  rcases H k k0 k3 with ⟨a1, a2, a3⟩ | a
  · exact Or.inl ⟨a1, a2, a3.to h0 a2 hc h7⟩
  · exact Or.inr a
/-- how the reading of lines stands -/
def pt_RS (wr : Int) (K V P : Nat → Int) (n : Nat) (R : pt_TR) (g : pm_H) : Prop := (pw_g g 125 8 = 0 ∧ ∃ (th : Int → Int) (C : Int → List Int) (N : Int → Int), pt_TI wr K V P n (pw_g g 125 7) th C N R ∧ pt_ML g th C) ∨ (pw_g g 125 8 ≠ 0 ∧ R.1 = pw_g g 125 8)
theorem pt_RS.z {wr : Int} {K V P : Nat → Int} {n : Nat} {g : pm_H} (z8 : pw_g g 125 8 = 0) (z7 : pw_g g 125 7 = 0) (a0 : pw_g g 145 16 = -1) (a1 : pw_g g 145 17 = -1) (a2 : pw_g g 145 18 = -1) (a3 : pw_g g 145 19 = -1) : pt_RS wr K V P n (pt_text wr K V P (n + 1) 0 (fun _ => 0) (fun _ => []) (fun _ => 0)) g := by
  refine Or.inl ⟨z8, fun _ => 0, fun _ => [], fun _ => 0, ⟨n + 1, by omega, by rw [z7]⟩, fun k k0 k3 => Or.inr ⟨rfl, ?_⟩⟩
  rcases (by omega : k = 0 ∨ k = 1 ∨ k = 2 ∨ k = 3) with rfl | rfl | rfl | rfl
  · exact (show pw_g g 145 16 < 0 by omega)
  · exact (show pw_g g 145 17 < 0 by omega)
  · exact (show pw_g g 145 18 < 0 by omega)
  · exact (show pw_g g 145 19 < 0 by omega)
end
