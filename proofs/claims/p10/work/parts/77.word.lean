/-! a letter, a digit, a word: how far the tokens go on (printed by wip/tool/reader8.py) -/
set_option maxHeartbeats 4000000 in
theorem cm_103_24 {X : List (Nat × List Value)} {d : Nat} {h : pm_H} (hd : 1 ≤ d) (I : pw_I h) (ch : Int) (hch1 : 0 ≤ ch) (hch2 : ch ≤ 65535) : pw X d h 103 0 [some (pw_i ch)] [] (fun h' v => h = h' ∧ ∃ a : Int, v = .inl (some (pw_i a)) ∧ 0 ≤ a ∧ a ≤ 1 ∧ ((a = 1 ∧ 97 ≤ ch ∧ ch ≤ 122) ∨ (a = 0 ∧ ¬ (97 ≤ ch ∧ ch ≤ 122)))) := by
  have E : pm_ent 103 = some (1, 1, 9, 1, pmc_103) := rfl
  refine pw_ld E (pc' := 1) (st' := [pw_i ch]) rfl (fun _ => rfl) ?_
  refine pw_bip E (pc' := 3) rfl rfl (by decide) ?_
  refine pw_if2 E (pc' := 16) rfl (by decide) (by omega) (by omega) (by decide) (by decide) ?_ ?_
  · intro hc1
    have hc1 : ch < (97 : Int) := hc1
    refine pw_ld E (pc' := 17) (st' := [pw_i 0]) rfl (fun _ => rfl) ?_
    refine pw_zret E rfl (by omega) ?_
    exact ⟨rfl, ⟨_, rfl, by omega, by omega, by omega⟩⟩
  · intro hc2
    have hc2 : ¬ (ch < (97 : Int)) := hc2
    refine pw_ld E (pc' := 7) (st' := [pw_i ch]) rfl (fun _ => rfl) ?_
    refine pw_bip E (pc' := 9) rfl rfl (by decide) ?_
    refine pw_if2 E (pc' := 16) rfl (by decide) (by omega) (by omega) (by decide) (by decide) ?_ ?_
    · intro hc3
      have hc3 : (122 : Int) < ch := hc3
      refine pw_ld E (pc' := 17) (st' := [pw_i 0]) rfl (fun _ => rfl) ?_
      refine pw_zret E rfl (by omega) ?_
      exact ⟨rfl, ⟨_, rfl, by omega, by omega, by omega⟩⟩
    · intro hc4
      have hc4 : ¬ ((122 : Int) < ch) := hc4
      refine pw_ld E (pc' := 13) (st' := [pw_i 1]) rfl (fun _ => rfl) ?_
      refine pw_goto E (pc' := 17) rfl (by decide) ?_
      refine pw_zret E rfl (by omega) ?_
      exact ⟨rfl, ⟨_, rfl, by omega, by omega, by omega⟩⟩
set_option maxHeartbeats 4000000 in
theorem cm_105_24 {X : List (Nat × List Value)} {d : Nat} {h : pm_H} (hd : 1 ≤ d) (I : pw_I h) (ch : Int) (hch1 : 0 ≤ ch) (hch2 : ch ≤ 65535) : pw X d h 105 0 [some (pw_i ch)] [] (fun h' v => h = h' ∧ ∃ a : Int, v = .inl (some (pw_i a)) ∧ 0 ≤ a ∧ a ≤ 1 ∧ ((a = 1 ∧ 48 ≤ ch ∧ ch ≤ 57) ∨ (a = 0 ∧ ¬ (48 ≤ ch ∧ ch ≤ 57)))) := by
  have E : pm_ent 105 = some (1, 1, 9, 1, pmc_105) := rfl
  refine pw_ld E (pc' := 1) (st' := [pw_i ch]) rfl (fun _ => rfl) ?_
  refine pw_bip E (pc' := 3) rfl rfl (by decide) ?_
  refine pw_if2 E (pc' := 16) rfl (by decide) (by omega) (by omega) (by decide) (by decide) ?_ ?_
  · intro hc1
    have hc1 : ch < (48 : Int) := hc1
    refine pw_ld E (pc' := 17) (st' := [pw_i 0]) rfl (fun _ => rfl) ?_
    refine pw_zret E rfl (by omega) ?_
    exact ⟨rfl, ⟨_, rfl, by omega, by omega, by omega⟩⟩
  · intro hc2
    have hc2 : ¬ (ch < (48 : Int)) := hc2
    refine pw_ld E (pc' := 7) (st' := [pw_i ch]) rfl (fun _ => rfl) ?_
    refine pw_bip E (pc' := 9) rfl rfl (by decide) ?_
    refine pw_if2 E (pc' := 16) rfl (by decide) (by omega) (by omega) (by decide) (by decide) ?_ ?_
    · intro hc3
      have hc3 : (57 : Int) < ch := hc3
      refine pw_ld E (pc' := 17) (st' := [pw_i 0]) rfl (fun _ => rfl) ?_
      refine pw_zret E rfl (by omega) ?_
      exact ⟨rfl, ⟨_, rfl, by omega, by omega, by omega⟩⟩
    · intro hc4
      have hc4 : ¬ ((57 : Int) < ch) := hc4
      refine pw_ld E (pc' := 13) (st' := [pw_i 1]) rfl (fun _ => rfl) ?_
      refine pw_goto E (pc' := 17) rfl (by decide) ?_
      refine pw_zret E rfl (by omega) ?_
      exact ⟨rfl, ⟨_, rfl, by omega, by omega, by omega⟩⟩
set_option maxHeartbeats 4000000 in
theorem cm_104_24 {X : List (Nat × List Value)} {d : Nat} {h : pm_H} (hd : 2 ≤ d) (I : pw_I h) (hp0 : pw_g h 24 3 < pw_g h 24 1) (hp1 : 97 ≤ pw_g h 25 (pw_g h 24 3).toNat ∧ pw_g h 25 (pw_g h 24 3).toNat ≤ 122) : pw X d h 104 0 [some (.ref 40)] [] (fun h' v => pw_I h' ∧ pw_E [24] h h' ∧ (pw_g h 24 3 + 1 ≤ pw_g h' 24 3 ∧ pw_g h' 24 4 ≠ 2) ∧ (v = .inl none)) := by
  have E : pm_ent 104 = some (1, 1, 9, 4, pmc_104) := rfl
  have E0 : pw_E [24] h h := pw_E.rf _ _
  have L0 : ∀ (n0 : Nat)  (h0 : pm_H), pw_I h0 → pw_E [24] h h0 → pw_g h0 24 1 = pw_g h 24 1 → pw_g h 24 3 ≤ pw_g h0 24 3 → (1000 - pw_g h0 24 3).toNat = n0 → pw X d h0 104 0 [some (.ref 40)] [] (fun h' v => pw_I h' ∧ pw_E [24] h h' ∧ (pw_g h 24 3 + 1 ≤ pw_g h' 24 3 ∧ pw_g h' 24 4 ≠ 2) ∧ (v = .inl none)) := by
    intro n0
    induction n0 using Nat.strongRecOn with
    | ind n0 ih0 =>
      intro  h0 I0 E0 hx0_0 hx0_1 hm0
      refine pw_ld E (pc' := 1) (st' := [.ref 40]) rfl (fun _ => rfl) ?_
      refine pw_getI I0 E (c := 24) (k := 3) (pc' := 4) rfl rfl rfl rfl rfl rfl (fun hf1a hf1b hf1c hf1d => ?_)
      refine pw_ld E (pc' := 5) (st' := [.ref 40, pw_i (pw_g h0 24 3)]) rfl (fun _ => rfl) ?_
      refine pw_getI I0 E (c := 24) (k := 1) (pc' := 8) rfl rfl rfl rfl rfl rfl (fun hf2a hf2b hf2c hf2d => ?_)
      refine pw_if2 E (pc' := 39) rfl (by decide) (by omega) (by omega) (by omega) (by omega) ?_ ?_
      · intro hc3
        have hc3 : pw_g h0 24 1 ≤ pw_g h0 24 3 := hc3
        refine pw_ld E (pc' := 40) (st' := [.ref 40]) rfl (fun _ => rfl) ?_
        refine pw_ld E (pc' := 41) (st' := [.ref 40, .ref 40]) rfl (fun _ => rfl) ?_
        refine pw_getI I0 E (c := 24) (k := 3) (pc' := 44) rfl rfl rfl rfl rfl rfl (fun hf4a hf4b hf4c hf4d => ?_)
        refine pw_ld E (pc' := 45) (st' := [.ref 40, pw_i (pw_g h0 24 3), .ref 40]) rfl (fun _ => rfl) ?_
        refine pw_getI I0 E (c := 24) (k := 2) (pc' := 48) rfl rfl rfl rfl rfl rfl (fun hf5a hf5b hf5c hf5d => ?_)
        refine pw_sub E (pc' := 49) rfl rfl ?_
        refine pw_bip E (pc' := 51) rfl rfl (by decide) ?_
        refine pw_if2 E (pc' := 58) rfl (by decide) (by omega) (by omega) (by decide) (by decide) ?_ ?_
        · intro hc6
          have hc6 : (8 : Int) < (pw_g h0 24 3) - (pw_g h0 24 2) := hc6
          refine pw_ld E (pc' := 59) (st' := [pw_i 0, .ref 40]) rfl (fun _ => rfl) ?_
          refine pw_putI I0 E (c := 24) (k := 4) (pc' := 62) rfl rfl rfl rfl (by omega) (by omega) (by omega) (by omega) rfl rfl ?_
          intro h7I h7E
          generalize h7w : pw_w h0 24 4 (pw_i 0) = h7 at h7I h7E ⊢
          have h7F := E0.tr (h7E.wk (W' := [24]) (by first | rfl | simp))
          have he8 : pw_g h7 24 3 = pw_g h0 24 3 := by rw [← h7w]; exact pw_g_ne (by omega)
          have he9 : pw_g h7 24 4 = 0 := by rw [← h7w]; exact pw_g_eq (c := 24) (k := 4) I0 rfl rfl (by omega) (by omega)
          refine pw_vret E rfl ?_
          exact ⟨h7I, h7F, ⟨by omega, rfl⟩⟩
        · intro hc10
          have hc10 : ¬ ((8 : Int) < (pw_g h0 24 3) - (pw_g h0 24 2)) := hc10
          refine pw_ld E (pc' := 55) (st' := [pw_i 1, .ref 40]) rfl (fun _ => rfl) ?_
          refine pw_goto E (pc' := 59) rfl (by decide) ?_
          refine pw_putI I0 E (c := 24) (k := 4) (pc' := 62) rfl rfl rfl rfl (by omega) (by omega) (by omega) (by omega) rfl rfl ?_
          intro h11I h11E
          generalize h11w : pw_w h0 24 4 (pw_i 1) = h11 at h11I h11E ⊢
          have h11F := E0.tr (h11E.wk (W' := [24]) (by first | rfl | simp))
          have he12 : pw_g h11 24 3 = pw_g h0 24 3 := by rw [← h11w]; exact pw_g_ne (by omega)
          have he13 : pw_g h11 24 4 = 1 := by rw [← h11w]; exact pw_g_eq (c := 24) (k := 4) I0 rfl rfl (by omega) (by omega)
          refine pw_vret E rfl ?_
          exact ⟨h11I, h11F, ⟨by omega, rfl⟩⟩
      · intro hc14
        have hc14 : ¬ (pw_g h0 24 1 ≤ pw_g h0 24 3) := hc14
        refine pw_ld E (pc' := 12) (st' := [.ref 40]) rfl (fun _ => rfl) ?_
        refine pw_getR (b := 41) I0 E (c := 24) (k := 0) (pc' := 15) rfl rfl rfl rfl rfl rfl rfl ?_
        refine pw_ld E (pc' := 16) (st' := [.ref 40, .ref 41]) rfl (fun _ => rfl) ?_
        refine pw_getI I0 E (c := 24) (k := 3) (pc' := 19) rfl rfl rfl rfl rfl rfl (fun hf15a hf15b hf15c hf15d => ?_)
        refine pw_ald I0 E (c := 25) (pc' := 20) rfl rfl rfl (by decide) rfl (by decide) (by omega) (by omega) rfl (fun hf16a hf16b hf16c hf16d => ?_)
        refine pw_call (m' := 103) (As := [pw_i (pw_g h0 25 ((pw_g h0 24 3).toNat))]) (rest := []) (ls'' := [some (pw_i (pw_g h0 25 ((pw_g h0 24 3).toNat)))]) (by omega) E rfl (fun _ => pw_iS rfl rfl rfl) (rfl : pm_ent 103 = some (1, 1, 9, 1, pmc_103)) rfl rfl (cm_103_24 (by omega) I0 (pw_g h0 25 ((pw_g h0 24 3).toNat)) (by omega) (by omega)) ?_
        rintro u18 v17 ⟨rfl, x19, rfl, hx19a, hx19b, hx19r⟩
        refine ⟨_, rfl, ?_⟩
        show pw X d h0 104 23 [some (.ref 40)] [pw_i x19] _
        have hx19r : (x19 = 1 ∧ 97 ≤ (pw_g h0 25 ((pw_g h0 24 3).toNat)) ∧ (pw_g h0 25 ((pw_g h0 24 3).toNat)) ≤ 122) ∨ (x19 = 0 ∧ ¬ (97 ≤ (pw_g h0 25 ((pw_g h0 24 3).toNat)) ∧ (pw_g h0 25 ((pw_g h0 24 3).toNat)) ≤ 122)) := hx19r
        rcases (by omega : x19 = 1 ∨ x19 = 0) with hb20 | hb20
        · have hb20 : x19 = 1 := by omega
          refine pw_if E (pc' := 39) rfl (by decide) (by omega) (by omega) ?_ ?_
          · intro hc21
            have hc21 : x19 = (0 : Int) := hc21
            exfalso; omega
          · intro hc22
            have hc22 : ¬ (x19 = (0 : Int)) := hc22
            refine pw_ld E (pc' := 27) (st' := [.ref 40]) rfl (fun _ => rfl) ?_
            refine pw_ld E (pc' := 28) (st' := [.ref 40, .ref 40]) rfl (fun _ => rfl) ?_
            refine pw_getI I0 E (c := 24) (k := 3) (pc' := 31) rfl rfl rfl rfl rfl rfl (fun hf23a hf23b hf23c hf23d => ?_)
            refine pw_ld E (pc' := 32) (st' := [pw_i 1, pw_i (pw_g h0 24 3), .ref 40]) rfl (fun _ => rfl) ?_
            refine pw_add E (pc' := 33) rfl rfl ?_
            refine pw_putI I0 E (c := 24) (k := 3) (pc' := 36) rfl rfl rfl rfl (by omega) (by omega) (by omega) (by omega) rfl rfl ?_
            intro h24I h24E
            generalize h24w : pw_w h0 24 3 (pw_i ((pw_g h0 24 3) + 1)) = h24 at h24I h24E ⊢
            have h24F := E0.tr (h24E.wk (W' := [24]) (by first | rfl | simp))
            refine pw_goto E (pc' := 0) rfl (by decide) ?_
            have he25 : pw_g h24 24 3 = (pw_g h0 24 3) + 1 := by rw [← h24w]; exact pw_g_eq (c := 24) (k := 3) I0 rfl rfl (by omega) (by omega)
            have he26 : pw_g h24 24 1 = pw_g h0 24 1 := by rw [← h24w]; exact pw_g_ne (by omega)
            exact ih0 _ (by omega)  h24 h24I h24F  (by omega) (by omega) rfl
        · have hb27 : x19 = 0 := by omega
          have hne : pw_g h 24 3 + 1 ≤ pw_g h0 24 3 := by
            by_cases hq : pw_g h0 24 3 = pw_g h 24 3
            · rw [hq, pw_Eg (c := 25) I E0 rfl rfl _] at hx19r
              omega
            · omega
          refine pw_if E (pc' := 39) rfl (by decide) (by omega) (by omega) ?_ ?_
          · intro hc28
            have hc28 : x19 = (0 : Int) := hc28
            refine pw_ld E (pc' := 40) (st' := [.ref 40]) rfl (fun _ => rfl) ?_
            refine pw_ld E (pc' := 41) (st' := [.ref 40, .ref 40]) rfl (fun _ => rfl) ?_
            refine pw_getI I0 E (c := 24) (k := 3) (pc' := 44) rfl rfl rfl rfl rfl rfl (fun hf29a hf29b hf29c hf29d => ?_)
            refine pw_ld E (pc' := 45) (st' := [.ref 40, pw_i (pw_g h0 24 3), .ref 40]) rfl (fun _ => rfl) ?_
            refine pw_getI I0 E (c := 24) (k := 2) (pc' := 48) rfl rfl rfl rfl rfl rfl (fun hf30a hf30b hf30c hf30d => ?_)
            refine pw_sub E (pc' := 49) rfl rfl ?_
            refine pw_bip E (pc' := 51) rfl rfl (by decide) ?_
            refine pw_if2 E (pc' := 58) rfl (by decide) (by omega) (by omega) (by decide) (by decide) ?_ ?_
            · intro hc31
              have hc31 : (8 : Int) < (pw_g h0 24 3) - (pw_g h0 24 2) := hc31
              refine pw_ld E (pc' := 59) (st' := [pw_i 0, .ref 40]) rfl (fun _ => rfl) ?_
              refine pw_putI I0 E (c := 24) (k := 4) (pc' := 62) rfl rfl rfl rfl (by omega) (by omega) (by omega) (by omega) rfl rfl ?_
              intro h32I h32E
              generalize h32w : pw_w h0 24 4 (pw_i 0) = h32 at h32I h32E ⊢
              have h32F := E0.tr (h32E.wk (W' := [24]) (by first | rfl | simp))
              have he33 : pw_g h32 24 3 = pw_g h0 24 3 := by rw [← h32w]; exact pw_g_ne (by omega)
              have he34 : pw_g h32 24 4 = 0 := by rw [← h32w]; exact pw_g_eq (c := 24) (k := 4) I0 rfl rfl (by omega) (by omega)
              refine pw_vret E rfl ?_
              exact ⟨h32I, h32F, ⟨by omega, rfl⟩⟩
            · intro hc35
              have hc35 : ¬ ((8 : Int) < (pw_g h0 24 3) - (pw_g h0 24 2)) := hc35
              refine pw_ld E (pc' := 55) (st' := [pw_i 1, .ref 40]) rfl (fun _ => rfl) ?_
              refine pw_goto E (pc' := 59) rfl (by decide) ?_
              refine pw_putI I0 E (c := 24) (k := 4) (pc' := 62) rfl rfl rfl rfl (by omega) (by omega) (by omega) (by omega) rfl rfl ?_
              intro h36I h36E
              generalize h36w : pw_w h0 24 4 (pw_i 1) = h36 at h36I h36E ⊢
              have h36F := E0.tr (h36E.wk (W' := [24]) (by first | rfl | simp))
              have he37 : pw_g h36 24 3 = pw_g h0 24 3 := by rw [← h36w]; exact pw_g_ne (by omega)
              have he38 : pw_g h36 24 4 = 1 := by rw [← h36w]; exact pw_g_eq (c := 24) (k := 4) I0 rfl rfl (by omega) (by omega)
              refine pw_vret E rfl ?_
              exact ⟨h36I, h36F, ⟨by omega, rfl⟩⟩
          · intro hc39
            have hc39 : ¬ (x19 = (0 : Int)) := hc39
            exfalso; omega
  exact L0 _  h I E0  (by omega) (by omega) rfl
