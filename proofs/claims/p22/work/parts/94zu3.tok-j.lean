section
/-! the class's Tokens, exactly -/
set_option maxHeartbeats 4000000 in
theorem cm_102_x24 {X : List (Nat × List Value)} {d : Nat} {h : pm_H} (hd : 1 ≤ d) (I : pw_I h) (ch : Int) (hch1 : 0 ≤ ch) (hch2 : ch ≤ 65535) : pw X d h 102 0 [some (pw_i ch)] [] (fun h' v => h = h' ∧ ∃ a : Int, v = .inl (some (pw_i a)) ∧ 0 ≤ a ∧ a ≤ 1 ∧ ((a = 1 ∧ (ch = 10 ∨ ch = 32)) ∨ (a = 0 ∧ ¬ (ch = 10 ∨ ch = 32)))) := by
  have E : pm_ent 102 = some (1, 1, 9, 1, pmc_102) := rfl
  refine pw_ld E (pc' := 1) (st' := [pw_i ch]) rfl (fun _ => rfl) ?_
  refine pw_bip E (pc' := 3) rfl rfl (by decide) ?_
  refine pw_if2 E (pc' := 12) rfl (by decide) (by omega) (by omega) (by decide) (by decide) ?_ ?_
  · intro hc1
    change ch = (32 : Int) at hc1
    refine pw_ld E (pc' := 13) (st' := [pw_i 1]) rfl (fun _ => rfl) ?_
    refine pw_goto E (pc' := 17) rfl (by decide) ?_
    refine pw_zret E rfl (by omega) ?_
    exact ⟨rfl, ⟨_, rfl, by omega, by omega, by omega⟩⟩
  · intro hc2
    change ¬ (ch = (32 : Int)) at hc2
    refine pw_ld E (pc' := 7) (st' := [pw_i ch]) rfl (fun _ => rfl) ?_
    refine pw_bip E (pc' := 9) rfl rfl (by decide) ?_
    refine pw_if2 E (pc' := 16) rfl (by decide) (by omega) (by omega) (by decide) (by decide) ?_ ?_
    · intro hc3
      change ch ≠ (10 : Int) at hc3
      refine pw_ld E (pc' := 17) (st' := [pw_i 0]) rfl (fun _ => rfl) ?_
      refine pw_zret E rfl (by omega) ?_
      exact ⟨rfl, ⟨_, rfl, by omega, by omega, by omega⟩⟩
    · intro hc4
      change ¬ (ch ≠ (10 : Int)) at hc4
      refine pw_ld E (pc' := 13) (st' := [pw_i 1]) rfl (fun _ => rfl) ?_
      refine pw_goto E (pc' := 17) rfl (by decide) ?_
      refine pw_zret E rfl (by omega) ?_
      exact ⟨rfl, ⟨_, rfl, by omega, by omega, by omega⟩⟩
set_option maxHeartbeats 4000000 in
theorem cm_103_x24 {X : List (Nat × List Value)} {d : Nat} {h : pm_H} (hd : 1 ≤ d) (I : pw_I h) (ch : Int) (hch1 : 0 ≤ ch) (hch2 : ch ≤ 65535) : pw X d h 103 0 [some (pw_i ch)] [] (fun h' v => h = h' ∧ ∃ a : Int, v = .inl (some (pw_i a)) ∧ 0 ≤ a ∧ a ≤ 1 ∧ ((a = 1 ∧ 97 ≤ ch ∧ ch ≤ 122) ∨ (a = 0 ∧ ¬ (97 ≤ ch ∧ ch ≤ 122)))) := by
  have E : pm_ent 103 = some (1, 1, 9, 1, pmc_103) := rfl
  refine pw_ld E (pc' := 1) (st' := [pw_i ch]) rfl (fun _ => rfl) ?_
  refine pw_bip E (pc' := 3) rfl rfl (by decide) ?_
  refine pw_if2 E (pc' := 16) rfl (by decide) (by omega) (by omega) (by decide) (by decide) ?_ ?_
  · intro hc1
    change ch < (97 : Int) at hc1
    refine pw_ld E (pc' := 17) (st' := [pw_i 0]) rfl (fun _ => rfl) ?_
    refine pw_zret E rfl (by omega) ?_
    exact ⟨rfl, ⟨_, rfl, by omega, by omega, by omega⟩⟩
  · intro hc2
    change ¬ (ch < (97 : Int)) at hc2
    refine pw_ld E (pc' := 7) (st' := [pw_i ch]) rfl (fun _ => rfl) ?_
    refine pw_bip E (pc' := 9) rfl rfl (by decide) ?_
    refine pw_if2 E (pc' := 16) rfl (by decide) (by omega) (by omega) (by decide) (by decide) ?_ ?_
    · intro hc3
      change (122 : Int) < ch at hc3
      refine pw_ld E (pc' := 17) (st' := [pw_i 0]) rfl (fun _ => rfl) ?_
      refine pw_zret E rfl (by omega) ?_
      exact ⟨rfl, ⟨_, rfl, by omega, by omega, by omega⟩⟩
    · intro hc4
      change ¬ ((122 : Int) < ch) at hc4
      refine pw_ld E (pc' := 13) (st' := [pw_i 1]) rfl (fun _ => rfl) ?_
      refine pw_goto E (pc' := 17) rfl (by decide) ?_
      refine pw_zret E rfl (by omega) ?_
      exact ⟨rfl, ⟨_, rfl, by omega, by omega, by omega⟩⟩
set_option maxHeartbeats 4000000 in
theorem cm_105_x24 {X : List (Nat × List Value)} {d : Nat} {h : pm_H} (hd : 1 ≤ d) (I : pw_I h) (ch : Int) (hch1 : 0 ≤ ch) (hch2 : ch ≤ 65535) : pw X d h 105 0 [some (pw_i ch)] [] (fun h' v => h = h' ∧ ∃ a : Int, v = .inl (some (pw_i a)) ∧ 0 ≤ a ∧ a ≤ 1 ∧ ((a = 1 ∧ 48 ≤ ch ∧ ch ≤ 57) ∨ (a = 0 ∧ ¬ (48 ≤ ch ∧ ch ≤ 57)))) := by
  have E : pm_ent 105 = some (1, 1, 9, 1, pmc_105) := rfl
  refine pw_ld E (pc' := 1) (st' := [pw_i ch]) rfl (fun _ => rfl) ?_
  refine pw_bip E (pc' := 3) rfl rfl (by decide) ?_
  refine pw_if2 E (pc' := 16) rfl (by decide) (by omega) (by omega) (by decide) (by decide) ?_ ?_
  · intro hc1
    change ch < (48 : Int) at hc1
    refine pw_ld E (pc' := 17) (st' := [pw_i 0]) rfl (fun _ => rfl) ?_
    refine pw_zret E rfl (by omega) ?_
    exact ⟨rfl, ⟨_, rfl, by omega, by omega, by omega⟩⟩
  · intro hc2
    change ¬ (ch < (48 : Int)) at hc2
    refine pw_ld E (pc' := 7) (st' := [pw_i ch]) rfl (fun _ => rfl) ?_
    refine pw_bip E (pc' := 9) rfl rfl (by decide) ?_
    refine pw_if2 E (pc' := 16) rfl (by decide) (by omega) (by omega) (by decide) (by decide) ?_ ?_
    · intro hc3
      change (57 : Int) < ch at hc3
      refine pw_ld E (pc' := 17) (st' := [pw_i 0]) rfl (fun _ => rfl) ?_
      refine pw_zret E rfl (by omega) ?_
      exact ⟨rfl, ⟨_, rfl, by omega, by omega, by omega⟩⟩
    · intro hc4
      change ¬ ((57 : Int) < ch) at hc4
      refine pw_ld E (pc' := 13) (st' := [pw_i 1]) rfl (fun _ => rfl) ?_
      refine pw_goto E (pc' := 17) rfl (by decide) ?_
      refine pw_zret E rfl (by omega) ?_
      exact ⟨rfl, ⟨_, rfl, by omega, by omega, by omega⟩⟩
set_option maxHeartbeats 4000000 in
theorem cm_104_x24 {X : List (Nat × List Value)} {d : Nat} {h : pm_H} (hd : 2 ≤ d) (I : pw_I h) (hp0 : pw_g h 24 3 < pw_g h 24 1) (hp1 : 97 ≤ pw_g h 25 (pw_g h 24 3).toNat ∧ pw_g h 25 (pw_g h 24 3).toNat ≤ 122) (hp2 : pw_g h 24 2 = pw_g h 24 3) : pw X d h 104 0 [some (.ref 40)] [] (fun h' v => pw_I h' ∧ pw_E [24] h h' ∧ (px_TW h h') ∧ (v = .inl none)) := by
  have E : pm_ent 104 = some (1, 1, 9, 4, pmc_104) := rfl
  have E0 : pw_E [24] h h := pw_E.rf _ _
  have L0 : ∀ (n0 : Nat)  (gh0 : pm_H), pw_I gh0 → pw_E [24] h gh0 → pw_g gh0 24 1 = pw_g h 24 1 → pw_g gh0 24 2 = pw_g h 24 2 → pw_g h 24 3 ≤ pw_g gh0 24 3 → pw_g gh0 24 3 ≤ pw_g h 24 1 → (∀ j : Nat, (pw_g h 24 3).toNat ≤ j → j < (pw_g gh0 24 3).toNat → pt_le (pw_g h 25 j)) → (1000 - pw_g gh0 24 3).toNat = n0 → pw X d gh0 104 0 [some (.ref 40)] [] (fun h' v => pw_I h' ∧ pw_E [24] h h' ∧ (px_TW h h') ∧ (v = .inl none)) := by
    intro n0
    induction n0 using Nat.strongRecOn with
    | ind n0 ih0 =>
      intro  gh0 I0 E0 hx0_0 hx0_1 hx0_2 hx0_3 hx0_4 hm0
      refine pw_ld E (pc' := 1) (st' := [.ref 40]) rfl (fun _ => rfl) ?_
      refine pw_getI2 I0 E (c := 24) (k := 3) (pc' := 4) rfl rfl rfl rfl rfl rfl (fun hf1a hf1b => ?_)
      refine pw_ld E (pc' := 5) (st' := [.ref 40, pw_i (pw_g gh0 24 3)]) rfl (fun _ => rfl) ?_
      refine pw_getI2 I0 E (c := 24) (k := 1) (pc' := 8) rfl rfl rfl rfl rfl rfl (fun hf2a hf2b => ?_)
      refine pw_if2 E (pc' := 39) rfl (by decide) (by omega) (by omega) (by omega) (by omega) ?_ ?_
      · intro hc3
        change pw_g gh0 24 1 ≤ pw_g gh0 24 3 at hc3
        refine pw_ld E (pc' := 40) (st' := [.ref 40]) rfl (fun _ => rfl) ?_
        refine pw_ld E (pc' := 41) (st' := [.ref 40, .ref 40]) rfl (fun _ => rfl) ?_
        refine pw_getI2 I0 E (c := 24) (k := 3) (pc' := 44) rfl rfl rfl rfl rfl rfl (fun hf4a hf4b => ?_)
        refine pw_ld E (pc' := 45) (st' := [.ref 40, pw_i (pw_g gh0 24 3), .ref 40]) rfl (fun _ => rfl) ?_
        refine pw_getI2 I0 E (c := 24) (k := 2) (pc' := 48) rfl rfl rfl rfl rfl rfl (fun hf5a hf5b => ?_)
        refine pw_sub E (pc' := 49) rfl rfl ?_
        refine pw_bip E (pc' := 51) rfl rfl (by decide) ?_
        refine pw_if2 E (pc' := 58) rfl (by decide) (by omega) (by omega) (by decide) (by decide) ?_ ?_
        · intro hc6
          change (8 : Int) < (pw_g gh0 24 3) - (pw_g gh0 24 2) at hc6
          refine pw_ld E (pc' := 59) (st' := [pw_i 0, .ref 40]) rfl (fun _ => rfl) ?_
          refine pw_putI I0 E (c := 24) (k := 4) (pc' := 62) rfl rfl rfl rfl (by omega) (by omega) (by omega) (by omega) rfl rfl ?_
          intro h7I h7E
          generalize h7w : pw_w gh0 24 4 (pw_i 0) = h7 at h7I h7E ⊢
          have h7F := E0.tr (h7E.wk (W' := [24]) (by first | rfl | simp))
          refine pw_vret E rfl ?_
          have f1 : pw_g h7 24 1 = pw_g gh0 24 1 := by rw [← h7w]; exact pw_g_ne (by omega)
          have f2 : pw_g h7 24 2 = pw_g gh0 24 2 := by rw [← h7w]; exact pw_g_ne (by omega)
          have f3 : pw_g h7 24 3 = pw_g gh0 24 3 := by rw [← h7w]; exact pw_g_ne (by omega)
          have f5 : pw_g h7 24 5 = pw_g gh0 24 5 := by rw [← h7w]; exact pw_g_ne (by omega)
          have f4 : pw_g h7 24 4 = 0 := by rw [← h7w]; exact pw_g_eq (c := 24) (k := 4) I0 rfl rfl (by omega) (by omega)
          have hend : pw_g h7 24 3 < pw_g h 24 1 → ¬ pt_le (pw_g h 25 (pw_g h7 24 3).toNat) := fun q => by omega
          exact ⟨h7I, h7F, ⟨by omega, by omega, by omega, by omega, fun j p q => hx0_4 j p (by omega), hend, fun q => by omega, fun q => by omega⟩, rfl⟩
        · intro hc8
          change ¬ ((8 : Int) < (pw_g gh0 24 3) - (pw_g gh0 24 2)) at hc8
          refine pw_ld E (pc' := 55) (st' := [pw_i 1, .ref 40]) rfl (fun _ => rfl) ?_
          refine pw_goto E (pc' := 59) rfl (by decide) ?_
          refine pw_putI I0 E (c := 24) (k := 4) (pc' := 62) rfl rfl rfl rfl (by omega) (by omega) (by omega) (by omega) rfl rfl ?_
          intro h9I h9E
          generalize h9w : pw_w gh0 24 4 (pw_i 1) = h9 at h9I h9E ⊢
          have h9F := E0.tr (h9E.wk (W' := [24]) (by first | rfl | simp))
          refine pw_vret E rfl ?_
          have f1 : pw_g h9 24 1 = pw_g gh0 24 1 := by rw [← h9w]; exact pw_g_ne (by omega)
          have f2 : pw_g h9 24 2 = pw_g gh0 24 2 := by rw [← h9w]; exact pw_g_ne (by omega)
          have f3 : pw_g h9 24 3 = pw_g gh0 24 3 := by rw [← h9w]; exact pw_g_ne (by omega)
          have f5 : pw_g h9 24 5 = pw_g gh0 24 5 := by rw [← h9w]; exact pw_g_ne (by omega)
          have f4 : pw_g h9 24 4 = 1 := by rw [← h9w]; exact pw_g_eq (c := 24) (k := 4) I0 rfl rfl (by omega) (by omega)
          have hend : pw_g h9 24 3 < pw_g h 24 1 → ¬ pt_le (pw_g h 25 (pw_g h9 24 3).toNat) := fun q => by omega
          exact ⟨h9I, h9F, ⟨by omega, by omega, by omega, by omega, fun j p q => hx0_4 j p (by omega), hend, fun q => by omega, fun q => by omega⟩, rfl⟩
      · intro hc10
        change ¬ (pw_g gh0 24 1 ≤ pw_g gh0 24 3) at hc10
        refine pw_ld E (pc' := 12) (st' := [.ref 40]) rfl (fun _ => rfl) ?_
        refine pw_getR (b := 41) I0 E (c := 24) (k := 0) (pc' := 15) rfl rfl rfl rfl rfl rfl rfl ?_
        refine pw_ld E (pc' := 16) (st' := [.ref 40, .ref 41]) rfl (fun _ => rfl) ?_
        refine pw_getI2 I0 E (c := 24) (k := 3) (pc' := 19) rfl rfl rfl rfl rfl rfl (fun hf11a hf11b => ?_)
        refine pw_ald2 I0 E (c := 25) (pc' := 20) rfl rfl rfl (by decide) rfl (by decide) (by omega) (by omega) rfl (fun hf12a hf12b => ?_)
        refine pw_call (m' := 103) (As := [pw_i (pw_g gh0 25 ((pw_g gh0 24 3).toNat))]) (rest := []) (ls'' := [some (pw_i (pw_g gh0 25 ((pw_g gh0 24 3).toNat)))]) (Nat.le_trans (by decide) hd) E rfl (fun _ => pw_iS rfl rfl rfl) (rfl : pm_ent 103 = some (1, 1, 9, 1, pmc_103)) rfl rfl (cm_103_x24 (pw_dp hd (by decide)) I0 (pw_g gh0 25 ((pw_g gh0 24 3).toNat)) (by omega) (by omega)) ?_
        rintro u14 v13 ⟨rfl, x15, rfl, hx15a, hx15b, hx15r⟩
        refine ⟨_, rfl, ?_⟩
        show pw X d gh0 104 23 [some (.ref 40)] [pw_i x15] _
        change (x15 = 1 ∧ 97 ≤ (pw_g gh0 25 ((pw_g gh0 24 3).toNat)) ∧ (pw_g gh0 25 ((pw_g gh0 24 3).toNat)) ≤ 122) ∨ (x15 = 0 ∧ ¬ (97 ≤ (pw_g gh0 25 ((pw_g gh0 24 3).toNat)) ∧ (pw_g gh0 25 ((pw_g gh0 24 3).toNat)) ≤ 122)) at hx15r
        rcases (by omega : x15 = 1 ∨ x15 = 0) with hb16 | hb16
        · skip
          refine pw_if E (pc' := 39) rfl (by decide) (by omega) (by omega) ?_ ?_
          · intro hc17
            change x15 = (0 : Int) at hc17
            exfalso; omega
          · intro hc18
            change ¬ (x15 = (0 : Int)) at hc18
            refine pw_ld E (pc' := 27) (st' := [.ref 40]) rfl (fun _ => rfl) ?_
            refine pw_ld E (pc' := 28) (st' := [.ref 40, .ref 40]) rfl (fun _ => rfl) ?_
            refine pw_getI2 I0 E (c := 24) (k := 3) (pc' := 31) rfl rfl rfl rfl rfl rfl (fun hf19a hf19b => ?_)
            refine pw_ld E (pc' := 32) (st' := [pw_i 1, pw_i (pw_g gh0 24 3), .ref 40]) rfl (fun _ => rfl) ?_
            refine pw_add E (pc' := 33) rfl rfl ?_
            refine pw_putI I0 E (c := 24) (k := 3) (pc' := 36) rfl rfl rfl rfl (by omega) (by omega) (by omega) (by omega) rfl rfl ?_
            intro h20I h20E
            generalize h20w : pw_w gh0 24 3 (pw_i ((pw_g gh0 24 3) + 1)) = h20 at h20I h20E ⊢
            have h20F := E0.tr (h20E.wk (W' := [24]) (by first | rfl | simp))
            have z0 := (pw_gI (c := 24) (k := 3) I rfl rfl).1
            have hT : ∀ j : Nat, pw_g gh0 25 j = pw_g h 25 j := fun j => pw_Eg (c := 25) I E0 rfl rfl j
            have hle : pt_le (pw_g h 25 (pw_g gh0 24 3).toNat) := by rw [← hT]; rcases hx15r with q | q <;> first | exact q.2 | omega
            have e3 : pw_g h20 24 3 = pw_g gh0 24 3 + 1 := by rw [← h20w]; exact pw_g_eq (c := 24) (k := 3) I0 rfl rfl (by omega) (by omega)
            have oA : ∀ j : Nat, (pw_g h 24 3).toNat ≤ j → j < (pw_g h20 24 3).toNat → pt_le (pw_g h 25 j) := fun j p q => by
              by_cases z : j = (pw_g gh0 24 3).toNat
              · rw [z]; exact hle
              · exact hx0_4 j p (by omega)
            refine pw_goto E (pc' := 0) rfl (by decide) ?_
            have he21 : pw_g h20 24 3 = (pw_g gh0 24 3) + 1 := by rw [← h20w]; exact pw_g_eq (c := 24) (k := 3) I0 rfl rfl (by omega) (by omega)
            have he22 : pw_g h20 24 1 = pw_g gh0 24 1 := by rw [← h20w]; exact pw_g_ne (by omega)
            have he23 : pw_g h20 24 2 = pw_g gh0 24 2 := by rw [← h20w]; exact pw_g_ne (by omega)
            exact ih0 _ (by omega)  h20 h20I h20F  (by omega) (by omega) (by omega) (by omega) oA rfl
        · skip
          refine pw_if E (pc' := 39) rfl (by decide) (by omega) (by omega) ?_ ?_
          · intro hc25
            change x15 = (0 : Int) at hc25
            refine pw_ld E (pc' := 40) (st' := [.ref 40]) rfl (fun _ => rfl) ?_
            refine pw_ld E (pc' := 41) (st' := [.ref 40, .ref 40]) rfl (fun _ => rfl) ?_
            refine pw_getI2 I0 E (c := 24) (k := 3) (pc' := 44) rfl rfl rfl rfl rfl rfl (fun hf26a hf26b => ?_)
            refine pw_ld E (pc' := 45) (st' := [.ref 40, pw_i (pw_g gh0 24 3), .ref 40]) rfl (fun _ => rfl) ?_
            refine pw_getI2 I0 E (c := 24) (k := 2) (pc' := 48) rfl rfl rfl rfl rfl rfl (fun hf27a hf27b => ?_)
            refine pw_sub E (pc' := 49) rfl rfl ?_
            refine pw_bip E (pc' := 51) rfl rfl (by decide) ?_
            refine pw_if2 E (pc' := 58) rfl (by decide) (by omega) (by omega) (by decide) (by decide) ?_ ?_
            · intro hc28
              change (8 : Int) < (pw_g gh0 24 3) - (pw_g gh0 24 2) at hc28
              refine pw_ld E (pc' := 59) (st' := [pw_i 0, .ref 40]) rfl (fun _ => rfl) ?_
              refine pw_putI I0 E (c := 24) (k := 4) (pc' := 62) rfl rfl rfl rfl (by omega) (by omega) (by omega) (by omega) rfl rfl ?_
              intro h29I h29E
              generalize h29w : pw_w gh0 24 4 (pw_i 0) = h29 at h29I h29E ⊢
              have h29F := E0.tr (h29E.wk (W' := [24]) (by first | rfl | simp))
              refine pw_vret E rfl ?_
              have f1 : pw_g h29 24 1 = pw_g gh0 24 1 := by rw [← h29w]; exact pw_g_ne (by omega)
              have f2 : pw_g h29 24 2 = pw_g gh0 24 2 := by rw [← h29w]; exact pw_g_ne (by omega)
              have f3 : pw_g h29 24 3 = pw_g gh0 24 3 := by rw [← h29w]; exact pw_g_ne (by omega)
              have f5 : pw_g h29 24 5 = pw_g gh0 24 5 := by rw [← h29w]; exact pw_g_ne (by omega)
              have f4 : pw_g h29 24 4 = 0 := by rw [← h29w]; exact pw_g_eq (c := 24) (k := 4) I0 rfl rfl (by omega) (by omega)
              have hT : ∀ j : Nat, pw_g gh0 25 j = pw_g h 25 j := fun j => pw_Eg (c := 25) I E0 rfl rfl j
              have hend : pw_g h29 24 3 < pw_g h 24 1 → ¬ pt_le (pw_g h 25 (pw_g h29 24 3).toNat) := fun q => by (rw [f3, ← hT]; rcases hx15r with w | w <;> first | exact w.2 | omega)
              have hlt : pw_g h 24 3 < pw_g gh0 24 3 := by
                by_cases q : pw_g gh0 24 3 = pw_g h 24 3
                · have w := hT (pw_g gh0 24 3).toNat; rw [q] at w; rw [q] at hx15r; omega
                · omega
              exact ⟨h29I, h29F, ⟨by omega, by omega, by omega, by omega, fun j p q => hx0_4 j p (by omega), hend, fun q => by omega, fun q => by omega⟩, rfl⟩
            · intro hc30
              change ¬ ((8 : Int) < (pw_g gh0 24 3) - (pw_g gh0 24 2)) at hc30
              refine pw_ld E (pc' := 55) (st' := [pw_i 1, .ref 40]) rfl (fun _ => rfl) ?_
              refine pw_goto E (pc' := 59) rfl (by decide) ?_
              refine pw_putI I0 E (c := 24) (k := 4) (pc' := 62) rfl rfl rfl rfl (by omega) (by omega) (by omega) (by omega) rfl rfl ?_
              intro h31I h31E
              generalize h31w : pw_w gh0 24 4 (pw_i 1) = h31 at h31I h31E ⊢
              have h31F := E0.tr (h31E.wk (W' := [24]) (by first | rfl | simp))
              refine pw_vret E rfl ?_
              have f1 : pw_g h31 24 1 = pw_g gh0 24 1 := by rw [← h31w]; exact pw_g_ne (by omega)
              have f2 : pw_g h31 24 2 = pw_g gh0 24 2 := by rw [← h31w]; exact pw_g_ne (by omega)
              have f3 : pw_g h31 24 3 = pw_g gh0 24 3 := by rw [← h31w]; exact pw_g_ne (by omega)
              have f5 : pw_g h31 24 5 = pw_g gh0 24 5 := by rw [← h31w]; exact pw_g_ne (by omega)
              have f4 : pw_g h31 24 4 = 1 := by rw [← h31w]; exact pw_g_eq (c := 24) (k := 4) I0 rfl rfl (by omega) (by omega)
              have hT : ∀ j : Nat, pw_g gh0 25 j = pw_g h 25 j := fun j => pw_Eg (c := 25) I E0 rfl rfl j
              have hend : pw_g h31 24 3 < pw_g h 24 1 → ¬ pt_le (pw_g h 25 (pw_g h31 24 3).toNat) := fun q => by (rw [f3, ← hT]; rcases hx15r with w | w <;> first | exact w.2 | omega)
              have hlt : pw_g h 24 3 < pw_g gh0 24 3 := by
                by_cases q : pw_g gh0 24 3 = pw_g h 24 3
                · have w := hT (pw_g gh0 24 3).toNat; rw [q] at w; rw [q] at hx15r; omega
                · omega
              exact ⟨h31I, h31F, ⟨by omega, by omega, by omega, by omega, fun j p q => hx0_4 j p (by omega), hend, fun q => by omega, fun q => by omega⟩, rfl⟩
          · intro hc32
            change ¬ (x15 = (0 : Int)) at hc32
            exfalso; omega
  exact L0 _  h I E0  (by omega) (by omega) (by omega) (by omega) (fun j p q => by omega) rfl
set_option maxHeartbeats 4000000 in
theorem cm_106_x24 {X : List (Nat × List Value)} {d : Nat} {h : pm_H} (hd : 2 ≤ d) (I : pw_I h) (hp0 : pw_g h 24 3 < pw_g h 24 1) (hp1 : 48 ≤ pw_g h 25 (pw_g h 24 3).toNat ∧ pw_g h 25 (pw_g h 24 3).toNat ≤ 57) (hp2 : pw_g h 24 2 = pw_g h 24 3) : pw X d h 106 0 [some (.ref 40)] [] (fun h' v => pw_I h' ∧ pw_E [24] h h' ∧ (px_TN h h') ∧ (v = .inl none)) := by
  have E : pm_ent 106 = some (1, 1, 9, 4, pmc_106) := rfl
  have E0 : pw_E [24] h h := pw_E.rf _ _
  refine pw_ld E (pc' := 1) (st' := [.ref 40]) rfl (fun _ => rfl) ?_
  refine pw_ld E (pc' := 2) (st' := [pw_i 0, .ref 40]) rfl (fun _ => rfl) ?_
  refine pw_putI I E (c := 24) (k := 5) (pc' := 5) rfl rfl rfl rfl (by omega) (by omega) (by omega) (by omega) rfl rfl ?_
  intro h1I h1E
  generalize h1w : pw_w h 24 5 (pw_i 0) = h1 at h1I h1E ⊢
  have h1F := E0.tr (h1E.wk (W' := [24]) (by first | rfl | simp))
  have L5 : ∀ (n5 : Nat)  (gh5 : pm_H), pw_I gh5 → pw_E [24] h gh5 → pw_g gh5 24 1 = pw_g h 24 1 → pw_g gh5 24 2 = pw_g h 24 2 → pw_g h 24 3 ≤ pw_g gh5 24 3 → pw_g gh5 24 3 ≤ pw_g h 24 1 → (∀ j : Nat, (pw_g h 24 3).toNat ≤ j → j < (pw_g gh5 24 3).toNat → pt_di (pw_g h 25 j)) → (pw_g gh5 24 3 - pw_g h 24 2 ≤ 4 → pw_g gh5 24 5 = pt_hd (pw_g h 25) (pw_g h 24 2).toNat (pw_g gh5 24 3 - pw_g h 24 2).toNat) → (1000 - pw_g gh5 24 3).toNat = n5 → pw X d gh5 106 5 [some (.ref 40)] [] (fun h' v => pw_I h' ∧ pw_E [24] h h' ∧ (px_TN h h') ∧ (v = .inl none)) := by
    intro n5
    induction n5 using Nat.strongRecOn with
    | ind n5 ih5 =>
      intro  gh5 I5 E5 hx5_0 hx5_1 hx5_2 hx5_3 hx5_4 hx5_5 hm5
      refine pw_ld E (pc' := 6) (st' := [.ref 40]) rfl (fun _ => rfl) ?_
      refine pw_getI2 I5 E (c := 24) (k := 3) (pc' := 9) rfl rfl rfl rfl rfl rfl (fun hf2a hf2b => ?_)
      refine pw_ld E (pc' := 10) (st' := [.ref 40, pw_i (pw_g gh5 24 3)]) rfl (fun _ => rfl) ?_
      refine pw_getI2 I5 E (c := 24) (k := 1) (pc' := 13) rfl rfl rfl rfl rfl rfl (fun hf3a hf3b => ?_)
      refine pw_if2 E (pc' := 68) rfl (by decide) (by omega) (by omega) (by omega) (by omega) ?_ ?_
      · intro hc4
        change pw_g gh5 24 1 ≤ pw_g gh5 24 3 at hc4
        refine pw_ld E (pc' := 69) (st' := [.ref 40]) rfl (fun _ => rfl) ?_
        refine pw_ld E (pc' := 70) (st' := [.ref 40, .ref 40]) rfl (fun _ => rfl) ?_
        refine pw_getI2 I5 E (c := 24) (k := 3) (pc' := 73) rfl rfl rfl rfl rfl rfl (fun hf5a hf5b => ?_)
        refine pw_ld E (pc' := 74) (st' := [.ref 40, pw_i (pw_g gh5 24 3), .ref 40]) rfl (fun _ => rfl) ?_
        refine pw_getI2 I5 E (c := 24) (k := 2) (pc' := 77) rfl rfl rfl rfl rfl rfl (fun hf6a hf6b => ?_)
        refine pw_sub E (pc' := 78) rfl rfl ?_
        refine pw_ld E (pc' := 79) (st' := [pw_i 4, pw_i ((pw_g gh5 24 3) - (pw_g gh5 24 2)), .ref 40]) rfl (fun _ => rfl) ?_
        refine pw_if2 E (pc' := 86) rfl (by decide) (by omega) (by omega) (by decide) (by decide) ?_ ?_
        · intro hc7
          change (4 : Int) < (pw_g gh5 24 3) - (pw_g gh5 24 2) at hc7
          refine pw_ld E (pc' := 87) (st' := [pw_i 0, .ref 40]) rfl (fun _ => rfl) ?_
          refine pw_putI I5 E (c := 24) (k := 4) (pc' := 90) rfl rfl rfl rfl (by omega) (by omega) (by omega) (by omega) rfl rfl ?_
          intro h8I h8E
          generalize h8w : pw_w gh5 24 4 (pw_i 0) = h8 at h8I h8E ⊢
          have h8F := E5.tr (h8E.wk (W' := [24]) (by first | rfl | simp))
          refine pw_vret E rfl ?_
          have f1 : pw_g h8 24 1 = pw_g gh5 24 1 := by rw [← h8w]; exact pw_g_ne (by omega)
          have f2 : pw_g h8 24 2 = pw_g gh5 24 2 := by rw [← h8w]; exact pw_g_ne (by omega)
          have f3 : pw_g h8 24 3 = pw_g gh5 24 3 := by rw [← h8w]; exact pw_g_ne (by omega)
          have f5 : pw_g h8 24 5 = pw_g gh5 24 5 := by rw [← h8w]; exact pw_g_ne (by omega)
          have f4 : pw_g h8 24 4 = 0 := by rw [← h8w]; exact pw_g_eq (c := 24) (k := 4) I5 rfl rfl (by omega) (by omega)
          have hend : pw_g h8 24 3 < pw_g h 24 1 → ¬ pt_di (pw_g h 25 (pw_g h8 24 3).toNat) := fun q => by omega
          exact ⟨h8I, h8F, ⟨by omega, by omega, by omega, by omega, fun j p q => hx5_4 j p (by omega), hend, fun q => by omega, fun q => ⟨by omega, by rw [f5, f3]; exact hx5_5 (by omega)⟩⟩, rfl⟩
        · intro hc9
          change ¬ ((4 : Int) < (pw_g gh5 24 3) - (pw_g gh5 24 2)) at hc9
          refine pw_ld E (pc' := 83) (st' := [pw_i 2, .ref 40]) rfl (fun _ => rfl) ?_
          refine pw_goto E (pc' := 87) rfl (by decide) ?_
          refine pw_putI I5 E (c := 24) (k := 4) (pc' := 90) rfl rfl rfl rfl (by omega) (by omega) (by omega) (by omega) rfl rfl ?_
          intro h10I h10E
          generalize h10w : pw_w gh5 24 4 (pw_i 2) = h10 at h10I h10E ⊢
          have h10F := E5.tr (h10E.wk (W' := [24]) (by first | rfl | simp))
          refine pw_vret E rfl ?_
          have f1 : pw_g h10 24 1 = pw_g gh5 24 1 := by rw [← h10w]; exact pw_g_ne (by omega)
          have f2 : pw_g h10 24 2 = pw_g gh5 24 2 := by rw [← h10w]; exact pw_g_ne (by omega)
          have f3 : pw_g h10 24 3 = pw_g gh5 24 3 := by rw [← h10w]; exact pw_g_ne (by omega)
          have f5 : pw_g h10 24 5 = pw_g gh5 24 5 := by rw [← h10w]; exact pw_g_ne (by omega)
          have f4 : pw_g h10 24 4 = 2 := by rw [← h10w]; exact pw_g_eq (c := 24) (k := 4) I5 rfl rfl (by omega) (by omega)
          have hend : pw_g h10 24 3 < pw_g h 24 1 → ¬ pt_di (pw_g h 25 (pw_g h10 24 3).toNat) := fun q => by omega
          exact ⟨h10I, h10F, ⟨by omega, by omega, by omega, by omega, fun j p q => hx5_4 j p (by omega), hend, fun q => by omega, fun q => ⟨by omega, by rw [f5, f3]; exact hx5_5 (by omega)⟩⟩, rfl⟩
      · intro hc11
        change ¬ (pw_g gh5 24 1 ≤ pw_g gh5 24 3) at hc11
        refine pw_ld E (pc' := 17) (st' := [.ref 40]) rfl (fun _ => rfl) ?_
        refine pw_getR (b := 41) I5 E (c := 24) (k := 0) (pc' := 20) rfl rfl rfl rfl rfl rfl rfl ?_
        refine pw_ld E (pc' := 21) (st' := [.ref 40, .ref 41]) rfl (fun _ => rfl) ?_
        refine pw_getI2 I5 E (c := 24) (k := 3) (pc' := 24) rfl rfl rfl rfl rfl rfl (fun hf12a hf12b => ?_)
        refine pw_ald2 I5 E (c := 25) (pc' := 25) rfl rfl rfl (by decide) rfl (by decide) (by omega) (by omega) rfl (fun hf13a hf13b => ?_)
        refine pw_call (m' := 105) (As := [pw_i (pw_g gh5 25 ((pw_g gh5 24 3).toNat))]) (rest := []) (ls'' := [some (pw_i (pw_g gh5 25 ((pw_g gh5 24 3).toNat)))]) (Nat.le_trans (by decide) hd) E rfl (fun _ => pw_iS rfl rfl rfl) (rfl : pm_ent 105 = some (1, 1, 9, 1, pmc_105)) rfl rfl (cm_105_x24 (pw_dp hd (by decide)) I5 (pw_g gh5 25 ((pw_g gh5 24 3).toNat)) (by omega) (by omega)) ?_
        rintro u15 v14 ⟨rfl, x16, rfl, hx16a, hx16b, hx16r⟩
        refine ⟨_, rfl, ?_⟩
        show pw X d gh5 106 28 [some (.ref 40)] [pw_i x16] _
        change (x16 = 1 ∧ 48 ≤ (pw_g gh5 25 ((pw_g gh5 24 3).toNat)) ∧ (pw_g gh5 25 ((pw_g gh5 24 3).toNat)) ≤ 57) ∨ (x16 = 0 ∧ ¬ (48 ≤ (pw_g gh5 25 ((pw_g gh5 24 3).toNat)) ∧ (pw_g gh5 25 ((pw_g gh5 24 3).toNat)) ≤ 57)) at hx16r
        rcases (by omega : x16 = 1 ∨ x16 = 0) with hb17 | hb17
        · skip
          refine pw_if E (pc' := 68) rfl (by decide) (by omega) (by omega) ?_ ?_
          · intro hc18
            change x16 = (0 : Int) at hc18
            exfalso; omega
          · intro hc19
            change ¬ (x16 = (0 : Int)) at hc19
            refine pw_ld E (pc' := 32) (st' := [.ref 40]) rfl (fun _ => rfl) ?_
            refine pw_ld E (pc' := 33) (st' := [.ref 40, .ref 40]) rfl (fun _ => rfl) ?_
            refine pw_getI2 I5 E (c := 24) (k := 5) (pc' := 36) rfl rfl rfl rfl rfl rfl (fun hf20a hf20b => ?_)
            refine pw_bip E (pc' := 38) rfl rfl (by decide) ?_
            refine pw_mul E (pc' := 39) rfl rfl ?_
            refine px_nmE (fun x21 hx21a hx21b x21e => ?_)
            change (pw_g gh5 24 5 * 10 < -2147483648 ∨ 2147483647 < pw_g gh5 24 5 * 10) ∨ x21 = pw_g gh5 24 5 * 10 at x21e
            refine pw_ld E (pc' := 40) (st' := [.ref 40, pw_i x21, .ref 40]) rfl (fun _ => rfl) ?_
            refine pw_getR (b := 41) I5 E (c := 24) (k := 0) (pc' := 43) rfl rfl rfl rfl rfl rfl rfl ?_
            refine pw_ld E (pc' := 44) (st' := [.ref 40, .ref 41, pw_i x21, .ref 40]) rfl (fun _ => rfl) ?_
            refine pw_getI2 I5 E (c := 24) (k := 3) (pc' := 47) rfl rfl rfl rfl rfl rfl (fun hf22a hf22b => ?_)
            refine pw_ald2 I5 E (c := 25) (pc' := 48) rfl rfl rfl (by decide) rfl (by decide) (by omega) (by omega) rfl (fun hf23a hf23b => ?_)
            refine pw_bip E (pc' := 50) rfl rfl (by decide) ?_
            refine pw_sub E (pc' := 51) rfl rfl ?_
            refine pw_add E (pc' := 52) rfl rfl ?_
            refine px_nmE (fun x24 hx24a hx24b x24e => ?_)
            change (x21 + (pw_g gh5 25 ((pw_g gh5 24 3).toNat) - 48) < -2147483648 ∨ 2147483647 < x21 + (pw_g gh5 25 ((pw_g gh5 24 3).toNat) - 48)) ∨ x24 = x21 + (pw_g gh5 25 ((pw_g gh5 24 3).toNat) - 48) at x24e
            refine pw_putI I5 E (c := 24) (k := 5) (pc' := 55) rfl rfl rfl rfl (by omega) (by omega) (by omega) (by omega) rfl rfl ?_
            intro h25I h25E
            generalize h25w : pw_w gh5 24 5 (pw_i x24) = h25 at h25I h25E ⊢
            have h25F := E5.tr (h25E.wk (W' := [24]) (by first | rfl | simp))
            refine pw_ld E (pc' := 56) (st' := [.ref 40]) rfl (fun _ => rfl) ?_
            refine pw_ld E (pc' := 57) (st' := [.ref 40, .ref 40]) rfl (fun _ => rfl) ?_
            have he27 : pw_g h25 24 3 = pw_g gh5 24 3 := by rw [← h25w]; exact pw_g_ne (by omega)
            refine pw_getI2 h25I E (c := 24) (k := 3) (pc' := 60) rfl rfl rfl rfl rfl rfl (fun hf26a hf26b => ?_)
            refine pw_ld E (pc' := 61) (st' := [pw_i 1, pw_i (pw_g h25 24 3), .ref 40]) rfl (fun _ => rfl) ?_
            refine pw_add E (pc' := 62) rfl rfl ?_
            refine pw_putI h25I E (c := 24) (k := 3) (pc' := 65) rfl rfl rfl rfl (by omega) (by omega) (by omega) (by omega) rfl rfl ?_
            intro h28I h28E
            generalize h28w : pw_w h25 24 3 (pw_i ((pw_g h25 24 3) + 1)) = h28 at h28I h28E ⊢
            have h28F := h25F.tr (h28E.wk (W' := [24]) (by first | rfl | simp))
            have z0 := (pw_gI (c := 24) (k := 3) I rfl rfl).1
            have hT : ∀ j : Nat, pw_g gh5 25 j = pw_g h 25 j := fun j => pw_Eg (c := 25) I E5 rfl rfl j
            have hle : pt_di (pw_g h 25 (pw_g gh5 24 3).toNat) := by rw [← hT]; rcases hx16r with q | q <;> first | exact q.2 | omega
            have eM : pw_g h25 24 3 = pw_g gh5 24 3 := by rw [← h25w]; exact pw_g_ne (by omega)
            have e3 : pw_g h28 24 3 = pw_g gh5 24 3 + 1 := by rw [← eM, ← h28w]; exact pw_g_eq (c := 24) (k := 3) h25I rfl rfl (by omega) (by omega)
            have oA : ∀ j : Nat, (pw_g h 24 3).toNat ≤ j → j < (pw_g h28 24 3).toNat → pt_di (pw_g h 25 j) := fun j p q => by
              by_cases z : j = (pw_g gh5 24 3).toNat
              · rw [z]; exact hle
              · exact hx5_4 j p (by omega)
            have e5 : pw_g h28 24 5 = pw_g h25 24 5 := by rw [← h28w]; exact pw_g_ne (by omega)
            have e6 : pw_g h25 24 5 = x24 := by rw [← h25w]; exact pw_g_eq (c := 24) (k := 5) I5 rfl rfl (by omega) (by omega)
            have oV : pw_g h28 24 3 - pw_g h 24 2 ≤ 4 → pw_g h28 24 5 = pt_hd (pw_g h 25) (pw_g h 24 2).toNat (pw_g h28 24 3 - pw_g h 24 2).toNat := fun q => by
              have v0 := hx5_5 (by omega)
              have B := pt_hdB (T := pw_g h 25) (s := (pw_g h 24 2).toNat) (pw_g gh5 24 3 - pw_g h 24 2).toNat (fun j hj => hx5_4 _ (by omega) (by omega))
              have D : (10 : Int) ^ (pw_g gh5 24 3 - pw_g h 24 2).toNat ≤ 1000 := by
                have : ∀ n : Nat, n ≤ 3 → (10 : Int) ^ n ≤ 1000 := by decide
                exact this _ (by omega)
              have hTe := hT (pw_g gh5 24 3).toNat
              rw [show (pw_g h28 24 3 - pw_g h 24 2).toNat = (pw_g gh5 24 3 - pw_g h 24 2).toNat + 1 by omega]
              show _ = 10 * pt_hd (pw_g h 25) (pw_g h 24 2).toNat (pw_g gh5 24 3 - pw_g h 24 2).toNat + (pw_g h 25 ((pw_g h 24 2).toNat + (pw_g gh5 24 3 - pw_g h 24 2).toNat) - 48)
              rw [show (pw_g h 24 2).toNat + (pw_g gh5 24 3 - pw_g h 24 2).toNat = (pw_g gh5 24 3).toNat by omega, ← hTe]
              unfold pt_di at hle
              omega
            refine pw_goto E (pc' := 5) rfl (by decide) ?_
            have he29 : pw_g h28 24 3 = (pw_g h25 24 3) + 1 := by rw [← h28w]; exact pw_g_eq (c := 24) (k := 3) h25I rfl rfl (by omega) (by omega)
            have he30 : pw_g h28 24 1 = pw_g h25 24 1 := by rw [← h28w]; exact pw_g_ne (by omega)
            have he31 : pw_g h25 24 1 = pw_g gh5 24 1 := by rw [← h25w]; exact pw_g_ne (by omega)
            have he32 : pw_g h28 24 2 = pw_g h25 24 2 := by rw [← h28w]; exact pw_g_ne (by omega)
            have he33 : pw_g h25 24 2 = pw_g gh5 24 2 := by rw [← h25w]; exact pw_g_ne (by omega)
            have he34 : pw_g h28 24 5 = pw_g h25 24 5 := by rw [← h28w]; exact pw_g_ne (by omega)
            have he35 : pw_g h25 24 5 = x24 := by rw [← h25w]; exact pw_g_eq (c := 24) (k := 5) I5 rfl rfl (by omega) (by omega)
            exact ih5 _ (by omega)  h28 h28I h28F  (by omega) (by omega) (by omega) (by omega) oA oV rfl
        · skip
          refine pw_if E (pc' := 68) rfl (by decide) (by omega) (by omega) ?_ ?_
          · intro hc37
            change x16 = (0 : Int) at hc37
            refine pw_ld E (pc' := 69) (st' := [.ref 40]) rfl (fun _ => rfl) ?_
            refine pw_ld E (pc' := 70) (st' := [.ref 40, .ref 40]) rfl (fun _ => rfl) ?_
            refine pw_getI2 I5 E (c := 24) (k := 3) (pc' := 73) rfl rfl rfl rfl rfl rfl (fun hf38a hf38b => ?_)
            refine pw_ld E (pc' := 74) (st' := [.ref 40, pw_i (pw_g gh5 24 3), .ref 40]) rfl (fun _ => rfl) ?_
            refine pw_getI2 I5 E (c := 24) (k := 2) (pc' := 77) rfl rfl rfl rfl rfl rfl (fun hf39a hf39b => ?_)
            refine pw_sub E (pc' := 78) rfl rfl ?_
            refine pw_ld E (pc' := 79) (st' := [pw_i 4, pw_i ((pw_g gh5 24 3) - (pw_g gh5 24 2)), .ref 40]) rfl (fun _ => rfl) ?_
            refine pw_if2 E (pc' := 86) rfl (by decide) (by omega) (by omega) (by decide) (by decide) ?_ ?_
            · intro hc40
              change (4 : Int) < (pw_g gh5 24 3) - (pw_g gh5 24 2) at hc40
              refine pw_ld E (pc' := 87) (st' := [pw_i 0, .ref 40]) rfl (fun _ => rfl) ?_
              refine pw_putI I5 E (c := 24) (k := 4) (pc' := 90) rfl rfl rfl rfl (by omega) (by omega) (by omega) (by omega) rfl rfl ?_
              intro h41I h41E
              generalize h41w : pw_w gh5 24 4 (pw_i 0) = h41 at h41I h41E ⊢
              have h41F := E5.tr (h41E.wk (W' := [24]) (by first | rfl | simp))
              refine pw_vret E rfl ?_
              have f1 : pw_g h41 24 1 = pw_g gh5 24 1 := by rw [← h41w]; exact pw_g_ne (by omega)
              have f2 : pw_g h41 24 2 = pw_g gh5 24 2 := by rw [← h41w]; exact pw_g_ne (by omega)
              have f3 : pw_g h41 24 3 = pw_g gh5 24 3 := by rw [← h41w]; exact pw_g_ne (by omega)
              have f5 : pw_g h41 24 5 = pw_g gh5 24 5 := by rw [← h41w]; exact pw_g_ne (by omega)
              have f4 : pw_g h41 24 4 = 0 := by rw [← h41w]; exact pw_g_eq (c := 24) (k := 4) I5 rfl rfl (by omega) (by omega)
              have hT : ∀ j : Nat, pw_g gh5 25 j = pw_g h 25 j := fun j => pw_Eg (c := 25) I E5 rfl rfl j
              have hend : pw_g h41 24 3 < pw_g h 24 1 → ¬ pt_di (pw_g h 25 (pw_g h41 24 3).toNat) := fun q => by (rw [f3, ← hT]; rcases hx16r with w | w <;> first | exact w.2 | omega)
              have hlt : pw_g h 24 3 < pw_g gh5 24 3 := by
                by_cases q : pw_g gh5 24 3 = pw_g h 24 3
                · have w := hT (pw_g gh5 24 3).toNat; rw [q] at w; rw [q] at hx16r; omega
                · omega
              exact ⟨h41I, h41F, ⟨by omega, by omega, by omega, by omega, fun j p q => hx5_4 j p (by omega), hend, fun q => by omega, fun q => ⟨by omega, by rw [f5, f3]; exact hx5_5 (by omega)⟩⟩, rfl⟩
            · intro hc42
              change ¬ ((4 : Int) < (pw_g gh5 24 3) - (pw_g gh5 24 2)) at hc42
              refine pw_ld E (pc' := 83) (st' := [pw_i 2, .ref 40]) rfl (fun _ => rfl) ?_
              refine pw_goto E (pc' := 87) rfl (by decide) ?_
              refine pw_putI I5 E (c := 24) (k := 4) (pc' := 90) rfl rfl rfl rfl (by omega) (by omega) (by omega) (by omega) rfl rfl ?_
              intro h43I h43E
              generalize h43w : pw_w gh5 24 4 (pw_i 2) = h43 at h43I h43E ⊢
              have h43F := E5.tr (h43E.wk (W' := [24]) (by first | rfl | simp))
              refine pw_vret E rfl ?_
              have f1 : pw_g h43 24 1 = pw_g gh5 24 1 := by rw [← h43w]; exact pw_g_ne (by omega)
              have f2 : pw_g h43 24 2 = pw_g gh5 24 2 := by rw [← h43w]; exact pw_g_ne (by omega)
              have f3 : pw_g h43 24 3 = pw_g gh5 24 3 := by rw [← h43w]; exact pw_g_ne (by omega)
              have f5 : pw_g h43 24 5 = pw_g gh5 24 5 := by rw [← h43w]; exact pw_g_ne (by omega)
              have f4 : pw_g h43 24 4 = 2 := by rw [← h43w]; exact pw_g_eq (c := 24) (k := 4) I5 rfl rfl (by omega) (by omega)
              have hT : ∀ j : Nat, pw_g gh5 25 j = pw_g h 25 j := fun j => pw_Eg (c := 25) I E5 rfl rfl j
              have hend : pw_g h43 24 3 < pw_g h 24 1 → ¬ pt_di (pw_g h 25 (pw_g h43 24 3).toNat) := fun q => by (rw [f3, ← hT]; rcases hx16r with w | w <;> first | exact w.2 | omega)
              have hlt : pw_g h 24 3 < pw_g gh5 24 3 := by
                by_cases q : pw_g gh5 24 3 = pw_g h 24 3
                · have w := hT (pw_g gh5 24 3).toNat; rw [q] at w; rw [q] at hx16r; omega
                · omega
              exact ⟨h43I, h43F, ⟨by omega, by omega, by omega, by omega, fun j p q => hx5_4 j p (by omega), hend, fun q => by omega, fun q => ⟨by omega, by rw [f5, f3]; exact hx5_5 (by omega)⟩⟩, rfl⟩
          · intro hc44
            change ¬ (x16 = (0 : Int)) at hc44
            exfalso; omega
  have he45 : pw_g h1 24 3 = pw_g h 24 3 := by rw [← h1w]; exact pw_g_ne (by omega)
  have he46 : pw_g h1 24 1 = pw_g h 24 1 := by rw [← h1w]; exact pw_g_ne (by omega)
  have he47 : pw_g h1 24 2 = pw_g h 24 2 := by rw [← h1w]; exact pw_g_ne (by omega)
  have he48 : pw_g h1 24 5 = 0 := by rw [← h1w]; exact pw_g_eq (c := 24) (k := 5) I rfl rfl (by omega) (by omega)
  exact L5 _  h1 h1I h1F  (by omega) (by omega) (by omega) (by omega) (fun j p q => by omega) (fun _ => by rw [show (pw_g h1 24 3 - pw_g h 24 2).toNat = 0 by omega]; show pw_g h1 24 5 = 0; omega) rfl
set_option maxHeartbeats 4000000 in
theorem cm_101_x24 {X : List (Nat × List Value)} {d : Nat} {h : pm_H} (hd : 3 ≤ d) (I : pw_I h) (hX : pw_Xk X) (hp0 : pw_Xs X) (hp1 : pw_g h 24 3 ≤ pw_g h 24 1) : pw X d h 101 0 [some (.ref 40)] [] (fun h' v => pw_I h' ∧ pw_E [24] h h' ∧ (px_AD h h') ∧ (v = .inl none)) := by
  have E : pm_ent 101 = some (1, 1, 9, 4, pmc_101) := rfl
  have E0 : pw_E [24] h h := pw_E.rf _ _
  refine pw_ld E (pc' := 1) (st' := [.ref 40]) rfl (fun _ => rfl) ?_
  refine pw_ld E (pc' := 2) (st' := [.ref 40, .ref 40]) rfl (fun _ => rfl) ?_
  refine pw_getI2 I E (c := 24) (k := 3) (pc' := 5) rfl rfl rfl rfl rfl rfl (fun hf1a hf1b => ?_)
  refine pw_putI I E (c := 24) (k := 2) (pc' := 8) rfl rfl rfl rfl (by omega) (by omega) (by omega) (by omega) rfl rfl ?_
  intro h2I h2E
  generalize h2w : pw_w h 24 2 (pw_i (pw_g h 24 3)) = h2 at h2I h2E ⊢
  have h2F := E0.tr (h2E.wk (W' := [24]) (by first | rfl | simp))
  have L8 : ∀ (n8 : Nat)  (gh8 : pm_H), pw_I gh8 → pw_E [24] h gh8 → pw_g gh8 24 1 = pw_g h 24 1 → pw_g h 24 3 ≤ pw_g gh8 24 2 → pw_g gh8 24 2 ≤ pw_g h 24 1 → pw_g gh8 24 3 = pw_g h 24 3 → (∀ j : Nat, (pw_g h 24 3).toNat ≤ j → j < (pw_g gh8 24 2).toNat → pt_bl (pw_g h 25 j)) → (1000 - pw_g gh8 24 2).toNat = n8 → pw X d gh8 101 8 [some (.ref 40)] [] (fun h' v => pw_I h' ∧ pw_E [24] h h' ∧ (px_AD h h') ∧ (v = .inl none)) := by
    intro n8
    induction n8 using Nat.strongRecOn with
    | ind n8 ih8 =>
      intro  gh8 I8 E8 hx8_0 hx8_1 hx8_2 hx8_3 hx8_4 hm8
      refine pw_ld E (pc' := 9) (st' := [.ref 40]) rfl (fun _ => rfl) ?_
      refine pw_getI2 I8 E (c := 24) (k := 2) (pc' := 12) rfl rfl rfl rfl rfl rfl (fun hf3a hf3b => ?_)
      refine pw_ld E (pc' := 13) (st' := [.ref 40, pw_i (pw_g gh8 24 2)]) rfl (fun _ => rfl) ?_
      refine pw_getI2 I8 E (c := 24) (k := 1) (pc' := 16) rfl rfl rfl rfl rfl rfl (fun hf4a hf4b => ?_)
      refine pw_if2 E (pc' := 47) rfl (by decide) (by omega) (by omega) (by omega) (by omega) ?_ ?_
      · intro hc5
        change pw_g gh8 24 1 ≤ pw_g gh8 24 2 at hc5
        refine pw_ld E (pc' := 48) (st' := [.ref 40]) rfl (fun _ => rfl) ?_
        refine pw_ld E (pc' := 49) (st' := [.ref 40, .ref 40]) rfl (fun _ => rfl) ?_
        refine pw_getI2 I8 E (c := 24) (k := 2) (pc' := 52) rfl rfl rfl rfl rfl rfl (fun hf6a hf6b => ?_)
        refine pw_putI I8 E (c := 24) (k := 3) (pc' := 55) rfl rfl rfl rfl (by omega) (by omega) (by omega) (by omega) rfl rfl ?_
        intro h7I h7E
        generalize h7w : pw_w gh8 24 3 (pw_i (pw_g gh8 24 2)) = h7 at h7I h7E ⊢
        have h7F := E8.tr (h7E.wk (W' := [24]) (by first | rfl | simp))
        have m1 : pw_g h7 24 1 = pw_g gh8 24 1 := by rw [← h7w]; exact pw_g_ne (by omega)
        have m2 : pw_g h7 24 2 = pw_g gh8 24 2 := by rw [← h7w]; exact pw_g_ne (by omega)
        have m3 : pw_g h7 24 3 = pw_g gh8 24 2 := by rw [← h7w]; exact pw_g_eq (c := 24) (k := 3) I8 rfl rfl (by omega) (by omega)
        have mT : pw_g h7 25 = pw_g h 25 := funext fun j => pw_Eg (c := 25) I h7F rfl rfl j
        have z0 := (pw_gI (c := 24) (k := 3) I rfl rfl).1
        have mB : ∀ j : Nat, (pw_g h 24 3).toNat ≤ j → j < (pw_g h7 24 2).toNat → pt_bl (pw_g h 25 j) := fun j p q => hx8_4 j p (by omega)
        refine pw_ld E (pc' := 56) (st' := [.ref 40]) rfl (fun _ => rfl) ?_
        have he9 : pw_g h7 24 2 = pw_g gh8 24 2 := by rw [← h7w]; exact pw_g_ne (by omega)
        refine pw_getI2 h7I E (c := 24) (k := 2) (pc' := 59) rfl rfl rfl rfl rfl rfl (fun hf8a hf8b => ?_)
        refine pw_ld E (pc' := 60) (st' := [.ref 40, pw_i (pw_g h7 24 2)]) rfl (fun _ => rfl) ?_
        have he11 : pw_g h7 24 1 = pw_g gh8 24 1 := by rw [← h7w]; exact pw_g_ne (by omega)
        refine pw_getI2 h7I E (c := 24) (k := 1) (pc' := 63) rfl rfl rfl rfl rfl rfl (fun hf10a hf10b => ?_)
        refine pw_if2 E (pc' := 74) rfl (by decide) (by omega) (by omega) (by omega) (by omega) ?_ ?_
        · intro hc12
          change pw_g h7 24 2 < pw_g h7 24 1 at hc12
          refine pw_ld E (pc' := 75) (st' := [.ref 40]) rfl (fun _ => rfl) ?_
          refine pw_getR (b := 41) h7I E (c := 24) (k := 0) (pc' := 78) rfl rfl rfl rfl rfl rfl rfl ?_
          refine pw_ld E (pc' := 79) (st' := [.ref 40, .ref 41]) rfl (fun _ => rfl) ?_
          refine pw_getI2 h7I E (c := 24) (k := 2) (pc' := 82) rfl rfl rfl rfl rfl rfl (fun hf13a hf13b => ?_)
          refine pw_ald2 h7I E (c := 25) (pc' := 83) rfl rfl rfl (by decide) rfl (by decide) (by omega) (by omega) rfl (fun hf14a hf14b => ?_)
          refine pw_call (m' := 103) (As := [pw_i (pw_g h7 25 ((pw_g h7 24 2).toNat))]) (rest := []) (ls'' := [some (pw_i (pw_g h7 25 ((pw_g h7 24 2).toNat)))]) (Nat.le_trans (by decide) hd) E rfl (fun _ => pw_iS rfl rfl rfl) (rfl : pm_ent 103 = some (1, 1, 9, 1, pmc_103)) rfl rfl (cm_103_x24 (pw_dp hd (by decide)) h7I (pw_g h7 25 ((pw_g h7 24 2).toNat)) (by omega) (by omega)) ?_
          rintro u16 v15 ⟨rfl, x17, rfl, hx17a, hx17b, hx17r⟩
          refine ⟨_, rfl, ?_⟩
          show pw X d h7 101 86 [some (.ref 40)] [pw_i x17] _
          change (x17 = 1 ∧ 97 ≤ (pw_g h7 25 ((pw_g h7 24 2).toNat)) ∧ (pw_g h7 25 ((pw_g h7 24 2).toNat)) ≤ 122) ∨ (x17 = 0 ∧ ¬ (97 ≤ (pw_g h7 25 ((pw_g h7 24 2).toNat)) ∧ (pw_g h7 25 ((pw_g h7 24 2).toNat)) ≤ 122)) at hx17r
          rcases (by omega : x17 = 1 ∨ x17 = 0) with hb18 | hb18
          · skip
            refine pw_if E (pc' := 96) rfl (by decide) (by omega) (by omega) ?_ ?_
            · intro hc19
              change x17 = (0 : Int) at hc19
              exfalso; omega
            · intro hc20
              change ¬ (x17 = (0 : Int)) at hc20
              have hidx : pw_g h7 25 (pw_g h7 24 3).toNat = pw_g h7 25 (pw_g h7 24 2).toNat := by rw [show pw_g h7 24 3 = pw_g h7 24 2 by omega]
              refine pw_ld E (pc' := 90) (st' := [.ref 40]) rfl (fun _ => rfl) ?_
              have he21 : pw_g h7 24 3 = pw_g gh8 24 2 := by rw [← h7w]; exact pw_g_eq (c := 24) (k := 3) I8 rfl rfl (by omega) (by omega)
              obtain ⟨f22l, f22h, -⟩ := pw_obj (c := 24) h7I rfl
              refine pw_call (m' := 104) (As := [.ref 40]) (rest := []) (ls'' := [some (.ref 40)]) (Nat.le_trans (by decide) hd) E rfl (fun _ => pw_iV rfl rfl rfl rfl (pw_cellI f22h rfl)) (rfl : pm_ent 104 = some (1, 1, 9, 4, pmc_104)) rfl rfl (cm_104_x24 (pw_dp hd (by decide)) h7I (by omega) (by omega) (by omega)) ?_
              rintro h23 v24 ⟨h23I, h23E, hqtle, rfl⟩
              refine ⟨_, rfl, ?_⟩
              have h23F := h7F.tr (h23E.wk (W' := [24]) (by first | rfl | simp))
              show pw X d h23 101 93 [some (.ref 40)] [] _
              refine pw_goto E (pc' := 167) rfl (by decide) ?_
              refine pw_vret E rfl ?_
              exact ⟨h23I, h23F, px_AD.w hqtle mT (by omega) (by omega) (by omega) z0 mB, rfl⟩
          · skip
            refine pw_if E (pc' := 96) rfl (by decide) (by omega) (by omega) ?_ ?_
            · intro hc26
              change x17 = (0 : Int) at hc26
              refine pw_ld E (pc' := 97) (st' := [.ref 40]) rfl (fun _ => rfl) ?_
              refine pw_getR (b := 41) h7I E (c := 24) (k := 0) (pc' := 100) rfl rfl rfl rfl rfl rfl rfl ?_
              refine pw_ld E (pc' := 101) (st' := [.ref 40, .ref 41]) rfl (fun _ => rfl) ?_
              refine pw_getI2 h7I E (c := 24) (k := 2) (pc' := 104) rfl rfl rfl rfl rfl rfl (fun hf27a hf27b => ?_)
              refine pw_ald2 h7I E (c := 25) (pc' := 105) rfl rfl rfl (by decide) rfl (by decide) (by omega) (by omega) rfl (fun hf28a hf28b => ?_)
              refine pw_call (m' := 105) (As := [pw_i (pw_g h7 25 ((pw_g h7 24 2).toNat))]) (rest := []) (ls'' := [some (pw_i (pw_g h7 25 ((pw_g h7 24 2).toNat)))]) (Nat.le_trans (by decide) hd) E rfl (fun _ => pw_iS rfl rfl rfl) (rfl : pm_ent 105 = some (1, 1, 9, 1, pmc_105)) rfl rfl (cm_105_x24 (pw_dp hd (by decide)) h7I (pw_g h7 25 ((pw_g h7 24 2).toNat)) (by omega) (by omega)) ?_
              rintro u30 v29 ⟨rfl, x31, rfl, hx31a, hx31b, hx31r⟩
              refine ⟨_, rfl, ?_⟩
              show pw X d h7 101 108 [some (.ref 40)] [pw_i x31] _
              change (x31 = 1 ∧ 48 ≤ (pw_g h7 25 ((pw_g h7 24 2).toNat)) ∧ (pw_g h7 25 ((pw_g h7 24 2).toNat)) ≤ 57) ∨ (x31 = 0 ∧ ¬ (48 ≤ (pw_g h7 25 ((pw_g h7 24 2).toNat)) ∧ (pw_g h7 25 ((pw_g h7 24 2).toNat)) ≤ 57)) at hx31r
              rcases (by omega : x31 = 1 ∨ x31 = 0) with hb32 | hb32
              · skip
                refine pw_if E (pc' := 118) rfl (by decide) (by omega) (by omega) ?_ ?_
                · intro hc33
                  change x31 = (0 : Int) at hc33
                  exfalso; omega
                · intro hc34
                  change ¬ (x31 = (0 : Int)) at hc34
                  have hidx : pw_g h7 25 (pw_g h7 24 3).toNat = pw_g h7 25 (pw_g h7 24 2).toNat := by rw [show pw_g h7 24 3 = pw_g h7 24 2 by omega]
                  refine pw_ld E (pc' := 112) (st' := [.ref 40]) rfl (fun _ => rfl) ?_
                  have he35 : pw_g h7 24 3 = pw_g gh8 24 2 := by rw [← h7w]; exact pw_g_eq (c := 24) (k := 3) I8 rfl rfl (by omega) (by omega)
                  obtain ⟨f36l, f36h, -⟩ := pw_obj (c := 24) h7I rfl
                  refine pw_call (m' := 106) (As := [.ref 40]) (rest := []) (ls'' := [some (.ref 40)]) (Nat.le_trans (by decide) hd) E rfl (fun _ => pw_iV rfl rfl rfl rfl (pw_cellI f36h rfl)) (rfl : pm_ent 106 = some (1, 1, 9, 4, pmc_106)) rfl rfl (cm_106_x24 (pw_dp hd (by decide)) h7I (by omega) (by omega) (by omega)) ?_
                  rintro h37 v38 ⟨h37I, h37E, hqtdi, rfl⟩
                  refine ⟨_, rfl, ?_⟩
                  have h37F := h7F.tr (h37E.wk (W' := [24]) (by first | rfl | simp))
                  show pw X d h37 101 115 [some (.ref 40)] [] _
                  refine pw_goto E (pc' := 167) rfl (by decide) ?_
                  refine pw_vret E rfl ?_
                  exact ⟨h37I, h37F, px_AD.n hqtdi mT (by omega) (by omega) (by omega) z0 mB, rfl⟩
              · skip
                refine pw_if E (pc' := 118) rfl (by decide) (by omega) (by omega) ?_ ?_
                · intro hc40
                  change x31 = (0 : Int) at hc40
                  refine pw_ld E (pc' := 119) (st' := [.ref 40]) rfl (fun _ => rfl) ?_
                  refine pw_ld E (pc' := 120) (st' := [.ref 40, .ref 40]) rfl (fun _ => rfl) ?_
                  have he42 : pw_g h7 24 3 = pw_g gh8 24 2 := by rw [← h7w]; exact pw_g_eq (c := 24) (k := 3) I8 rfl rfl (by omega) (by omega)
                  refine pw_getI2 h7I E (c := 24) (k := 3) (pc' := 123) rfl rfl rfl rfl rfl rfl (fun hf41a hf41b => ?_)
                  refine pw_ld E (pc' := 124) (st' := [pw_i 1, pw_i (pw_g h7 24 3), .ref 40]) rfl (fun _ => rfl) ?_
                  refine pw_add E (pc' := 125) rfl rfl ?_
                  refine pw_putI h7I E (c := 24) (k := 3) (pc' := 128) rfl rfl rfl rfl (by omega) (by omega) (by omega) (by omega) rfl rfl ?_
                  intro h43I h43E
                  generalize h43w : pw_w h7 24 3 (pw_i ((pw_g h7 24 3) + 1)) = h43 at h43I h43E ⊢
                  have h43F := h7F.tr (h43E.wk (W' := [24]) (by first | rfl | simp))
                  refine pw_ld E (pc' := 129) (st' := [.ref 40]) rfl (fun _ => rfl) ?_
                  refine pw_ld E (pc' := 130) (st' := [.ref 40, .ref 40]) rfl (fun _ => rfl) ?_
                  refine pw_getR (b := 41) h43I E (c := 24) (k := 0) (pc' := 133) rfl rfl rfl rfl rfl rfl rfl ?_
                  refine pw_ld E (pc' := 134) (st' := [.ref 40, .ref 41, .ref 40]) rfl (fun _ => rfl) ?_
                  have he45 : pw_g h43 24 2 = pw_g h7 24 2 := by rw [← h43w]; exact pw_g_ne (by omega)
                  refine pw_getI2 h43I E (c := 24) (k := 2) (pc' := 137) rfl rfl rfl rfl rfl rfl (fun hf44a hf44b => ?_)
                  refine pw_ald2 h43I E (c := 25) (pc' := 138) rfl rfl rfl (by decide) rfl (by decide) (by omega) (by omega) rfl (fun hf46a hf46b => ?_)
                  refine pw_putI h43I E (c := 24) (k := 5) (pc' := 141) rfl rfl rfl rfl (by omega) (by omega) (by omega) (by omega) rfl rfl ?_
                  intro h47I h47E
                  generalize h47w : pw_w h43 24 5 (pw_i (pw_g h43 25 ((pw_g h43 24 2).toNat))) = h47 at h47I h47E ⊢
                  have h47F := h43F.tr (h47E.wk (W' := [24]) (by first | rfl | simp))
                  refine pw_ld E (pc' := 142) (st' := [.ref 40]) rfl (fun _ => rfl) ?_
                  refine pw_ld E (pc' := 144) (st' := [.ref 8, .ref 40]) rfl (fun _ => rfl) ?_
                  refine pw_ld E (pc' := 145) (st' := [.ref 40, .ref 8, .ref 40]) rfl (fun _ => rfl) ?_
                  refine pw_getR (b := 41) h47I E (c := 24) (k := 0) (pc' := 148) rfl rfl rfl rfl rfl rfl rfl ?_
                  refine pw_ld E (pc' := 149) (st' := [.ref 40, .ref 41, .ref 8, .ref 40]) rfl (fun _ => rfl) ?_
                  have he49 : pw_g h47 24 2 = pw_g h43 24 2 := by rw [← h47w]; exact pw_g_ne (by omega)
                  refine pw_getI2 h47I E (c := 24) (k := 2) (pc' := 152) rfl rfl rfl rfl rfl rfl (fun hf48a hf48b => ?_)
                  refine pw_ald2 h47I E (c := 25) (pc' := 153) rfl rfl rfl (by decide) rfl (by decide) (by omega) (by omega) rfl (fun hf50a hf50b => ?_)
                  refine pw_sidxE E rfl rfl hp0 (by omega) (by omega) rfl (fun x51 hx51a hx51b hx51r => ?_)
                  refine pw_if E (pc' := 163) rfl (by decide) (by omega) (by omega) ?_ ?_
                  · intro hc52
                    change x51 < (0 : Int) at hc52
                    refine pw_ld E (pc' := 164) (st' := [pw_i 0, .ref 40]) rfl (fun _ => rfl) ?_
                    refine pw_putI h47I E (c := 24) (k := 4) (pc' := 167) rfl rfl rfl rfl (by omega) (by omega) (by omega) (by omega) rfl rfl ?_
                    intro h53I h53E
                    generalize h53w : pw_w h47 24 4 (pw_i 0) = h53 at h53I h53E ⊢
                    have h53F := h47F.tr (h53E.wk (W' := [24]) (by first | rfl | simp))
                    refine pw_vret E rfl ?_
                    exfalso
                    omega
                  · intro hc54
                    change ¬ (x51 < (0 : Int)) at hc54
                    refine pw_ld E (pc' := 160) (st' := [pw_i 3, .ref 40]) rfl (fun _ => rfl) ?_
                    refine pw_goto E (pc' := 164) rfl (by decide) ?_
                    refine pw_putI h47I E (c := 24) (k := 4) (pc' := 167) rfl rfl rfl rfl (by omega) (by omega) (by omega) (by omega) rfl rfl ?_
                    intro h55I h55E
                    generalize h55w : pw_w h47 24 4 (pw_i 3) = h55 at h55I h55E ⊢
                    have h55F := h47F.tr (h55E.wk (W' := [24]) (by first | rfl | simp))
                    refine pw_vret E rfl ?_
                    exfalso
                    omega
                · intro hc56
                  change ¬ (x31 = (0 : Int)) at hc56
                  exfalso; omega
            · intro hc57
              change ¬ (x17 = (0 : Int)) at hc57
              exfalso; omega
        · intro hc58
          change ¬ (pw_g h7 24 2 < pw_g h7 24 1) at hc58
          refine pw_ld E (pc' := 67) (st' := [.ref 40]) rfl (fun _ => rfl) ?_
          refine pw_ld E (pc' := 68) (st' := [pw_i 4, .ref 40]) rfl (fun _ => rfl) ?_
          refine pw_putI h7I E (c := 24) (k := 4) (pc' := 71) rfl rfl rfl rfl (by omega) (by omega) (by omega) (by omega) rfl rfl ?_
          intro h59I h59E
          generalize h59w : pw_w h7 24 4 (pw_i 4) = h59 at h59I h59E ⊢
          have h59F := h7F.tr (h59E.wk (W' := [24]) (by first | rfl | simp))
          refine pw_goto E (pc' := 167) rfl (by decide) ?_
          refine pw_vret E rfl ?_
          have f1 : pw_g h59 24 1 = pw_g h7 24 1 := by rw [← h59w]; exact pw_g_ne (by omega)
          have f2 : pw_g h59 24 2 = pw_g h7 24 2 := by rw [← h59w]; exact pw_g_ne (by omega)
          have f3 : pw_g h59 24 3 = pw_g h7 24 3 := by rw [← h59w]; exact pw_g_ne (by omega)
          have f4 : pw_g h59 24 4 = 4 := by rw [← h59w]; exact pw_g_eq (c := 24) (k := 4) h7I rfl rfl (by omega) (by omega)
          exact ⟨h59I, h59F, ⟨by omega, Or.inl ⟨fun j p q => mB j p (by omega), f4, by omega, by omega⟩⟩, rfl⟩
      · intro hc60
        change ¬ (pw_g gh8 24 1 ≤ pw_g gh8 24 2) at hc60
        refine pw_ld E (pc' := 20) (st' := [.ref 40]) rfl (fun _ => rfl) ?_
        refine pw_getR (b := 41) I8 E (c := 24) (k := 0) (pc' := 23) rfl rfl rfl rfl rfl rfl rfl ?_
        refine pw_ld E (pc' := 24) (st' := [.ref 40, .ref 41]) rfl (fun _ => rfl) ?_
        refine pw_getI2 I8 E (c := 24) (k := 2) (pc' := 27) rfl rfl rfl rfl rfl rfl (fun hf61a hf61b => ?_)
        refine pw_ald2 I8 E (c := 25) (pc' := 28) rfl rfl rfl (by decide) rfl (by decide) (by omega) (by omega) rfl (fun hf62a hf62b => ?_)
        refine pw_call (m' := 102) (As := [pw_i (pw_g gh8 25 ((pw_g gh8 24 2).toNat))]) (rest := []) (ls'' := [some (pw_i (pw_g gh8 25 ((pw_g gh8 24 2).toNat)))]) (Nat.le_trans (by decide) hd) E rfl (fun _ => pw_iS rfl rfl rfl) (rfl : pm_ent 102 = some (1, 1, 9, 1, pmc_102)) rfl rfl (cm_102_x24 (pw_dp hd (by decide)) I8 (pw_g gh8 25 ((pw_g gh8 24 2).toNat)) (by omega) (by omega)) ?_
        rintro u64 v63 ⟨rfl, x65, rfl, hx65a, hx65b, hx65r⟩
        refine ⟨_, rfl, ?_⟩
        show pw X d gh8 101 31 [some (.ref 40)] [pw_i x65] _
        change (x65 = 1 ∧ ((pw_g gh8 25 ((pw_g gh8 24 2).toNat)) = 10 ∨ (pw_g gh8 25 ((pw_g gh8 24 2).toNat)) = 32)) ∨ (x65 = 0 ∧ ¬ ((pw_g gh8 25 ((pw_g gh8 24 2).toNat)) = 10 ∨ (pw_g gh8 25 ((pw_g gh8 24 2).toNat)) = 32)) at hx65r
        rcases (by omega : x65 = 1 ∨ x65 = 0) with hb66 | hb66
        · skip
          refine pw_if E (pc' := 47) rfl (by decide) (by omega) (by omega) ?_ ?_
          · intro hc67
            change x65 = (0 : Int) at hc67
            exfalso; omega
          · intro hc68
            change ¬ (x65 = (0 : Int)) at hc68
            refine pw_ld E (pc' := 35) (st' := [.ref 40]) rfl (fun _ => rfl) ?_
            refine pw_ld E (pc' := 36) (st' := [.ref 40, .ref 40]) rfl (fun _ => rfl) ?_
            refine pw_getI2 I8 E (c := 24) (k := 2) (pc' := 39) rfl rfl rfl rfl rfl rfl (fun hf69a hf69b => ?_)
            refine pw_ld E (pc' := 40) (st' := [pw_i 1, pw_i (pw_g gh8 24 2), .ref 40]) rfl (fun _ => rfl) ?_
            refine pw_add E (pc' := 41) rfl rfl ?_
            refine pw_putI I8 E (c := 24) (k := 2) (pc' := 44) rfl rfl rfl rfl (by omega) (by omega) (by omega) (by omega) rfl rfl ?_
            intro h70I h70E
            generalize h70w : pw_w gh8 24 2 (pw_i ((pw_g gh8 24 2) + 1)) = h70 at h70I h70E ⊢
            have h70F := E8.tr (h70E.wk (W' := [24]) (by first | rfl | simp))
            have hT : ∀ j : Nat, pw_g gh8 25 j = pw_g h 25 j := fun j => pw_Eg (c := 25) I E8 rfl rfl j
            have hbl : pt_bl (pw_g h 25 (pw_g gh8 24 2).toNat) := by rw [← hT]; rcases hx65r with q | q <;> first | exact q.2 | omega
            have e2 : pw_g h70 24 2 = pw_g gh8 24 2 + 1 := by rw [← h70w]; exact pw_g_eq (c := 24) (k := 2) I8 rfl rfl (by omega) (by omega)
            have oB : ∀ j : Nat, (pw_g h 24 3).toNat ≤ j → j < (pw_g h70 24 2).toNat → pt_bl (pw_g h 25 j) := fun j p q => by
              by_cases z : j = (pw_g gh8 24 2).toNat
              · rw [z]; exact hbl
              · exact hx8_4 j p (by omega)
            refine pw_goto E (pc' := 8) rfl (by decide) ?_
            have he71 : pw_g h70 24 2 = (pw_g gh8 24 2) + 1 := by rw [← h70w]; exact pw_g_eq (c := 24) (k := 2) I8 rfl rfl (by omega) (by omega)
            have he72 : pw_g h70 24 3 = pw_g gh8 24 3 := by rw [← h70w]; exact pw_g_ne (by omega)
            have he73 : pw_g h70 24 1 = pw_g gh8 24 1 := by rw [← h70w]; exact pw_g_ne (by omega)
            exact ih8 _ (by omega)  h70 h70I h70F  (by omega) (by omega) (by omega) (by omega) oB rfl
        · skip
          refine pw_if E (pc' := 47) rfl (by decide) (by omega) (by omega) ?_ ?_
          · intro hc75
            change x65 = (0 : Int) at hc75
            refine pw_ld E (pc' := 48) (st' := [.ref 40]) rfl (fun _ => rfl) ?_
            refine pw_ld E (pc' := 49) (st' := [.ref 40, .ref 40]) rfl (fun _ => rfl) ?_
            refine pw_getI2 I8 E (c := 24) (k := 2) (pc' := 52) rfl rfl rfl rfl rfl rfl (fun hf76a hf76b => ?_)
            refine pw_putI I8 E (c := 24) (k := 3) (pc' := 55) rfl rfl rfl rfl (by omega) (by omega) (by omega) (by omega) rfl rfl ?_
            intro h77I h77E
            generalize h77w : pw_w gh8 24 3 (pw_i (pw_g gh8 24 2)) = h77 at h77I h77E ⊢
            have h77F := E8.tr (h77E.wk (W' := [24]) (by first | rfl | simp))
            have m1 : pw_g h77 24 1 = pw_g gh8 24 1 := by rw [← h77w]; exact pw_g_ne (by omega)
            have m2 : pw_g h77 24 2 = pw_g gh8 24 2 := by rw [← h77w]; exact pw_g_ne (by omega)
            have m3 : pw_g h77 24 3 = pw_g gh8 24 2 := by rw [← h77w]; exact pw_g_eq (c := 24) (k := 3) I8 rfl rfl (by omega) (by omega)
            have mT : pw_g h77 25 = pw_g h 25 := funext fun j => pw_Eg (c := 25) I h77F rfl rfl j
            have z0 := (pw_gI (c := 24) (k := 3) I rfl rfl).1
            have mB : ∀ j : Nat, (pw_g h 24 3).toNat ≤ j → j < (pw_g h77 24 2).toNat → pt_bl (pw_g h 25 j) := fun j p q => hx8_4 j p (by omega)
            refine pw_ld E (pc' := 56) (st' := [.ref 40]) rfl (fun _ => rfl) ?_
            have he79 : pw_g h77 24 2 = pw_g gh8 24 2 := by rw [← h77w]; exact pw_g_ne (by omega)
            refine pw_getI2 h77I E (c := 24) (k := 2) (pc' := 59) rfl rfl rfl rfl rfl rfl (fun hf78a hf78b => ?_)
            refine pw_ld E (pc' := 60) (st' := [.ref 40, pw_i (pw_g h77 24 2)]) rfl (fun _ => rfl) ?_
            have he81 : pw_g h77 24 1 = pw_g gh8 24 1 := by rw [← h77w]; exact pw_g_ne (by omega)
            refine pw_getI2 h77I E (c := 24) (k := 1) (pc' := 63) rfl rfl rfl rfl rfl rfl (fun hf80a hf80b => ?_)
            refine pw_if2 E (pc' := 74) rfl (by decide) (by omega) (by omega) (by omega) (by omega) ?_ ?_
            · intro hc82
              change pw_g h77 24 2 < pw_g h77 24 1 at hc82
              refine pw_ld E (pc' := 75) (st' := [.ref 40]) rfl (fun _ => rfl) ?_
              refine pw_getR (b := 41) h77I E (c := 24) (k := 0) (pc' := 78) rfl rfl rfl rfl rfl rfl rfl ?_
              refine pw_ld E (pc' := 79) (st' := [.ref 40, .ref 41]) rfl (fun _ => rfl) ?_
              refine pw_getI2 h77I E (c := 24) (k := 2) (pc' := 82) rfl rfl rfl rfl rfl rfl (fun hf83a hf83b => ?_)
              refine pw_ald2 h77I E (c := 25) (pc' := 83) rfl rfl rfl (by decide) rfl (by decide) (by omega) (by omega) rfl (fun hf84a hf84b => ?_)
              refine pw_call (m' := 103) (As := [pw_i (pw_g h77 25 ((pw_g h77 24 2).toNat))]) (rest := []) (ls'' := [some (pw_i (pw_g h77 25 ((pw_g h77 24 2).toNat)))]) (Nat.le_trans (by decide) hd) E rfl (fun _ => pw_iS rfl rfl rfl) (rfl : pm_ent 103 = some (1, 1, 9, 1, pmc_103)) rfl rfl (cm_103_x24 (pw_dp hd (by decide)) h77I (pw_g h77 25 ((pw_g h77 24 2).toNat)) (by omega) (by omega)) ?_
              rintro u86 v85 ⟨rfl, x87, rfl, hx87a, hx87b, hx87r⟩
              refine ⟨_, rfl, ?_⟩
              show pw X d h77 101 86 [some (.ref 40)] [pw_i x87] _
              change (x87 = 1 ∧ 97 ≤ (pw_g h77 25 ((pw_g h77 24 2).toNat)) ∧ (pw_g h77 25 ((pw_g h77 24 2).toNat)) ≤ 122) ∨ (x87 = 0 ∧ ¬ (97 ≤ (pw_g h77 25 ((pw_g h77 24 2).toNat)) ∧ (pw_g h77 25 ((pw_g h77 24 2).toNat)) ≤ 122)) at hx87r
              rcases (by omega : x87 = 1 ∨ x87 = 0) with hb88 | hb88
              · skip
                refine pw_if E (pc' := 96) rfl (by decide) (by omega) (by omega) ?_ ?_
                · intro hc89
                  change x87 = (0 : Int) at hc89
                  exfalso; omega
                · intro hc90
                  change ¬ (x87 = (0 : Int)) at hc90
                  have hidx : pw_g h77 25 (pw_g h77 24 3).toNat = pw_g h77 25 (pw_g h77 24 2).toNat := by rw [show pw_g h77 24 3 = pw_g h77 24 2 by omega]
                  refine pw_ld E (pc' := 90) (st' := [.ref 40]) rfl (fun _ => rfl) ?_
                  have he91 : pw_g h77 24 3 = pw_g gh8 24 2 := by rw [← h77w]; exact pw_g_eq (c := 24) (k := 3) I8 rfl rfl (by omega) (by omega)
                  obtain ⟨f92l, f92h, -⟩ := pw_obj (c := 24) h77I rfl
                  refine pw_call (m' := 104) (As := [.ref 40]) (rest := []) (ls'' := [some (.ref 40)]) (Nat.le_trans (by decide) hd) E rfl (fun _ => pw_iV rfl rfl rfl rfl (pw_cellI f92h rfl)) (rfl : pm_ent 104 = some (1, 1, 9, 4, pmc_104)) rfl rfl (cm_104_x24 (pw_dp hd (by decide)) h77I (by omega) (by omega) (by omega)) ?_
                  rintro h93 v94 ⟨h93I, h93E, hqtle, rfl⟩
                  refine ⟨_, rfl, ?_⟩
                  have h93F := h77F.tr (h93E.wk (W' := [24]) (by first | rfl | simp))
                  show pw X d h93 101 93 [some (.ref 40)] [] _
                  refine pw_goto E (pc' := 167) rfl (by decide) ?_
                  refine pw_vret E rfl ?_
                  exact ⟨h93I, h93F, px_AD.w hqtle mT (by omega) (by omega) (by omega) z0 mB, rfl⟩
              · skip
                refine pw_if E (pc' := 96) rfl (by decide) (by omega) (by omega) ?_ ?_
                · intro hc96
                  change x87 = (0 : Int) at hc96
                  refine pw_ld E (pc' := 97) (st' := [.ref 40]) rfl (fun _ => rfl) ?_
                  refine pw_getR (b := 41) h77I E (c := 24) (k := 0) (pc' := 100) rfl rfl rfl rfl rfl rfl rfl ?_
                  refine pw_ld E (pc' := 101) (st' := [.ref 40, .ref 41]) rfl (fun _ => rfl) ?_
                  refine pw_getI2 h77I E (c := 24) (k := 2) (pc' := 104) rfl rfl rfl rfl rfl rfl (fun hf97a hf97b => ?_)
                  refine pw_ald2 h77I E (c := 25) (pc' := 105) rfl rfl rfl (by decide) rfl (by decide) (by omega) (by omega) rfl (fun hf98a hf98b => ?_)
                  refine pw_call (m' := 105) (As := [pw_i (pw_g h77 25 ((pw_g h77 24 2).toNat))]) (rest := []) (ls'' := [some (pw_i (pw_g h77 25 ((pw_g h77 24 2).toNat)))]) (Nat.le_trans (by decide) hd) E rfl (fun _ => pw_iS rfl rfl rfl) (rfl : pm_ent 105 = some (1, 1, 9, 1, pmc_105)) rfl rfl (cm_105_x24 (pw_dp hd (by decide)) h77I (pw_g h77 25 ((pw_g h77 24 2).toNat)) (by omega) (by omega)) ?_
                  rintro u100 v99 ⟨rfl, x101, rfl, hx101a, hx101b, hx101r⟩
                  refine ⟨_, rfl, ?_⟩
                  show pw X d h77 101 108 [some (.ref 40)] [pw_i x101] _
                  change (x101 = 1 ∧ 48 ≤ (pw_g h77 25 ((pw_g h77 24 2).toNat)) ∧ (pw_g h77 25 ((pw_g h77 24 2).toNat)) ≤ 57) ∨ (x101 = 0 ∧ ¬ (48 ≤ (pw_g h77 25 ((pw_g h77 24 2).toNat)) ∧ (pw_g h77 25 ((pw_g h77 24 2).toNat)) ≤ 57)) at hx101r
                  rcases (by omega : x101 = 1 ∨ x101 = 0) with hb102 | hb102
                  · skip
                    refine pw_if E (pc' := 118) rfl (by decide) (by omega) (by omega) ?_ ?_
                    · intro hc103
                      change x101 = (0 : Int) at hc103
                      exfalso; omega
                    · intro hc104
                      change ¬ (x101 = (0 : Int)) at hc104
                      have hidx : pw_g h77 25 (pw_g h77 24 3).toNat = pw_g h77 25 (pw_g h77 24 2).toNat := by rw [show pw_g h77 24 3 = pw_g h77 24 2 by omega]
                      refine pw_ld E (pc' := 112) (st' := [.ref 40]) rfl (fun _ => rfl) ?_
                      have he105 : pw_g h77 24 3 = pw_g gh8 24 2 := by rw [← h77w]; exact pw_g_eq (c := 24) (k := 3) I8 rfl rfl (by omega) (by omega)
                      obtain ⟨f106l, f106h, -⟩ := pw_obj (c := 24) h77I rfl
                      refine pw_call (m' := 106) (As := [.ref 40]) (rest := []) (ls'' := [some (.ref 40)]) (Nat.le_trans (by decide) hd) E rfl (fun _ => pw_iV rfl rfl rfl rfl (pw_cellI f106h rfl)) (rfl : pm_ent 106 = some (1, 1, 9, 4, pmc_106)) rfl rfl (cm_106_x24 (pw_dp hd (by decide)) h77I (by omega) (by omega) (by omega)) ?_
                      rintro h107 v108 ⟨h107I, h107E, hqtdi, rfl⟩
                      refine ⟨_, rfl, ?_⟩
                      have h107F := h77F.tr (h107E.wk (W' := [24]) (by first | rfl | simp))
                      show pw X d h107 101 115 [some (.ref 40)] [] _
                      refine pw_goto E (pc' := 167) rfl (by decide) ?_
                      refine pw_vret E rfl ?_
                      exact ⟨h107I, h107F, px_AD.n hqtdi mT (by omega) (by omega) (by omega) z0 mB, rfl⟩
                  · skip
                    refine pw_if E (pc' := 118) rfl (by decide) (by omega) (by omega) ?_ ?_
                    · intro hc110
                      change x101 = (0 : Int) at hc110
                      refine pw_ld E (pc' := 119) (st' := [.ref 40]) rfl (fun _ => rfl) ?_
                      refine pw_ld E (pc' := 120) (st' := [.ref 40, .ref 40]) rfl (fun _ => rfl) ?_
                      have he112 : pw_g h77 24 3 = pw_g gh8 24 2 := by rw [← h77w]; exact pw_g_eq (c := 24) (k := 3) I8 rfl rfl (by omega) (by omega)
                      refine pw_getI2 h77I E (c := 24) (k := 3) (pc' := 123) rfl rfl rfl rfl rfl rfl (fun hf111a hf111b => ?_)
                      refine pw_ld E (pc' := 124) (st' := [pw_i 1, pw_i (pw_g h77 24 3), .ref 40]) rfl (fun _ => rfl) ?_
                      refine pw_add E (pc' := 125) rfl rfl ?_
                      refine pw_putI h77I E (c := 24) (k := 3) (pc' := 128) rfl rfl rfl rfl (by omega) (by omega) (by omega) (by omega) rfl rfl ?_
                      intro h113I h113E
                      generalize h113w : pw_w h77 24 3 (pw_i ((pw_g h77 24 3) + 1)) = h113 at h113I h113E ⊢
                      have h113F := h77F.tr (h113E.wk (W' := [24]) (by first | rfl | simp))
                      refine pw_ld E (pc' := 129) (st' := [.ref 40]) rfl (fun _ => rfl) ?_
                      refine pw_ld E (pc' := 130) (st' := [.ref 40, .ref 40]) rfl (fun _ => rfl) ?_
                      refine pw_getR (b := 41) h113I E (c := 24) (k := 0) (pc' := 133) rfl rfl rfl rfl rfl rfl rfl ?_
                      refine pw_ld E (pc' := 134) (st' := [.ref 40, .ref 41, .ref 40]) rfl (fun _ => rfl) ?_
                      have he115 : pw_g h113 24 2 = pw_g h77 24 2 := by rw [← h113w]; exact pw_g_ne (by omega)
                      refine pw_getI2 h113I E (c := 24) (k := 2) (pc' := 137) rfl rfl rfl rfl rfl rfl (fun hf114a hf114b => ?_)
                      refine pw_ald2 h113I E (c := 25) (pc' := 138) rfl rfl rfl (by decide) rfl (by decide) (by omega) (by omega) rfl (fun hf116a hf116b => ?_)
                      refine pw_putI h113I E (c := 24) (k := 5) (pc' := 141) rfl rfl rfl rfl (by omega) (by omega) (by omega) (by omega) rfl rfl ?_
                      intro h117I h117E
                      generalize h117w : pw_w h113 24 5 (pw_i (pw_g h113 25 ((pw_g h113 24 2).toNat))) = h117 at h117I h117E ⊢
                      have h117F := h113F.tr (h117E.wk (W' := [24]) (by first | rfl | simp))
                      refine pw_ld E (pc' := 142) (st' := [.ref 40]) rfl (fun _ => rfl) ?_
                      refine pw_ld E (pc' := 144) (st' := [.ref 8, .ref 40]) rfl (fun _ => rfl) ?_
                      refine pw_ld E (pc' := 145) (st' := [.ref 40, .ref 8, .ref 40]) rfl (fun _ => rfl) ?_
                      refine pw_getR (b := 41) h117I E (c := 24) (k := 0) (pc' := 148) rfl rfl rfl rfl rfl rfl rfl ?_
                      refine pw_ld E (pc' := 149) (st' := [.ref 40, .ref 41, .ref 8, .ref 40]) rfl (fun _ => rfl) ?_
                      have he119 : pw_g h117 24 2 = pw_g h113 24 2 := by rw [← h117w]; exact pw_g_ne (by omega)
                      refine pw_getI2 h117I E (c := 24) (k := 2) (pc' := 152) rfl rfl rfl rfl rfl rfl (fun hf118a hf118b => ?_)
                      refine pw_ald2 h117I E (c := 25) (pc' := 153) rfl rfl rfl (by decide) rfl (by decide) (by omega) (by omega) rfl (fun hf120a hf120b => ?_)
                      refine pw_sidxE E rfl rfl hp0 (by omega) (by omega) rfl (fun x121 hx121a hx121b hx121r => ?_)
                      refine pw_if E (pc' := 163) rfl (by decide) (by omega) (by omega) ?_ ?_
                      · intro hc122
                        change x121 < (0 : Int) at hc122
                        refine pw_ld E (pc' := 164) (st' := [pw_i 0, .ref 40]) rfl (fun _ => rfl) ?_
                        refine pw_putI h117I E (c := 24) (k := 4) (pc' := 167) rfl rfl rfl rfl (by omega) (by omega) (by omega) (by omega) rfl rfl ?_
                        intro h123I h123E
                        generalize h123w : pw_w h117 24 4 (pw_i 0) = h123 at h123I h123E ⊢
                        have h123F := h117F.tr (h123E.wk (W' := [24]) (by first | rfl | simp))
                        refine pw_vret E rfl ?_
                        have n1 : pw_g h123 24 1 = pw_g h77 24 1 := by rw [← h123w, pw_g_ne (by omega), ← h117w, pw_g_ne (by omega), ← h113w, pw_g_ne (by omega)]
                        have n2 : pw_g h123 24 2 = pw_g h77 24 2 := by rw [← h123w, pw_g_ne (by omega), ← h117w, pw_g_ne (by omega), ← h113w, pw_g_ne (by omega)]
                        have n3 : pw_g h123 24 3 = pw_g h77 24 3 + 1 := by rw [← h123w, pw_g_ne (by omega), ← h117w, pw_g_ne (by omega), ← h113w]; exact pw_g_eq (c := 24) (k := 3) h77I rfl rfl (by omega) (by omega)
                        have n4 : pw_g h123 24 4 = 0 := by rw [← h123w]; exact pw_g_eq (c := 24) (k := 4) h117I rfl rfl (by omega) (by omega)
                        have n5 : pw_g h123 24 5 = pw_g h113 25 ((pw_g h113 24 2).toNat) := by rw [← h123w, pw_g_ne (by omega), ← h117w]; exact pw_g_eq (c := 24) (k := 5) h113I rfl rfl (by omega) (by omega)
                        have hA : ∀ j : Nat, pw_g h113 25 j = pw_g h 25 j := fun j => by rw [← h113w, pw_g_ne (by omega), mT]
                        have hB : ∀ j : Nat, pw_g h117 25 j = pw_g h 25 j := fun j => by rw [← h117w, pw_g_ne (by omega)]; exact hA j
                        have a2 : pw_g h113 24 2 = pw_g h77 24 2 := by rw [← h113w, pw_g_ne (by omega)]
                        have b2 : pw_g h117 24 2 = pw_g h77 24 2 := by rw [← h117w, pw_g_ne (by omega)]; exact a2
                        have hTg : ∀ j : Nat, pw_g gh8 25 j = pw_g h 25 j := fun j => pw_Eg (c := 25) I E8 rfl rfl j
                        rw [hTg, ← m2] at hx65r
                        rw [mT] at hx87r hx101r
                        rw [hB, b2] at hx121r
                        rw [hA, a2] at n5
                        exact ⟨h123I, h123F, px_AD.s (s := pw_g h77 24 2) (by omega) n2 (by omega) (by omega) (by omega) z0 mB (by rcases hx65r with q | q <;> first | exact q.2 | omega) (by rcases hx87r with q | q <;> first | exact q.2 | omega) (by rcases hx101r with q | q <;> first | exact q.2 | omega) (by rcases hx121r with q | q <;> first | exact Or.inl ⟨q.2, n4⟩ | exact Or.inr ⟨q.2, n4⟩ | (exfalso; omega)) n5, rfl⟩
                      · intro hc124
                        change ¬ (x121 < (0 : Int)) at hc124
                        refine pw_ld E (pc' := 160) (st' := [pw_i 3, .ref 40]) rfl (fun _ => rfl) ?_
                        refine pw_goto E (pc' := 164) rfl (by decide) ?_
                        refine pw_putI h117I E (c := 24) (k := 4) (pc' := 167) rfl rfl rfl rfl (by omega) (by omega) (by omega) (by omega) rfl rfl ?_
                        intro h125I h125E
                        generalize h125w : pw_w h117 24 4 (pw_i 3) = h125 at h125I h125E ⊢
                        have h125F := h117F.tr (h125E.wk (W' := [24]) (by first | rfl | simp))
                        refine pw_vret E rfl ?_
                        have n1 : pw_g h125 24 1 = pw_g h77 24 1 := by rw [← h125w, pw_g_ne (by omega), ← h117w, pw_g_ne (by omega), ← h113w, pw_g_ne (by omega)]
                        have n2 : pw_g h125 24 2 = pw_g h77 24 2 := by rw [← h125w, pw_g_ne (by omega), ← h117w, pw_g_ne (by omega), ← h113w, pw_g_ne (by omega)]
                        have n3 : pw_g h125 24 3 = pw_g h77 24 3 + 1 := by rw [← h125w, pw_g_ne (by omega), ← h117w, pw_g_ne (by omega), ← h113w]; exact pw_g_eq (c := 24) (k := 3) h77I rfl rfl (by omega) (by omega)
                        have n4 : pw_g h125 24 4 = 3 := by rw [← h125w]; exact pw_g_eq (c := 24) (k := 4) h117I rfl rfl (by omega) (by omega)
                        have n5 : pw_g h125 24 5 = pw_g h113 25 ((pw_g h113 24 2).toNat) := by rw [← h125w, pw_g_ne (by omega), ← h117w]; exact pw_g_eq (c := 24) (k := 5) h113I rfl rfl (by omega) (by omega)
                        have hA : ∀ j : Nat, pw_g h113 25 j = pw_g h 25 j := fun j => by rw [← h113w, pw_g_ne (by omega), mT]
                        have hB : ∀ j : Nat, pw_g h117 25 j = pw_g h 25 j := fun j => by rw [← h117w, pw_g_ne (by omega)]; exact hA j
                        have a2 : pw_g h113 24 2 = pw_g h77 24 2 := by rw [← h113w, pw_g_ne (by omega)]
                        have b2 : pw_g h117 24 2 = pw_g h77 24 2 := by rw [← h117w, pw_g_ne (by omega)]; exact a2
                        have hTg : ∀ j : Nat, pw_g gh8 25 j = pw_g h 25 j := fun j => pw_Eg (c := 25) I E8 rfl rfl j
                        rw [hTg, ← m2] at hx65r
                        rw [mT] at hx87r hx101r
                        rw [hB, b2] at hx121r
                        rw [hA, a2] at n5
                        exact ⟨h125I, h125F, px_AD.s (s := pw_g h77 24 2) (by omega) n2 (by omega) (by omega) (by omega) z0 mB (by rcases hx65r with q | q <;> first | exact q.2 | omega) (by rcases hx87r with q | q <;> first | exact q.2 | omega) (by rcases hx101r with q | q <;> first | exact q.2 | omega) (by rcases hx121r with q | q <;> first | exact Or.inl ⟨q.2, n4⟩ | exact Or.inr ⟨q.2, n4⟩ | (exfalso; omega)) n5, rfl⟩
                    · intro hc126
                      change ¬ (x101 = (0 : Int)) at hc126
                      exfalso; omega
                · intro hc127
                  change ¬ (x87 = (0 : Int)) at hc127
                  exfalso; omega
            · intro hc128
              change ¬ (pw_g h77 24 2 < pw_g h77 24 1) at hc128
              refine pw_ld E (pc' := 67) (st' := [.ref 40]) rfl (fun _ => rfl) ?_
              refine pw_ld E (pc' := 68) (st' := [pw_i 4, .ref 40]) rfl (fun _ => rfl) ?_
              refine pw_putI h77I E (c := 24) (k := 4) (pc' := 71) rfl rfl rfl rfl (by omega) (by omega) (by omega) (by omega) rfl rfl ?_
              intro h129I h129E
              generalize h129w : pw_w h77 24 4 (pw_i 4) = h129 at h129I h129E ⊢
              have h129F := h77F.tr (h129E.wk (W' := [24]) (by first | rfl | simp))
              refine pw_goto E (pc' := 167) rfl (by decide) ?_
              refine pw_vret E rfl ?_
              have f1 : pw_g h129 24 1 = pw_g h77 24 1 := by rw [← h129w]; exact pw_g_ne (by omega)
              have f2 : pw_g h129 24 2 = pw_g h77 24 2 := by rw [← h129w]; exact pw_g_ne (by omega)
              have f3 : pw_g h129 24 3 = pw_g h77 24 3 := by rw [← h129w]; exact pw_g_ne (by omega)
              have f4 : pw_g h129 24 4 = 4 := by rw [← h129w]; exact pw_g_eq (c := 24) (k := 4) h77I rfl rfl (by omega) (by omega)
              exact ⟨h129I, h129F, ⟨by omega, Or.inl ⟨fun j p q => mB j p (by omega), f4, by omega, by omega⟩⟩, rfl⟩
          · intro hc130
            change ¬ (x65 = (0 : Int)) at hc130
            exfalso; omega
  have he131 : pw_g h2 24 2 = pw_g h 24 3 := by rw [← h2w]; exact pw_g_eq (c := 24) (k := 2) I rfl rfl (by omega) (by omega)
  have he132 : pw_g h2 24 3 = pw_g h 24 3 := by rw [← h2w]; exact pw_g_ne (by omega)
  have he133 : pw_g h2 24 1 = pw_g h 24 1 := by rw [← h2w]; exact pw_g_ne (by omega)
  exact L8 _  h2 h2I h2F  (by omega) (by omega) (by omega) (by omega) (fun j p q => by omega) rfl
set_option maxHeartbeats 4000000 in
theorem cm_109_x24 {X : List (Nat × List Value)} {d : Nat} {h : pm_H} (hd : 1 ≤ d) (I : pw_I h) (ch : Int) (hch1 : 0 ≤ ch) (hch2 : ch ≤ 65535) : pw X d h 109 0 [some (.ref 40), some (pw_i ch)] [] (fun h' v => h = h' ∧ ∃ a : Int, v = .inl (some (pw_i a)) ∧ 0 ≤ a ∧ a ≤ 1 ∧ ((a = 1 ∧ pw_g h 24 4 = 3 ∧ pw_g h 24 5 = ch) ∨ (a = 0 ∧ ¬ (pw_g h 24 4 = 3 ∧ pw_g h 24 5 = ch)))) := by
  have E : pm_ent 109 = some (2, 2, 9, 1, pmc_109) := rfl
  refine pw_ld E (pc' := 1) (st' := [.ref 40]) rfl (fun _ => rfl) ?_
  refine pw_getI2 I E (c := 24) (k := 4) (pc' := 4) rfl rfl rfl rfl rfl rfl (fun hf1a hf1b => ?_)
  refine pw_ld E (pc' := 5) (st' := [pw_i 3, pw_i (pw_g h 24 4)]) rfl (fun _ => rfl) ?_
  refine pw_if2 E (pc' := 20) rfl (by decide) (by omega) (by omega) (by decide) (by decide) ?_ ?_
  · intro hc2
    change pw_g h 24 4 ≠ (3 : Int) at hc2
    refine pw_ld E (pc' := 21) (st' := [pw_i 0]) rfl (fun _ => rfl) ?_
    refine pw_zret E rfl (by omega) ?_
    exact ⟨rfl, ⟨_, rfl, by omega, by omega, by omega⟩⟩
  · intro hc3
    change ¬ (pw_g h 24 4 ≠ (3 : Int)) at hc3
    refine pw_ld E (pc' := 9) (st' := [.ref 40]) rfl (fun _ => rfl) ?_
    refine pw_getI2 I E (c := 24) (k := 5) (pc' := 12) rfl rfl rfl rfl rfl rfl (fun hf4a hf4b => ?_)
    refine pw_ld E (pc' := 13) (st' := [pw_i ch, pw_i (pw_g h 24 5)]) rfl (fun _ => rfl) ?_
    refine pw_if2 E (pc' := 20) rfl (by decide) (by omega) (by omega) (by omega) (by omega) ?_ ?_
    · intro hc5
      change pw_g h 24 5 ≠ ch at hc5
      refine pw_ld E (pc' := 21) (st' := [pw_i 0]) rfl (fun _ => rfl) ?_
      refine pw_zret E rfl (by omega) ?_
      exact ⟨rfl, ⟨_, rfl, by omega, by omega, by omega⟩⟩
    · intro hc6
      change ¬ (pw_g h 24 5 ≠ ch) at hc6
      refine pw_ld E (pc' := 17) (st' := [pw_i 1]) rfl (fun _ => rfl) ?_
      refine pw_goto E (pc' := 21) rfl (by decide) ?_
      refine pw_zret E rfl (by omega) ?_
      exact ⟨rfl, ⟨_, rfl, by omega, by omega, by omega⟩⟩
set_option maxHeartbeats 4000000 in
theorem cm_108_x24 {X : List (Nat × List Value)} {d : Nat} {h : pm_H} (hd : 1 ≤ d) (I : pw_I h) (hX : pw_Xk X) (str : Nat) (hstr1 : 4 ≤ str) (hstr2 : str < 12) (kk : Int) (hp0 : (pw_g h 24 4 = 1 ∧ kk = 1) ∨ (pw_g h 24 4 ≠ 1 ∧ kk = 0)) : pw X d h 108 0 [some (.ref 40), some (.ref str), none, none, none, none, none] [] (fun h' v => h = h' ∧ ∃ a : Int, v = .inl (some (pw_i a)) ∧ (-1) ≤ a ∧ a ≤ 60 ∧ (a = px_wa (pw_g h 25) (pw_g h 24 2) (pw_g h 24 3) kk (px_str X str) 0 (pw_g h 24 2) kk)) := by
  have E : pm_ent 108 = some (2, 7, 9, 0, pmc_108) := rfl
  obtain ⟨strl, strs, strn, stri⟩ := pw_sxk (p := str) hX hstr1 hstr2
  refine pw_ld E (pc' := 1) (st' := [pw_i 0]) rfl (fun _ => rfl) ?_
  refine pw_istn E (pc' := 2) (ls' := [some (.ref 40), some (.ref str), some (pw_i 0), none, none, none, none]) rfl rfl rfl rfl ?_
  refine pw_ld E (pc' := 3) (st' := [.ref 40]) rfl (fun _ => rfl) ?_
  refine pw_getI2 I E (c := 24) (k := 2) (pc' := 6) rfl rfl rfl rfl rfl rfl (fun hf1a hf1b => ?_)
  refine pw_istn E (pc' := 7) (ls' := [some (.ref 40), some (.ref str), some (pw_i 0), some (pw_i (pw_g h 24 2)), none, none, none]) rfl rfl rfl rfl ?_
  refine pw_ld E (pc' := 8) (st' := [.ref 40]) rfl (fun _ => rfl) ?_
  refine pw_getI2 I E (c := 24) (k := 4) (pc' := 11) rfl rfl rfl rfl rfl rfl (fun hf2a hf2b => ?_)
  refine pw_ld E (pc' := 12) (st' := [pw_i 1, pw_i (pw_g h 24 4)]) rfl (fun _ => rfl) ?_
  refine pw_if2 E (pc' := 19) rfl (by decide) (by omega) (by omega) (by decide) (by decide) ?_ ?_
  · intro hc3
    change pw_g h 24 4 ≠ (1 : Int) at hc3
    refine pw_ld E (pc' := 20) (st' := [pw_i 0]) rfl (fun _ => rfl) ?_
    refine pw_ist E (pc' := 22) (ls' := [some (.ref 40), some (.ref str), some (pw_i 0), some (pw_i (pw_g h 24 2)), some (pw_i 0), none, none]) rfl rfl rfl rfl ?_
    refine pw_ld E (pc' := 23) (st' := [pw_i 0]) rfl (fun _ => rfl) ?_
    refine pw_ist E (pc' := 25) (ls' := [some (.ref 40), some (.ref str), some (pw_i 0), some (pw_i (pw_g h 24 2)), some (pw_i 0), some (pw_i 0), none]) rfl rfl rfl rfl ?_
    have L25 : ∀ (n25 : Nat) (k25_2 : Int) (k25_3 : Int) (k25_4 : Int) (k25_5 : Int) (k25_6 : Option Value), 0 ≤ k25_2 → k25_2 ≤ 60 → 0 ≤ k25_3 → k25_3 ≤ 1060 → 0 ≤ k25_4 → k25_4 ≤ 1 → 0 ≤ k25_5 → k25_5 ≤ 60 → k25_2 ≤ k25_5 → k25_3 ≤ 1000 + k25_5 → px_wa (pw_g h 25) (pw_g h 24 2) (pw_g h 24 3) kk ((strl.map px_cv).drop (k25_5).toNat) (k25_2) (k25_3) (k25_4) = px_wa (pw_g h 25) (pw_g h 24 2) (pw_g h 24 3) kk (strl.map px_cv) 0 (pw_g h 24 2) kk → (60 - k25_5).toNat = n25 → pw X d h 108 25 [some (.ref 40), some (.ref str), some (pw_i k25_2), some (pw_i k25_3), some (pw_i k25_4), some (pw_i k25_5), k25_6] [] (fun h' v => h = h' ∧ ∃ a : Int, v = .inl (some (pw_i a)) ∧ (-1) ≤ a ∧ a ≤ 60 ∧ (a = px_wa (pw_g h 25) (pw_g h 24 2) (pw_g h 24 3) kk (px_str X str) 0 (pw_g h 24 2) kk)) := by
      intro n25
      induction n25 using Nat.strongRecOn with
      | ind n25 ih25 =>
        intro k25_2 k25_3 k25_4 k25_5 k25_6 k25_2a k25_2b k25_3a k25_3b k25_4a k25_4b k25_5a k25_5b hx25_0 hx25_1 hx25_2 hm25
        refine pw_ld E (pc' := 27) (st' := [pw_i k25_5]) rfl (fun _ => rfl) ?_
        refine pw_ld E (pc' := 28) (st' := [.ref str, pw_i k25_5]) rfl (fun _ => rfl) ?_
        refine pw_slen E rfl rfl strs rfl ?_
        refine pw_if2 E (pc' := 130) rfl (by decide) (by omega) (by omega) (by omega) (by omega) ?_ ?_
        · intro hc4
          change (strl.length : Int) ≤ k25_5 at hc4
          refine pw_ld E (pc' := 131) (st' := [pw_i ((-1))]) rfl (fun _ => rfl) ?_
          refine pw_iret E rfl ?_
          exact ⟨rfl, ⟨_, rfl, by omega, by omega, (by rw [px_str_eq strs, ← hx25_2, List.drop_eq_nil_of_le (by rw [List.length_map]; omega)]; rfl)⟩⟩
        · intro hc5
          change ¬ ((strl.length : Int) ≤ k25_5) at hc5
          refine pw_ld E (pc' := 35) (st' := [.ref str]) rfl (fun _ => rfl) ?_
          refine pw_ld E (pc' := 37) (st' := [pw_i k25_5, .ref str]) rfl (fun _ => rfl) ?_
          refine pw_schrE E rfl rfl strs stri strn (by omega) (by omega) rfl (fun x6 hx6a hx6b hx6r => ?_)
          have hdr := px_drop hx6r
          refine pw_ist E (pc' := 42) (ls' := [some (.ref 40), some (.ref str), some (pw_i k25_2), some (pw_i k25_3), some (pw_i k25_4), some (pw_i k25_5), some (pw_i x6)]) rfl rfl rfl rfl ?_
          refine pw_ld E (pc' := 44) (st' := [pw_i x6]) rfl (fun _ => rfl) ?_
          refine pw_bip E (pc' := 46) rfl rfl (by decide) ?_
          refine pw_if2 E (pc' := 86) rfl (by decide) (by omega) (by omega) (by decide) (by decide) ?_ ?_
          · intro hc7
            change x6 = (32 : Int) at hc7
            refine pw_ld E (pc' := 88) (st' := [pw_i k25_4]) rfl (fun _ => rfl) ?_
            refine pw_if E (pc' := 101) rfl (by decide) (by omega) (by omega) ?_ ?_
            · intro hc8
              change k25_4 = (0 : Int) at hc8
              refine pw_inc E (pc' := 104) (ls' := [some (.ref 40), some (.ref str), some (pw_i (k25_2 + 1)), some (pw_i k25_3), some (pw_i k25_4), some (pw_i k25_5), some (pw_i x6)]) rfl rfl rfl rfl ?_
              refine pw_ld E (pc' := 105) (st' := [.ref 40]) rfl (fun _ => rfl) ?_
              refine pw_getI2 I E (c := 24) (k := 2) (pc' := 108) rfl rfl rfl rfl rfl rfl (fun hf9a hf9b => ?_)
              refine pw_istn E (pc' := 109) (ls' := [some (.ref 40), some (.ref str), some (pw_i (k25_2 + 1)), some (pw_i (pw_g h 24 2)), some (pw_i k25_4), some (pw_i k25_5), some (pw_i x6)]) rfl rfl rfl rfl ?_
              refine pw_ld E (pc' := 110) (st' := [.ref 40]) rfl (fun _ => rfl) ?_
              refine pw_getI2 I E (c := 24) (k := 4) (pc' := 113) rfl rfl rfl rfl rfl rfl (fun hf10a hf10b => ?_)
              refine pw_ld E (pc' := 114) (st' := [pw_i 1, pw_i (pw_g h 24 4)]) rfl (fun _ => rfl) ?_
              refine pw_if2 E (pc' := 121) rfl (by decide) (by omega) (by omega) (by decide) (by decide) ?_ ?_
              · intro hc11
                change pw_g h 24 4 ≠ (1 : Int) at hc11
                refine pw_ld E (pc' := 122) (st' := [pw_i 0]) rfl (fun _ => rfl) ?_
                refine pw_ist E (pc' := 124) (ls' := [some (.ref 40), some (.ref str), some (pw_i (k25_2 + 1)), some (pw_i (pw_g h 24 2)), some (pw_i 0), some (pw_i k25_5), some (pw_i x6)]) rfl rfl rfl rfl ?_
                refine pw_inc E (pc' := 127) (ls' := [some (.ref 40), some (.ref str), some (pw_i (k25_2 + 1)), some (pw_i (pw_g h 24 2)), some (pw_i 0), some (pw_i (k25_5 + 1)), some (pw_i x6)]) rfl rfl rfl rfl ?_
                have oW : px_wa (pw_g h 25) (pw_g h 24 2) (pw_g h 24 3) kk ((strl.map px_cv).drop (k25_5 + 1).toNat) (k25_2 + 1) (pw_g h 24 2) (0) = px_wa (pw_g h 25) (pw_g h 24 2) (pw_g h 24 3) kk (strl.map px_cv) 0 (pw_g h 24 2) kk := by
                  rw [← hx25_2, hdr, show (k25_5 + 1).toNat = (k25_5).toNat + 1 by omega]
                  rw [px_wa_b (by omega) (by omega), show kk = 0 by omega]
                refine pw_goto E (pc' := 25) rfl (by decide) ?_
                exact ih25 _ (by omega) (k25_2 + 1) (pw_g h 24 2) (0) (k25_5 + 1) (some (pw_i x6))  (by omega) (by omega) (by omega) (by omega) (by omega) (by omega) (by omega) (by omega) (by omega) (by omega) oW rfl
              · intro hc12
                change ¬ (pw_g h 24 4 ≠ (1 : Int)) at hc12
                refine pw_ld E (pc' := 118) (st' := [pw_i 1]) rfl (fun _ => rfl) ?_
                refine pw_goto E (pc' := 122) rfl (by decide) ?_
                refine pw_ist E (pc' := 124) (ls' := [some (.ref 40), some (.ref str), some (pw_i (k25_2 + 1)), some (pw_i (pw_g h 24 2)), some (pw_i 1), some (pw_i k25_5), some (pw_i x6)]) rfl rfl rfl rfl ?_
                refine pw_inc E (pc' := 127) (ls' := [some (.ref 40), some (.ref str), some (pw_i (k25_2 + 1)), some (pw_i (pw_g h 24 2)), some (pw_i 1), some (pw_i (k25_5 + 1)), some (pw_i x6)]) rfl rfl rfl rfl ?_
                have oW : px_wa (pw_g h 25) (pw_g h 24 2) (pw_g h 24 3) kk ((strl.map px_cv).drop (k25_5 + 1).toNat) (k25_2 + 1) (pw_g h 24 2) (1) = px_wa (pw_g h 25) (pw_g h 24 2) (pw_g h 24 3) kk (strl.map px_cv) 0 (pw_g h 24 2) kk := by
                  rw [← hx25_2, hdr, show (k25_5 + 1).toNat = (k25_5).toNat + 1 by omega]
                  rw [px_wa_b (by omega) (by omega), show kk = 1 by omega]
                refine pw_goto E (pc' := 25) rfl (by decide) ?_
                exact ih25 _ (by omega) (k25_2 + 1) (pw_g h 24 2) (1) (k25_5 + 1) (some (pw_i x6))  (by omega) (by omega) (by omega) (by omega) (by omega) (by omega) (by omega) (by omega) (by omega) (by omega) oW rfl
            · intro hc13
              change ¬ (k25_4 = (0 : Int)) at hc13
              refine pw_ld E (pc' := 92) (st' := [pw_i k25_3]) rfl (fun _ => rfl) ?_
              refine pw_ld E (pc' := 93) (st' := [.ref 40, pw_i k25_3]) rfl (fun _ => rfl) ?_
              refine pw_getI2 I E (c := 24) (k := 3) (pc' := 96) rfl rfl rfl rfl rfl rfl (fun hf14a hf14b => ?_)
              refine pw_if2 E (pc' := 101) rfl (by decide) (by omega) (by omega) (by omega) (by omega) ?_ ?_
              · intro hc15
                change k25_3 ≠ pw_g h 24 3 at hc15
                refine pw_inc E (pc' := 104) (ls' := [some (.ref 40), some (.ref str), some (pw_i (k25_2 + 1)), some (pw_i k25_3), some (pw_i k25_4), some (pw_i k25_5), some (pw_i x6)]) rfl rfl rfl rfl ?_
                refine pw_ld E (pc' := 105) (st' := [.ref 40]) rfl (fun _ => rfl) ?_
                refine pw_getI2 I E (c := 24) (k := 2) (pc' := 108) rfl rfl rfl rfl rfl rfl (fun hf16a hf16b => ?_)
                refine pw_istn E (pc' := 109) (ls' := [some (.ref 40), some (.ref str), some (pw_i (k25_2 + 1)), some (pw_i (pw_g h 24 2)), some (pw_i k25_4), some (pw_i k25_5), some (pw_i x6)]) rfl rfl rfl rfl ?_
                refine pw_ld E (pc' := 110) (st' := [.ref 40]) rfl (fun _ => rfl) ?_
                refine pw_getI2 I E (c := 24) (k := 4) (pc' := 113) rfl rfl rfl rfl rfl rfl (fun hf17a hf17b => ?_)
                refine pw_ld E (pc' := 114) (st' := [pw_i 1, pw_i (pw_g h 24 4)]) rfl (fun _ => rfl) ?_
                refine pw_if2 E (pc' := 121) rfl (by decide) (by omega) (by omega) (by decide) (by decide) ?_ ?_
                · intro hc18
                  change pw_g h 24 4 ≠ (1 : Int) at hc18
                  refine pw_ld E (pc' := 122) (st' := [pw_i 0]) rfl (fun _ => rfl) ?_
                  refine pw_ist E (pc' := 124) (ls' := [some (.ref 40), some (.ref str), some (pw_i (k25_2 + 1)), some (pw_i (pw_g h 24 2)), some (pw_i 0), some (pw_i k25_5), some (pw_i x6)]) rfl rfl rfl rfl ?_
                  refine pw_inc E (pc' := 127) (ls' := [some (.ref 40), some (.ref str), some (pw_i (k25_2 + 1)), some (pw_i (pw_g h 24 2)), some (pw_i 0), some (pw_i (k25_5 + 1)), some (pw_i x6)]) rfl rfl rfl rfl ?_
                  have oW : px_wa (pw_g h 25) (pw_g h 24 2) (pw_g h 24 3) kk ((strl.map px_cv).drop (k25_5 + 1).toNat) (k25_2 + 1) (pw_g h 24 2) (0) = px_wa (pw_g h 25) (pw_g h 24 2) (pw_g h 24 3) kk (strl.map px_cv) 0 (pw_g h 24 2) kk := by
                    rw [← hx25_2, hdr, show (k25_5 + 1).toNat = (k25_5).toNat + 1 by omega]
                    rw [px_wa_b (by omega) (by omega), show kk = 0 by omega]
                  refine pw_goto E (pc' := 25) rfl (by decide) ?_
                  exact ih25 _ (by omega) (k25_2 + 1) (pw_g h 24 2) (0) (k25_5 + 1) (some (pw_i x6))  (by omega) (by omega) (by omega) (by omega) (by omega) (by omega) (by omega) (by omega) (by omega) (by omega) oW rfl
                · intro hc19
                  change ¬ (pw_g h 24 4 ≠ (1 : Int)) at hc19
                  refine pw_ld E (pc' := 118) (st' := [pw_i 1]) rfl (fun _ => rfl) ?_
                  refine pw_goto E (pc' := 122) rfl (by decide) ?_
                  refine pw_ist E (pc' := 124) (ls' := [some (.ref 40), some (.ref str), some (pw_i (k25_2 + 1)), some (pw_i (pw_g h 24 2)), some (pw_i 1), some (pw_i k25_5), some (pw_i x6)]) rfl rfl rfl rfl ?_
                  refine pw_inc E (pc' := 127) (ls' := [some (.ref 40), some (.ref str), some (pw_i (k25_2 + 1)), some (pw_i (pw_g h 24 2)), some (pw_i 1), some (pw_i (k25_5 + 1)), some (pw_i x6)]) rfl rfl rfl rfl ?_
                  have oW : px_wa (pw_g h 25) (pw_g h 24 2) (pw_g h 24 3) kk ((strl.map px_cv).drop (k25_5 + 1).toNat) (k25_2 + 1) (pw_g h 24 2) (1) = px_wa (pw_g h 25) (pw_g h 24 2) (pw_g h 24 3) kk (strl.map px_cv) 0 (pw_g h 24 2) kk := by
                    rw [← hx25_2, hdr, show (k25_5 + 1).toNat = (k25_5).toNat + 1 by omega]
                    rw [px_wa_b (by omega) (by omega), show kk = 1 by omega]
                  refine pw_goto E (pc' := 25) rfl (by decide) ?_
                  exact ih25 _ (by omega) (k25_2 + 1) (pw_g h 24 2) (1) (k25_5 + 1) (some (pw_i x6))  (by omega) (by omega) (by omega) (by omega) (by omega) (by omega) (by omega) (by omega) (by omega) (by omega) oW rfl
              · intro hc20
                change ¬ (k25_3 ≠ pw_g h 24 3) at hc20
                refine pw_ld E (pc' := 100) (st' := [pw_i k25_2]) rfl (fun _ => rfl) ?_
                refine pw_iret E rfl ?_
                exact ⟨rfl, ⟨_, rfl, by omega, by omega, (by rw [px_str_eq strs, ← hx25_2, hdr]; exact (px_wa_f (by omega) (by omega)).symm)⟩⟩
          · intro hc21
            change ¬ (x6 = (32 : Int)) at hc21
            refine pw_ld E (pc' := 51) (st' := [pw_i k25_4]) rfl (fun _ => rfl) ?_
            refine pw_if E (pc' := 77) rfl (by decide) (by omega) (by omega) ?_ ?_
            · intro hc22
              change k25_4 = (0 : Int) at hc22
              refine pw_ld E (pc' := 78) (st' := [pw_i 0]) rfl (fun _ => rfl) ?_
              refine pw_ist E (pc' := 80) (ls' := [some (.ref 40), some (.ref str), some (pw_i k25_2), some (pw_i k25_3), some (pw_i 0), some (pw_i k25_5), some (pw_i x6)]) rfl rfl rfl rfl ?_
              refine pw_inc E (pc' := 83) (ls' := [some (.ref 40), some (.ref str), some (pw_i k25_2), some (pw_i (k25_3 + 1)), some (pw_i 0), some (pw_i k25_5), some (pw_i x6)]) rfl rfl rfl rfl ?_
              refine pw_goto E (pc' := 124) rfl (by decide) ?_
              refine pw_inc E (pc' := 127) (ls' := [some (.ref 40), some (.ref str), some (pw_i k25_2), some (pw_i (k25_3 + 1)), some (pw_i 0), some (pw_i (k25_5 + 1)), some (pw_i x6)]) rfl rfl rfl rfl ?_
              have oW : px_wa (pw_g h 25) (pw_g h 24 2) (pw_g h 24 3) kk ((strl.map px_cv).drop (k25_5 + 1).toNat) (k25_2) (k25_3 + 1) (0) = px_wa (pw_g h 25) (pw_g h 24 2) (pw_g h 24 3) kk (strl.map px_cv) 0 (pw_g h 24 2) kk := by
                rw [← hx25_2, hdr, show (k25_5 + 1).toNat = (k25_5).toNat + 1 by omega]
                rw [px_wa_n (by omega), if_neg (by omega)]
              refine pw_goto E (pc' := 25) rfl (by decide) ?_
              exact ih25 _ (by omega) (k25_2) (k25_3 + 1) (0) (k25_5 + 1) (some (pw_i x6))  (by omega) (by omega) (by omega) (by omega) (by omega) (by omega) (by omega) (by omega) (by omega) (by omega) oW rfl
            · intro hc23
              change ¬ (k25_4 = (0 : Int)) at hc23
              refine pw_ld E (pc' := 55) (st' := [pw_i k25_3]) rfl (fun _ => rfl) ?_
              refine pw_ld E (pc' := 56) (st' := [.ref 40, pw_i k25_3]) rfl (fun _ => rfl) ?_
              refine pw_getI2 I E (c := 24) (k := 3) (pc' := 59) rfl rfl rfl rfl rfl rfl (fun hf24a hf24b => ?_)
              refine pw_if2 E (pc' := 77) rfl (by decide) (by omega) (by omega) (by omega) (by omega) ?_ ?_
              · intro hc25
                change pw_g h 24 3 ≤ k25_3 at hc25
                refine pw_ld E (pc' := 78) (st' := [pw_i 0]) rfl (fun _ => rfl) ?_
                refine pw_ist E (pc' := 80) (ls' := [some (.ref 40), some (.ref str), some (pw_i k25_2), some (pw_i k25_3), some (pw_i 0), some (pw_i k25_5), some (pw_i x6)]) rfl rfl rfl rfl ?_
                refine pw_inc E (pc' := 83) (ls' := [some (.ref 40), some (.ref str), some (pw_i k25_2), some (pw_i (k25_3 + 1)), some (pw_i 0), some (pw_i k25_5), some (pw_i x6)]) rfl rfl rfl rfl ?_
                refine pw_goto E (pc' := 124) rfl (by decide) ?_
                refine pw_inc E (pc' := 127) (ls' := [some (.ref 40), some (.ref str), some (pw_i k25_2), some (pw_i (k25_3 + 1)), some (pw_i 0), some (pw_i (k25_5 + 1)), some (pw_i x6)]) rfl rfl rfl rfl ?_
                have oW : px_wa (pw_g h 25) (pw_g h 24 2) (pw_g h 24 3) kk ((strl.map px_cv).drop (k25_5 + 1).toNat) (k25_2) (k25_3 + 1) (0) = px_wa (pw_g h 25) (pw_g h 24 2) (pw_g h 24 3) kk (strl.map px_cv) 0 (pw_g h 24 2) kk := by
                  rw [← hx25_2, hdr, show (k25_5 + 1).toNat = (k25_5).toNat + 1 by omega]
                  rw [px_wa_n (by omega), if_neg (by omega)]
                refine pw_goto E (pc' := 25) rfl (by decide) ?_
                exact ih25 _ (by omega) (k25_2) (k25_3 + 1) (0) (k25_5 + 1) (some (pw_i x6))  (by omega) (by omega) (by omega) (by omega) (by omega) (by omega) (by omega) (by omega) (by omega) (by omega) oW rfl
              · intro hc26
                change ¬ (pw_g h 24 3 ≤ k25_3) at hc26
                refine pw_ld E (pc' := 63) (st' := [.ref 40]) rfl (fun _ => rfl) ?_
                refine pw_getR (b := 41) I E (c := 24) (k := 0) (pc' := 66) rfl rfl rfl rfl rfl rfl rfl ?_
                refine pw_ld E (pc' := 67) (st' := [pw_i k25_3, .ref 41]) rfl (fun _ => rfl) ?_
                refine pw_ald2 I E (c := 25) (pc' := 68) rfl rfl rfl (by decide) rfl (by decide) (by omega) (by omega) rfl (fun hf27a hf27b => ?_)
                refine pw_ld E (pc' := 70) (st' := [pw_i x6, pw_i (pw_g h 25 (k25_3.toNat))]) rfl (fun _ => rfl) ?_
                refine pw_if2 E (pc' := 77) rfl (by decide) (by omega) (by omega) (by omega) (by omega) ?_ ?_
                · intro hc28
                  change pw_g h 25 (k25_3.toNat) ≠ x6 at hc28
                  refine pw_ld E (pc' := 78) (st' := [pw_i 0]) rfl (fun _ => rfl) ?_
                  refine pw_ist E (pc' := 80) (ls' := [some (.ref 40), some (.ref str), some (pw_i k25_2), some (pw_i k25_3), some (pw_i 0), some (pw_i k25_5), some (pw_i x6)]) rfl rfl rfl rfl ?_
                  refine pw_inc E (pc' := 83) (ls' := [some (.ref 40), some (.ref str), some (pw_i k25_2), some (pw_i (k25_3 + 1)), some (pw_i 0), some (pw_i k25_5), some (pw_i x6)]) rfl rfl rfl rfl ?_
                  refine pw_goto E (pc' := 124) rfl (by decide) ?_
                  refine pw_inc E (pc' := 127) (ls' := [some (.ref 40), some (.ref str), some (pw_i k25_2), some (pw_i (k25_3 + 1)), some (pw_i 0), some (pw_i (k25_5 + 1)), some (pw_i x6)]) rfl rfl rfl rfl ?_
                  have oW : px_wa (pw_g h 25) (pw_g h 24 2) (pw_g h 24 3) kk ((strl.map px_cv).drop (k25_5 + 1).toNat) (k25_2) (k25_3 + 1) (0) = px_wa (pw_g h 25) (pw_g h 24 2) (pw_g h 24 3) kk (strl.map px_cv) 0 (pw_g h 24 2) kk := by
                    rw [← hx25_2, hdr, show (k25_5 + 1).toNat = (k25_5).toNat + 1 by omega]
                    rw [px_wa_n (by omega), if_neg (by omega)]
                  refine pw_goto E (pc' := 25) rfl (by decide) ?_
                  exact ih25 _ (by omega) (k25_2) (k25_3 + 1) (0) (k25_5 + 1) (some (pw_i x6))  (by omega) (by omega) (by omega) (by omega) (by omega) (by omega) (by omega) (by omega) (by omega) (by omega) oW rfl
                · intro hc29
                  change ¬ (pw_g h 25 (k25_3.toNat) ≠ x6) at hc29
                  refine pw_ld E (pc' := 74) (st' := [pw_i 1]) rfl (fun _ => rfl) ?_
                  refine pw_goto E (pc' := 78) rfl (by decide) ?_
                  refine pw_ist E (pc' := 80) (ls' := [some (.ref 40), some (.ref str), some (pw_i k25_2), some (pw_i k25_3), some (pw_i 1), some (pw_i k25_5), some (pw_i x6)]) rfl rfl rfl rfl ?_
                  refine pw_inc E (pc' := 83) (ls' := [some (.ref 40), some (.ref str), some (pw_i k25_2), some (pw_i (k25_3 + 1)), some (pw_i 1), some (pw_i k25_5), some (pw_i x6)]) rfl rfl rfl rfl ?_
                  refine pw_goto E (pc' := 124) rfl (by decide) ?_
                  refine pw_inc E (pc' := 127) (ls' := [some (.ref 40), some (.ref str), some (pw_i k25_2), some (pw_i (k25_3 + 1)), some (pw_i 1), some (pw_i (k25_5 + 1)), some (pw_i x6)]) rfl rfl rfl rfl ?_
                  have oW : px_wa (pw_g h 25) (pw_g h 24 2) (pw_g h 24 3) kk ((strl.map px_cv).drop (k25_5 + 1).toNat) (k25_2) (k25_3 + 1) (1) = px_wa (pw_g h 25) (pw_g h 24 2) (pw_g h 24 3) kk (strl.map px_cv) 0 (pw_g h 24 2) kk := by
                    rw [← hx25_2, hdr, show (k25_5 + 1).toNat = (k25_5).toNat + 1 by omega]
                    rw [px_wa_n (by omega), if_pos ⟨by omega, by omega, by omega⟩]
                  refine pw_goto E (pc' := 25) rfl (by decide) ?_
                  exact ih25 _ (by omega) (k25_2) (k25_3 + 1) (1) (k25_5 + 1) (some (pw_i x6))  (by omega) (by omega) (by omega) (by omega) (by omega) (by omega) (by omega) (by omega) (by omega) (by omega) oW rfl
    exact L25 _ (0) (pw_g h 24 2) (0) (0) (none)  (by omega) (by omega) (by omega) (by omega) (by omega) (by omega) (by omega) (by omega) (by omega) (by omega) (by rw [show kk = 0 by omega]; rfl) rfl
  · intro hc30
    change ¬ (pw_g h 24 4 ≠ (1 : Int)) at hc30
    refine pw_ld E (pc' := 16) (st' := [pw_i 1]) rfl (fun _ => rfl) ?_
    refine pw_goto E (pc' := 20) rfl (by decide) ?_
    refine pw_ist E (pc' := 22) (ls' := [some (.ref 40), some (.ref str), some (pw_i 0), some (pw_i (pw_g h 24 2)), some (pw_i 1), none, none]) rfl rfl rfl rfl ?_
    refine pw_ld E (pc' := 23) (st' := [pw_i 0]) rfl (fun _ => rfl) ?_
    refine pw_ist E (pc' := 25) (ls' := [some (.ref 40), some (.ref str), some (pw_i 0), some (pw_i (pw_g h 24 2)), some (pw_i 1), some (pw_i 0), none]) rfl rfl rfl rfl ?_
    have L25 : ∀ (n25 : Nat) (k25_2 : Int) (k25_3 : Int) (k25_4 : Int) (k25_5 : Int) (k25_6 : Option Value), 0 ≤ k25_2 → k25_2 ≤ 60 → 0 ≤ k25_3 → k25_3 ≤ 1060 → 0 ≤ k25_4 → k25_4 ≤ 1 → 0 ≤ k25_5 → k25_5 ≤ 60 → k25_2 ≤ k25_5 → k25_3 ≤ 1000 + k25_5 → px_wa (pw_g h 25) (pw_g h 24 2) (pw_g h 24 3) kk ((strl.map px_cv).drop (k25_5).toNat) (k25_2) (k25_3) (k25_4) = px_wa (pw_g h 25) (pw_g h 24 2) (pw_g h 24 3) kk (strl.map px_cv) 0 (pw_g h 24 2) kk → (60 - k25_5).toNat = n25 → pw X d h 108 25 [some (.ref 40), some (.ref str), some (pw_i k25_2), some (pw_i k25_3), some (pw_i k25_4), some (pw_i k25_5), k25_6] [] (fun h' v => h = h' ∧ ∃ a : Int, v = .inl (some (pw_i a)) ∧ (-1) ≤ a ∧ a ≤ 60 ∧ (a = px_wa (pw_g h 25) (pw_g h 24 2) (pw_g h 24 3) kk (px_str X str) 0 (pw_g h 24 2) kk)) := by
      intro n25
      induction n25 using Nat.strongRecOn with
      | ind n25 ih25 =>
        intro k25_2 k25_3 k25_4 k25_5 k25_6 k25_2a k25_2b k25_3a k25_3b k25_4a k25_4b k25_5a k25_5b hx25_0 hx25_1 hx25_2 hm25
        refine pw_ld E (pc' := 27) (st' := [pw_i k25_5]) rfl (fun _ => rfl) ?_
        refine pw_ld E (pc' := 28) (st' := [.ref str, pw_i k25_5]) rfl (fun _ => rfl) ?_
        refine pw_slen E rfl rfl strs rfl ?_
        refine pw_if2 E (pc' := 130) rfl (by decide) (by omega) (by omega) (by omega) (by omega) ?_ ?_
        · intro hc31
          change (strl.length : Int) ≤ k25_5 at hc31
          refine pw_ld E (pc' := 131) (st' := [pw_i ((-1))]) rfl (fun _ => rfl) ?_
          refine pw_iret E rfl ?_
          exact ⟨rfl, ⟨_, rfl, by omega, by omega, (by rw [px_str_eq strs, ← hx25_2, List.drop_eq_nil_of_le (by rw [List.length_map]; omega)]; rfl)⟩⟩
        · intro hc32
          change ¬ ((strl.length : Int) ≤ k25_5) at hc32
          refine pw_ld E (pc' := 35) (st' := [.ref str]) rfl (fun _ => rfl) ?_
          refine pw_ld E (pc' := 37) (st' := [pw_i k25_5, .ref str]) rfl (fun _ => rfl) ?_
          refine pw_schrE E rfl rfl strs stri strn (by omega) (by omega) rfl (fun x33 hx33a hx33b hx33r => ?_)
          have hdr := px_drop hx33r
          refine pw_ist E (pc' := 42) (ls' := [some (.ref 40), some (.ref str), some (pw_i k25_2), some (pw_i k25_3), some (pw_i k25_4), some (pw_i k25_5), some (pw_i x33)]) rfl rfl rfl rfl ?_
          refine pw_ld E (pc' := 44) (st' := [pw_i x33]) rfl (fun _ => rfl) ?_
          refine pw_bip E (pc' := 46) rfl rfl (by decide) ?_
          refine pw_if2 E (pc' := 86) rfl (by decide) (by omega) (by omega) (by decide) (by decide) ?_ ?_
          · intro hc34
            change x33 = (32 : Int) at hc34
            refine pw_ld E (pc' := 88) (st' := [pw_i k25_4]) rfl (fun _ => rfl) ?_
            refine pw_if E (pc' := 101) rfl (by decide) (by omega) (by omega) ?_ ?_
            · intro hc35
              change k25_4 = (0 : Int) at hc35
              refine pw_inc E (pc' := 104) (ls' := [some (.ref 40), some (.ref str), some (pw_i (k25_2 + 1)), some (pw_i k25_3), some (pw_i k25_4), some (pw_i k25_5), some (pw_i x33)]) rfl rfl rfl rfl ?_
              refine pw_ld E (pc' := 105) (st' := [.ref 40]) rfl (fun _ => rfl) ?_
              refine pw_getI2 I E (c := 24) (k := 2) (pc' := 108) rfl rfl rfl rfl rfl rfl (fun hf36a hf36b => ?_)
              refine pw_istn E (pc' := 109) (ls' := [some (.ref 40), some (.ref str), some (pw_i (k25_2 + 1)), some (pw_i (pw_g h 24 2)), some (pw_i k25_4), some (pw_i k25_5), some (pw_i x33)]) rfl rfl rfl rfl ?_
              refine pw_ld E (pc' := 110) (st' := [.ref 40]) rfl (fun _ => rfl) ?_
              refine pw_getI2 I E (c := 24) (k := 4) (pc' := 113) rfl rfl rfl rfl rfl rfl (fun hf37a hf37b => ?_)
              refine pw_ld E (pc' := 114) (st' := [pw_i 1, pw_i (pw_g h 24 4)]) rfl (fun _ => rfl) ?_
              refine pw_if2 E (pc' := 121) rfl (by decide) (by omega) (by omega) (by decide) (by decide) ?_ ?_
              · intro hc38
                change pw_g h 24 4 ≠ (1 : Int) at hc38
                exfalso; omega
              · intro hc39
                change ¬ (pw_g h 24 4 ≠ (1 : Int)) at hc39
                refine pw_ld E (pc' := 118) (st' := [pw_i 1]) rfl (fun _ => rfl) ?_
                refine pw_goto E (pc' := 122) rfl (by decide) ?_
                refine pw_ist E (pc' := 124) (ls' := [some (.ref 40), some (.ref str), some (pw_i (k25_2 + 1)), some (pw_i (pw_g h 24 2)), some (pw_i 1), some (pw_i k25_5), some (pw_i x33)]) rfl rfl rfl rfl ?_
                refine pw_inc E (pc' := 127) (ls' := [some (.ref 40), some (.ref str), some (pw_i (k25_2 + 1)), some (pw_i (pw_g h 24 2)), some (pw_i 1), some (pw_i (k25_5 + 1)), some (pw_i x33)]) rfl rfl rfl rfl ?_
                have oW : px_wa (pw_g h 25) (pw_g h 24 2) (pw_g h 24 3) kk ((strl.map px_cv).drop (k25_5 + 1).toNat) (k25_2 + 1) (pw_g h 24 2) (1) = px_wa (pw_g h 25) (pw_g h 24 2) (pw_g h 24 3) kk (strl.map px_cv) 0 (pw_g h 24 2) kk := by
                  rw [← hx25_2, hdr, show (k25_5 + 1).toNat = (k25_5).toNat + 1 by omega]
                  rw [px_wa_b (by omega) (by omega), show kk = 1 by omega]
                refine pw_goto E (pc' := 25) rfl (by decide) ?_
                exact ih25 _ (by omega) (k25_2 + 1) (pw_g h 24 2) (1) (k25_5 + 1) (some (pw_i x33))  (by omega) (by omega) (by omega) (by omega) (by omega) (by omega) (by omega) (by omega) (by omega) (by omega) oW rfl
            · intro hc40
              change ¬ (k25_4 = (0 : Int)) at hc40
              refine pw_ld E (pc' := 92) (st' := [pw_i k25_3]) rfl (fun _ => rfl) ?_
              refine pw_ld E (pc' := 93) (st' := [.ref 40, pw_i k25_3]) rfl (fun _ => rfl) ?_
              refine pw_getI2 I E (c := 24) (k := 3) (pc' := 96) rfl rfl rfl rfl rfl rfl (fun hf41a hf41b => ?_)
              refine pw_if2 E (pc' := 101) rfl (by decide) (by omega) (by omega) (by omega) (by omega) ?_ ?_
              · intro hc42
                change k25_3 ≠ pw_g h 24 3 at hc42
                refine pw_inc E (pc' := 104) (ls' := [some (.ref 40), some (.ref str), some (pw_i (k25_2 + 1)), some (pw_i k25_3), some (pw_i k25_4), some (pw_i k25_5), some (pw_i x33)]) rfl rfl rfl rfl ?_
                refine pw_ld E (pc' := 105) (st' := [.ref 40]) rfl (fun _ => rfl) ?_
                refine pw_getI2 I E (c := 24) (k := 2) (pc' := 108) rfl rfl rfl rfl rfl rfl (fun hf43a hf43b => ?_)
                refine pw_istn E (pc' := 109) (ls' := [some (.ref 40), some (.ref str), some (pw_i (k25_2 + 1)), some (pw_i (pw_g h 24 2)), some (pw_i k25_4), some (pw_i k25_5), some (pw_i x33)]) rfl rfl rfl rfl ?_
                refine pw_ld E (pc' := 110) (st' := [.ref 40]) rfl (fun _ => rfl) ?_
                refine pw_getI2 I E (c := 24) (k := 4) (pc' := 113) rfl rfl rfl rfl rfl rfl (fun hf44a hf44b => ?_)
                refine pw_ld E (pc' := 114) (st' := [pw_i 1, pw_i (pw_g h 24 4)]) rfl (fun _ => rfl) ?_
                refine pw_if2 E (pc' := 121) rfl (by decide) (by omega) (by omega) (by decide) (by decide) ?_ ?_
                · intro hc45
                  change pw_g h 24 4 ≠ (1 : Int) at hc45
                  exfalso; omega
                · intro hc46
                  change ¬ (pw_g h 24 4 ≠ (1 : Int)) at hc46
                  refine pw_ld E (pc' := 118) (st' := [pw_i 1]) rfl (fun _ => rfl) ?_
                  refine pw_goto E (pc' := 122) rfl (by decide) ?_
                  refine pw_ist E (pc' := 124) (ls' := [some (.ref 40), some (.ref str), some (pw_i (k25_2 + 1)), some (pw_i (pw_g h 24 2)), some (pw_i 1), some (pw_i k25_5), some (pw_i x33)]) rfl rfl rfl rfl ?_
                  refine pw_inc E (pc' := 127) (ls' := [some (.ref 40), some (.ref str), some (pw_i (k25_2 + 1)), some (pw_i (pw_g h 24 2)), some (pw_i 1), some (pw_i (k25_5 + 1)), some (pw_i x33)]) rfl rfl rfl rfl ?_
                  have oW : px_wa (pw_g h 25) (pw_g h 24 2) (pw_g h 24 3) kk ((strl.map px_cv).drop (k25_5 + 1).toNat) (k25_2 + 1) (pw_g h 24 2) (1) = px_wa (pw_g h 25) (pw_g h 24 2) (pw_g h 24 3) kk (strl.map px_cv) 0 (pw_g h 24 2) kk := by
                    rw [← hx25_2, hdr, show (k25_5 + 1).toNat = (k25_5).toNat + 1 by omega]
                    rw [px_wa_b (by omega) (by omega), show kk = 1 by omega]
                  refine pw_goto E (pc' := 25) rfl (by decide) ?_
                  exact ih25 _ (by omega) (k25_2 + 1) (pw_g h 24 2) (1) (k25_5 + 1) (some (pw_i x33))  (by omega) (by omega) (by omega) (by omega) (by omega) (by omega) (by omega) (by omega) (by omega) (by omega) oW rfl
              · intro hc47
                change ¬ (k25_3 ≠ pw_g h 24 3) at hc47
                refine pw_ld E (pc' := 100) (st' := [pw_i k25_2]) rfl (fun _ => rfl) ?_
                refine pw_iret E rfl ?_
                exact ⟨rfl, ⟨_, rfl, by omega, by omega, (by rw [px_str_eq strs, ← hx25_2, hdr]; exact (px_wa_f (by omega) (by omega)).symm)⟩⟩
          · intro hc48
            change ¬ (x33 = (32 : Int)) at hc48
            refine pw_ld E (pc' := 51) (st' := [pw_i k25_4]) rfl (fun _ => rfl) ?_
            refine pw_if E (pc' := 77) rfl (by decide) (by omega) (by omega) ?_ ?_
            · intro hc49
              change k25_4 = (0 : Int) at hc49
              refine pw_ld E (pc' := 78) (st' := [pw_i 0]) rfl (fun _ => rfl) ?_
              refine pw_ist E (pc' := 80) (ls' := [some (.ref 40), some (.ref str), some (pw_i k25_2), some (pw_i k25_3), some (pw_i 0), some (pw_i k25_5), some (pw_i x33)]) rfl rfl rfl rfl ?_
              refine pw_inc E (pc' := 83) (ls' := [some (.ref 40), some (.ref str), some (pw_i k25_2), some (pw_i (k25_3 + 1)), some (pw_i 0), some (pw_i k25_5), some (pw_i x33)]) rfl rfl rfl rfl ?_
              refine pw_goto E (pc' := 124) rfl (by decide) ?_
              refine pw_inc E (pc' := 127) (ls' := [some (.ref 40), some (.ref str), some (pw_i k25_2), some (pw_i (k25_3 + 1)), some (pw_i 0), some (pw_i (k25_5 + 1)), some (pw_i x33)]) rfl rfl rfl rfl ?_
              have oW : px_wa (pw_g h 25) (pw_g h 24 2) (pw_g h 24 3) kk ((strl.map px_cv).drop (k25_5 + 1).toNat) (k25_2) (k25_3 + 1) (0) = px_wa (pw_g h 25) (pw_g h 24 2) (pw_g h 24 3) kk (strl.map px_cv) 0 (pw_g h 24 2) kk := by
                rw [← hx25_2, hdr, show (k25_5 + 1).toNat = (k25_5).toNat + 1 by omega]
                rw [px_wa_n (by omega), if_neg (by omega)]
              refine pw_goto E (pc' := 25) rfl (by decide) ?_
              exact ih25 _ (by omega) (k25_2) (k25_3 + 1) (0) (k25_5 + 1) (some (pw_i x33))  (by omega) (by omega) (by omega) (by omega) (by omega) (by omega) (by omega) (by omega) (by omega) (by omega) oW rfl
            · intro hc50
              change ¬ (k25_4 = (0 : Int)) at hc50
              refine pw_ld E (pc' := 55) (st' := [pw_i k25_3]) rfl (fun _ => rfl) ?_
              refine pw_ld E (pc' := 56) (st' := [.ref 40, pw_i k25_3]) rfl (fun _ => rfl) ?_
              refine pw_getI2 I E (c := 24) (k := 3) (pc' := 59) rfl rfl rfl rfl rfl rfl (fun hf51a hf51b => ?_)
              refine pw_if2 E (pc' := 77) rfl (by decide) (by omega) (by omega) (by omega) (by omega) ?_ ?_
              · intro hc52
                change pw_g h 24 3 ≤ k25_3 at hc52
                refine pw_ld E (pc' := 78) (st' := [pw_i 0]) rfl (fun _ => rfl) ?_
                refine pw_ist E (pc' := 80) (ls' := [some (.ref 40), some (.ref str), some (pw_i k25_2), some (pw_i k25_3), some (pw_i 0), some (pw_i k25_5), some (pw_i x33)]) rfl rfl rfl rfl ?_
                refine pw_inc E (pc' := 83) (ls' := [some (.ref 40), some (.ref str), some (pw_i k25_2), some (pw_i (k25_3 + 1)), some (pw_i 0), some (pw_i k25_5), some (pw_i x33)]) rfl rfl rfl rfl ?_
                refine pw_goto E (pc' := 124) rfl (by decide) ?_
                refine pw_inc E (pc' := 127) (ls' := [some (.ref 40), some (.ref str), some (pw_i k25_2), some (pw_i (k25_3 + 1)), some (pw_i 0), some (pw_i (k25_5 + 1)), some (pw_i x33)]) rfl rfl rfl rfl ?_
                have oW : px_wa (pw_g h 25) (pw_g h 24 2) (pw_g h 24 3) kk ((strl.map px_cv).drop (k25_5 + 1).toNat) (k25_2) (k25_3 + 1) (0) = px_wa (pw_g h 25) (pw_g h 24 2) (pw_g h 24 3) kk (strl.map px_cv) 0 (pw_g h 24 2) kk := by
                  rw [← hx25_2, hdr, show (k25_5 + 1).toNat = (k25_5).toNat + 1 by omega]
                  rw [px_wa_n (by omega), if_neg (by omega)]
                refine pw_goto E (pc' := 25) rfl (by decide) ?_
                exact ih25 _ (by omega) (k25_2) (k25_3 + 1) (0) (k25_5 + 1) (some (pw_i x33))  (by omega) (by omega) (by omega) (by omega) (by omega) (by omega) (by omega) (by omega) (by omega) (by omega) oW rfl
              · intro hc53
                change ¬ (pw_g h 24 3 ≤ k25_3) at hc53
                refine pw_ld E (pc' := 63) (st' := [.ref 40]) rfl (fun _ => rfl) ?_
                refine pw_getR (b := 41) I E (c := 24) (k := 0) (pc' := 66) rfl rfl rfl rfl rfl rfl rfl ?_
                refine pw_ld E (pc' := 67) (st' := [pw_i k25_3, .ref 41]) rfl (fun _ => rfl) ?_
                refine pw_ald2 I E (c := 25) (pc' := 68) rfl rfl rfl (by decide) rfl (by decide) (by omega) (by omega) rfl (fun hf54a hf54b => ?_)
                refine pw_ld E (pc' := 70) (st' := [pw_i x33, pw_i (pw_g h 25 (k25_3.toNat))]) rfl (fun _ => rfl) ?_
                refine pw_if2 E (pc' := 77) rfl (by decide) (by omega) (by omega) (by omega) (by omega) ?_ ?_
                · intro hc55
                  change pw_g h 25 (k25_3.toNat) ≠ x33 at hc55
                  refine pw_ld E (pc' := 78) (st' := [pw_i 0]) rfl (fun _ => rfl) ?_
                  refine pw_ist E (pc' := 80) (ls' := [some (.ref 40), some (.ref str), some (pw_i k25_2), some (pw_i k25_3), some (pw_i 0), some (pw_i k25_5), some (pw_i x33)]) rfl rfl rfl rfl ?_
                  refine pw_inc E (pc' := 83) (ls' := [some (.ref 40), some (.ref str), some (pw_i k25_2), some (pw_i (k25_3 + 1)), some (pw_i 0), some (pw_i k25_5), some (pw_i x33)]) rfl rfl rfl rfl ?_
                  refine pw_goto E (pc' := 124) rfl (by decide) ?_
                  refine pw_inc E (pc' := 127) (ls' := [some (.ref 40), some (.ref str), some (pw_i k25_2), some (pw_i (k25_3 + 1)), some (pw_i 0), some (pw_i (k25_5 + 1)), some (pw_i x33)]) rfl rfl rfl rfl ?_
                  have oW : px_wa (pw_g h 25) (pw_g h 24 2) (pw_g h 24 3) kk ((strl.map px_cv).drop (k25_5 + 1).toNat) (k25_2) (k25_3 + 1) (0) = px_wa (pw_g h 25) (pw_g h 24 2) (pw_g h 24 3) kk (strl.map px_cv) 0 (pw_g h 24 2) kk := by
                    rw [← hx25_2, hdr, show (k25_5 + 1).toNat = (k25_5).toNat + 1 by omega]
                    rw [px_wa_n (by omega), if_neg (by omega)]
                  refine pw_goto E (pc' := 25) rfl (by decide) ?_
                  exact ih25 _ (by omega) (k25_2) (k25_3 + 1) (0) (k25_5 + 1) (some (pw_i x33))  (by omega) (by omega) (by omega) (by omega) (by omega) (by omega) (by omega) (by omega) (by omega) (by omega) oW rfl
                · intro hc56
                  change ¬ (pw_g h 25 (k25_3.toNat) ≠ x33) at hc56
                  refine pw_ld E (pc' := 74) (st' := [pw_i 1]) rfl (fun _ => rfl) ?_
                  refine pw_goto E (pc' := 78) rfl (by decide) ?_
                  refine pw_ist E (pc' := 80) (ls' := [some (.ref 40), some (.ref str), some (pw_i k25_2), some (pw_i k25_3), some (pw_i 1), some (pw_i k25_5), some (pw_i x33)]) rfl rfl rfl rfl ?_
                  refine pw_inc E (pc' := 83) (ls' := [some (.ref 40), some (.ref str), some (pw_i k25_2), some (pw_i (k25_3 + 1)), some (pw_i 1), some (pw_i k25_5), some (pw_i x33)]) rfl rfl rfl rfl ?_
                  refine pw_goto E (pc' := 124) rfl (by decide) ?_
                  refine pw_inc E (pc' := 127) (ls' := [some (.ref 40), some (.ref str), some (pw_i k25_2), some (pw_i (k25_3 + 1)), some (pw_i 1), some (pw_i (k25_5 + 1)), some (pw_i x33)]) rfl rfl rfl rfl ?_
                  have oW : px_wa (pw_g h 25) (pw_g h 24 2) (pw_g h 24 3) kk ((strl.map px_cv).drop (k25_5 + 1).toNat) (k25_2) (k25_3 + 1) (1) = px_wa (pw_g h 25) (pw_g h 24 2) (pw_g h 24 3) kk (strl.map px_cv) 0 (pw_g h 24 2) kk := by
                    rw [← hx25_2, hdr, show (k25_5 + 1).toNat = (k25_5).toNat + 1 by omega]
                    rw [px_wa_n (by omega), if_pos ⟨by omega, by omega, by omega⟩]
                  refine pw_goto E (pc' := 25) rfl (by decide) ?_
                  exact ih25 _ (by omega) (k25_2) (k25_3 + 1) (1) (k25_5 + 1) (some (pw_i x33))  (by omega) (by omega) (by omega) (by omega) (by omega) (by omega) (by omega) (by omega) (by omega) (by omega) oW rfl
    exact L25 _ (0) (pw_g h 24 2) (1) (0) (none)  (by omega) (by omega) (by omega) (by omega) (by omega) (by omega) (by omega) (by omega) (by omega) (by omega) (by rw [show kk = 1 by omega]; rfl) rfl
end
section
/-! texts: words of the class's lists, and their numbers -/
def pt_hl (w : List Int) : Int := pt_hw (fun j => w.getD j 0) 0 w.length
/-- the number of the first word of the list whose number is V -/
def px_fl : List (List Int) → Int → Int → Int
  | [], _, _ => -1
  | w :: r, V, n => if V = pt_hl w then n else px_fl r V (n + 1)
def px_wl : List (List Int) → List Int
  | [] => []
  | w :: r => w ++ 32 :: px_wl r
theorem px_wE {T : Nat → Int} {z : Nat} {t : pt_tok} {w : List Int} (h : pt_ta T z t) (k : t.2.2.1 = 1) (hw : ∀ j : Nat, j < w.length → pt_le (w.getD j 0)) : ((t.1 : Int) + w.length = t.2.1 ∧ ∀ j : Nat, j < w.length → T ((t.1 : Int) + j).toNat = w.getD j 0) ↔ t.2.2.2 = pt_hl w := by
  obtain ⟨h1, h2, h3, h4⟩ := h
  rcases h4 with ⟨-, c2, -, c4, -, c6⟩ | ⟨-, -, -, c4, c5, -⟩ | ⟨-, -, -, c4, c5, -⟩
  · have l8 : t.2.1 - t.1 ≤ 8 := by
      by_cases q : 8 < t.2.1 - t.1
      · rw [c4 q] at k; exact absurd k (by decide)
      · omega
    rw [c6, show min 8 (t.2.1 - t.1) = t.2.1 - t.1 by omega]
    unfold pt_hl
    constructor
    · rintro ⟨a, b⟩
      have e : w.length = t.2.1 - t.1 := by omega
      rw [e]
      have : ∀ n : Nat, n ≤ t.2.1 - t.1 → pt_hw T t.1 n = pt_hw (fun j => w.getD j 0) 0 n := by
        intro n
        induction n with
        | zero => intro _; rfl
        | succ n ih =>
          intro hn
          show 37 * pt_hw T t.1 n + (T (t.1 + n) - 96) = 37 * pt_hw (fun j => w.getD j 0) 0 n + (w.getD (0 + n) 0 - 96)
          rw [ih (by omega), Nat.zero_add, ← b n (by omega), show ((t.1 : Int) + n).toNat = t.1 + n by omega]
      exact this _ (Nat.le_refl _)
    · intro e
      obtain ⟨u, v⟩ := pt_hwI (T := T) (T' := fun j => w.getD j 0) (s := t.1) (s' := 0) (t.2.1 - t.1) w.length (fun j hj => c2 _ (by omega) (by omega)) (fun j hj => by rw [Nat.zero_add]; exact hw j hj) e
      refine ⟨by omega, fun j hj => ?_⟩
      have q := v j (by omega)
      rw [Nat.zero_add] at q
      rw [show ((t.1 : Int) + j).toNat = t.1 + j by omega]
      exact q
  · exfalso
    by_cases q : 4 < t.2.1 - t.1
    · rw [c4 q] at k; exact absurd k (by decide)
    · rw [c5 (by omega)] at k; exact absurd k (by decide)
  · exfalso
    by_cases q : pt_si (T t.1)
    · rw [c4 q] at k; exact absurd k (by decide)
    · rw [c5 q] at k; exact absurd k (by decide)
theorem px_wa_l {T : Nat → Int} {z : Nat} {t : pt_tok} (h : pt_ta T z t) (k : t.2.2.1 = 1) : ∀ (W : List (List Int)) (n : Int), (∀ w ∈ W, ∀ j : Nat, j < w.length → pt_le (w.getD j 0)) → (∀ w ∈ W, ∀ c ∈ w, c ≠ 32) → px_wa T t.1 t.2.1 1 (px_wl W) n t.1 1 = px_fl W t.2.2.2 n
  | [], _, _, _ => rfl
  | w :: r, n, h1, h2 => by
    show px_wa T t.1 t.2.1 1 (w ++ 32 :: px_wl r) n t.1 1 = if t.2.2.2 = pt_hl w then n else px_fl r t.2.2.2 (n + 1)
    rw [px_wa_w w _ _ (h2 w (List.mem_cons_self ..)), px_wa_l h k r (n + 1) (fun x hx => h1 x (List.mem_cons_of_mem _ hx)) (fun x hx => h2 x (List.mem_cons_of_mem _ hx))]
    have q := px_wE h k (h1 w (List.mem_cons_self ..))
    by_cases c : t.2.2.2 = pt_hl w
    · rw [if_pos c, if_pos ⟨by decide, q.mpr c⟩]
    · rw [if_neg c, if_neg (fun z => c (q.mp z.2))]
/-- what is no word is in no list -/
theorem px_wa_0 {T : Nat → Int} {s e : Int} : ∀ (l : List Int) (n a : Int), px_wa T s e 0 l n a 0 = -1
  | [], _, _ => rfl
  | c :: r, n, a => by
    by_cases q : c = 32
    · rw [px_wa_b q (fun z => z.1 rfl)]
      exact px_wa_0 r (n + 1) s
    · rw [px_wa_n q, if_neg (fun z => z.1 rfl)]
      exact px_wa_0 r n (a + 1)
theorem px_fl_v {V : Int} : ∀ (W : List (List Int)) (n : Int), (∃ i : Nat, i < W.length ∧ V = pt_hl (W.getD i []) ∧ px_fl W V n = n + i) ∨ (px_fl W V n = -1 ∧ ∀ i : Nat, i < W.length → V ≠ pt_hl (W.getD i []))
  | [], _ => Or.inr ⟨rfl, fun i hi => absurd hi (by rw [List.length_nil]; omega)⟩
  | w :: r, n => by
    by_cases c : V = pt_hl w
    · exact Or.inl ⟨0, by rw [List.length_cons]; omega, c, (if_pos c : px_fl (w :: r) V n = n).trans (by omega)⟩
    · have e : px_fl (w :: r) V n = px_fl r V (n + 1) := if_neg c
      rcases px_fl_v r (n + 1) (V := V) with ⟨i, a1, a2, a3⟩ | ⟨a1, a2⟩
      · exact Or.inl ⟨i + 1, by rw [List.length_cons]; omega, a2, by rw [e, a3]; omega⟩
      · refine Or.inr ⟨e.trans a1, fun i hi => ?_⟩
        cases i with
        | zero => exact c
        | succ i => exact a2 i (by rw [List.length_cons] at hi; omega)
theorem pt_fd_v {g : Nat → Int} {V : Int} : ∀ k : Nat, (∃ i : Nat, i < k ∧ V = g i ∧ pt_fd g V k = i) ∨ (pt_fd g V k = -1 ∧ ∀ i : Nat, i < k → V ≠ g i)
  | 0 => Or.inr ⟨rfl, fun i hi => by omega⟩
  | k + 1 => by
    by_cases c : V = g k
    · exact Or.inl ⟨k, by omega, c, if_pos c⟩
    · have e : pt_fd g V (k + 1) = pt_fd g V k := if_neg c
      rcases pt_fd_v (g := g) (V := V) k with ⟨i, a1, a2, a3⟩ | ⟨a1, a2⟩
      · exact Or.inl ⟨i, by omega, a2, e.trans a3⟩
      · refine Or.inr ⟨e.trans a1, fun i hi => ?_⟩
        by_cases q : i = k
        · rw [q]; exact c
        · exact a2 i (by omega)
/-- a list's words are the model's -/
theorem px_fl_fd {g : Nat → Int} {V : Int} {W : List (List Int)} (h : ∀ i : Nat, i < W.length → pt_hl (W.getD i []) = g i) (hi : ∀ i j : Nat, i < W.length → j < W.length → g i = g j → i = j) : px_fl W V 0 = pt_fd g V W.length := by
  rcases px_fl_v (V := V) W 0 with ⟨i, a1, a2, a3⟩ | ⟨a1, a2⟩
  · rcases pt_fd_v (g := g) (V := V) W.length with ⟨j, b1, b2, b3⟩ | ⟨b1, b2⟩
    · have e := hi i j a1 b1 (by rw [← h i a1, ← a2, b2])
      rw [a3, b3, e]
      omega
    · exact absurd (by rw [a2, h i a1]) (b2 i a1)
  · rcases pt_fd_v (g := g) (V := V) W.length with ⟨j, b1, b2, b3⟩ | ⟨b1, b2⟩
    · exact absurd (by rw [b2, h j b1]) (a2 j b1)
    · rw [a1, b1]
/-- the lists of the class -/
def px_W : Nat → List (List Int)
  | 4 => [[104, 105, 114, 101], [112, 97, 114, 116], [115, 104, 117, 116], [111, 112, 101, 110, 115]]
  | 5 => [[119, 104, 111, 108, 101], [104, 97, 108, 102], [119, 97, 103, 101], [102, 108, 111, 111, 114], [103, 97, 112], [98, 97, 110, 107], [109, 111, 110, 116, 104], [116, 114, 97, 100, 101], [100, 114, 97, 119], [119, 97, 115]]
  | 6 => [[116, 97, 107, 101], [102, 114, 111, 109], [116, 111], [116, 101, 110, 116, 104, 115]]
  | 7 => [[98, 97, 110, 107], [119, 97, 103, 101], [109, 111, 115, 116], [99, 104, 111, 115, 101, 110], [115, 105, 108, 101, 110, 116], [115, 104, 117, 116], [98, 111, 117, 110, 100], [104, 97, 110, 100, 115], [110, 117, 109, 98, 101, 114]]
  | 9 => [[119, 104, 101, 110]]
  | 10 => [[110, 111, 116]]
  | 11 => [[97, 110, 100], [111, 114]]
  | _ => []
theorem px_l4 {X : List (Nat × List Value)} (hS : pw_Xs X) : px_str X 4 = px_wl (px_W 4) := by
  have e : px_str X 4 = px_str pw_X0 4 := by unfold px_str; rw [px_sx hS (by decide) (by decide)]
  rw [e]
  exact (by decide +kernel : px_str pw_X0 4 = px_wl (px_W 4))
theorem px_w4 {X : List (Nat × List Value)} {T : Nat → Int} {z : Nat} {t : pt_tok} (hS : pw_Xs X) (h : pt_ta T z t) (k : t.2.2.1 = 1) : px_wa T t.1 t.2.1 1 (px_str X 4) 0 t.1 1 = pt_fd (fun k => pt_wc k) t.2.2.2 4 := by
  rw [px_l4 hS, px_wa_l h k (px_W 4) 0 (show ∀ w ∈ px_W 4, ∀ j : Nat, j < w.length → (97 ≤ w.getD j 0 ∧ w.getD j 0 ≤ 122) from by decide +kernel) (by decide +kernel)]
  exact px_fl_fd (W := px_W 4) (show ∀ i : Nat, i < 4 → pt_hl ((px_W 4).getD i []) = (fun k => pt_wc k) i from by decide +kernel) (show ∀ i j : Nat, i < 4 → j < 4 → (fun k => pt_wc k) i = (fun k => pt_wc k) j → i = j from by
    have : ∀ i : Nat, i < 4 → ∀ j : Nat, j < 4 → (fun k => pt_wc k) i = (fun k => pt_wc k) j → i = j := by decide +kernel
    exact fun i j hi hj e => this i hi j hj e)
theorem px_l5 {X : List (Nat × List Value)} (hS : pw_Xs X) : px_str X 5 = px_wl (px_W 5) := by
  have e : px_str X 5 = px_str pw_X0 5 := by unfold px_str; rw [px_sx hS (by decide) (by decide)]
  rw [e]
  exact (by decide +kernel : px_str pw_X0 5 = px_wl (px_W 5))
theorem px_w5 {X : List (Nat × List Value)} {T : Nat → Int} {z : Nat} {t : pt_tok} (hS : pw_Xs X) (h : pt_ta T z t) (k : t.2.2.1 = 1) : px_wa T t.1 t.2.1 1 (px_str X 5) 0 t.1 1 = pt_fd (fun k => pt_wc (8 + k)) t.2.2.2 10 := by
  rw [px_l5 hS, px_wa_l h k (px_W 5) 0 (show ∀ w ∈ px_W 5, ∀ j : Nat, j < w.length → (97 ≤ w.getD j 0 ∧ w.getD j 0 ≤ 122) from by decide +kernel) (by decide +kernel)]
  exact px_fl_fd (W := px_W 5) (show ∀ i : Nat, i < 10 → pt_hl ((px_W 5).getD i []) = (fun k => pt_wc (8 + k)) i from by decide +kernel) (show ∀ i j : Nat, i < 10 → j < 10 → (fun k => pt_wc (8 + k)) i = (fun k => pt_wc (8 + k)) j → i = j from by
    have : ∀ i : Nat, i < 10 → ∀ j : Nat, j < 10 → (fun k => pt_wc (8 + k)) i = (fun k => pt_wc (8 + k)) j → i = j := by decide +kernel
    exact fun i j hi hj e => this i hi j hj e)
theorem px_l6 {X : List (Nat × List Value)} (hS : pw_Xs X) : px_str X 6 = px_wl (px_W 6) := by
  have e : px_str X 6 = px_str pw_X0 6 := by unfold px_str; rw [px_sx hS (by decide) (by decide)]
  rw [e]
  exact (by decide +kernel : px_str pw_X0 6 = px_wl (px_W 6))
theorem px_w6 {X : List (Nat × List Value)} {T : Nat → Int} {z : Nat} {t : pt_tok} (hS : pw_Xs X) (h : pt_ta T z t) (k : t.2.2.1 = 1) : px_wa T t.1 t.2.1 1 (px_str X 6) 0 t.1 1 = pt_fd (fun k => pt_wc (18 + k)) t.2.2.2 4 := by
  rw [px_l6 hS, px_wa_l h k (px_W 6) 0 (show ∀ w ∈ px_W 6, ∀ j : Nat, j < w.length → (97 ≤ w.getD j 0 ∧ w.getD j 0 ≤ 122) from by decide +kernel) (by decide +kernel)]
  exact px_fl_fd (W := px_W 6) (show ∀ i : Nat, i < 4 → pt_hl ((px_W 6).getD i []) = (fun k => pt_wc (18 + k)) i from by decide +kernel) (show ∀ i j : Nat, i < 4 → j < 4 → (fun k => pt_wc (18 + k)) i = (fun k => pt_wc (18 + k)) j → i = j from by
    have : ∀ i : Nat, i < 4 → ∀ j : Nat, j < 4 → (fun k => pt_wc (18 + k)) i = (fun k => pt_wc (18 + k)) j → i = j := by decide +kernel
    exact fun i j hi hj e => this i hi j hj e)
theorem px_l7 {X : List (Nat × List Value)} (hS : pw_Xs X) : px_str X 7 = px_wl (px_W 7) := by
  have e : px_str X 7 = px_str pw_X0 7 := by unfold px_str; rw [px_sx hS (by decide) (by decide)]
  rw [e]
  exact (by decide +kernel : px_str pw_X0 7 = px_wl (px_W 7))
theorem px_w7 {X : List (Nat × List Value)} {T : Nat → Int} {z : Nat} {t : pt_tok} (hS : pw_Xs X) (h : pt_ta T z t) (k : t.2.2.1 = 1) : px_wa T t.1 t.2.1 1 (px_str X 7) 0 t.1 1 = pt_fd (fun k => pt_wc (pt_wf k).toNat) t.2.2.2 9 := by
  rw [px_l7 hS, px_wa_l h k (px_W 7) 0 (show ∀ w ∈ px_W 7, ∀ j : Nat, j < w.length → (97 ≤ w.getD j 0 ∧ w.getD j 0 ≤ 122) from by decide +kernel) (by decide +kernel)]
  exact px_fl_fd (W := px_W 7) (show ∀ i : Nat, i < 9 → pt_hl ((px_W 7).getD i []) = (fun k => pt_wc (pt_wf k).toNat) i from by decide +kernel) (show ∀ i j : Nat, i < 9 → j < 9 → (fun k => pt_wc (pt_wf k).toNat) i = (fun k => pt_wc (pt_wf k).toNat) j → i = j from by
    have : ∀ i : Nat, i < 9 → ∀ j : Nat, j < 9 → (fun k => pt_wc (pt_wf k).toNat) i = (fun k => pt_wc (pt_wf k).toNat) j → i = j := by decide +kernel
    exact fun i j hi hj e => this i hi j hj e)
theorem px_l9 {X : List (Nat × List Value)} (hS : pw_Xs X) : px_str X 9 = px_wl (px_W 9) := by
  have e : px_str X 9 = px_str pw_X0 9 := by unfold px_str; rw [px_sx hS (by decide) (by decide)]
  rw [e]
  exact (by decide +kernel : px_str pw_X0 9 = px_wl (px_W 9))
theorem px_w9 {X : List (Nat × List Value)} {T : Nat → Int} {z : Nat} {t : pt_tok} (hS : pw_Xs X) (h : pt_ta T z t) (k : t.2.2.1 = 1) : px_wa T t.1 t.2.1 1 (px_str X 9) 0 t.1 1 = pt_fd (fun k => pt_wc (4 + k)) t.2.2.2 1 := by
  rw [px_l9 hS, px_wa_l h k (px_W 9) 0 (show ∀ w ∈ px_W 9, ∀ j : Nat, j < w.length → (97 ≤ w.getD j 0 ∧ w.getD j 0 ≤ 122) from by decide +kernel) (by decide +kernel)]
  exact px_fl_fd (W := px_W 9) (show ∀ i : Nat, i < 1 → pt_hl ((px_W 9).getD i []) = (fun k => pt_wc (4 + k)) i from by decide +kernel) (show ∀ i j : Nat, i < 1 → j < 1 → (fun k => pt_wc (4 + k)) i = (fun k => pt_wc (4 + k)) j → i = j from by
    have : ∀ i : Nat, i < 1 → ∀ j : Nat, j < 1 → (fun k => pt_wc (4 + k)) i = (fun k => pt_wc (4 + k)) j → i = j := by decide +kernel
    exact fun i j hi hj e => this i hi j hj e)
theorem px_l10 {X : List (Nat × List Value)} (hS : pw_Xs X) : px_str X 10 = px_wl (px_W 10) := by
  have e : px_str X 10 = px_str pw_X0 10 := by unfold px_str; rw [px_sx hS (by decide) (by decide)]
  rw [e]
  exact (by decide +kernel : px_str pw_X0 10 = px_wl (px_W 10))
theorem px_w10 {X : List (Nat × List Value)} {T : Nat → Int} {z : Nat} {t : pt_tok} (hS : pw_Xs X) (h : pt_ta T z t) (k : t.2.2.1 = 1) : px_wa T t.1 t.2.1 1 (px_str X 10) 0 t.1 1 = pt_fd (fun k => pt_wc (7 + k)) t.2.2.2 1 := by
  rw [px_l10 hS, px_wa_l h k (px_W 10) 0 (show ∀ w ∈ px_W 10, ∀ j : Nat, j < w.length → (97 ≤ w.getD j 0 ∧ w.getD j 0 ≤ 122) from by decide +kernel) (by decide +kernel)]
  exact px_fl_fd (W := px_W 10) (show ∀ i : Nat, i < 1 → pt_hl ((px_W 10).getD i []) = (fun k => pt_wc (7 + k)) i from by decide +kernel) (show ∀ i j : Nat, i < 1 → j < 1 → (fun k => pt_wc (7 + k)) i = (fun k => pt_wc (7 + k)) j → i = j from by
    have : ∀ i : Nat, i < 1 → ∀ j : Nat, j < 1 → (fun k => pt_wc (7 + k)) i = (fun k => pt_wc (7 + k)) j → i = j := by decide +kernel
    exact fun i j hi hj e => this i hi j hj e)
theorem px_l11 {X : List (Nat × List Value)} (hS : pw_Xs X) : px_str X 11 = px_wl (px_W 11) := by
  have e : px_str X 11 = px_str pw_X0 11 := by unfold px_str; rw [px_sx hS (by decide) (by decide)]
  rw [e]
  exact (by decide +kernel : px_str pw_X0 11 = px_wl (px_W 11))
theorem px_w11 {X : List (Nat × List Value)} {T : Nat → Int} {z : Nat} {t : pt_tok} (hS : pw_Xs X) (h : pt_ta T z t) (k : t.2.2.1 = 1) : px_wa T t.1 t.2.1 1 (px_str X 11) 0 t.1 1 = pt_fd (fun k => pt_wc (5 + k)) t.2.2.2 2 := by
  rw [px_l11 hS, px_wa_l h k (px_W 11) 0 (show ∀ w ∈ px_W 11, ∀ j : Nat, j < w.length → (97 ≤ w.getD j 0 ∧ w.getD j 0 ≤ 122) from by decide +kernel) (by decide +kernel)]
  exact px_fl_fd (W := px_W 11) (show ∀ i : Nat, i < 2 → pt_hl ((px_W 11).getD i []) = (fun k => pt_wc (5 + k)) i from by decide +kernel) (show ∀ i j : Nat, i < 2 → j < 2 → (fun k => pt_wc (5 + k)) i = (fun k => pt_wc (5 + k)) j → i = j from by
    have : ∀ i : Nat, i < 2 → ∀ j : Nat, j < 2 → (fun k => pt_wc (5 + k)) i = (fun k => pt_wc (5 + k)) j → i = j := by decide +kernel
    exact fun i j hi hj e => this i hi j hj e)
end
section
/-! texts: the token that stands to be read, the words of the lists -/
/-- the class's token is the one of that kind and value -/
def px_TR (K V : Int) (h : pm_H) : Prop := (K = 0 ∧ pw_g h 24 4 = 4) ∨ (K = 4 ∧ pw_g h 24 4 = 0) ∨ (K = 2 ∧ pw_g h 24 4 = 2 ∧ pw_g h 24 5 = V ∧ 0 ≤ V ∧ V ≤ 9999) ∨ (K = 3 ∧ pw_g h 24 4 = 3 ∧ pw_g h 24 5 = V) ∨ (K = 1 ∧ pw_g h 24 4 = 1 ∧ ∃ (z : Nat) (t : pt_tok), pt_ta (pw_g h 25) z t ∧ t.2.2.1 = 1 ∧ pw_g h 24 2 = t.1 ∧ pw_g h 24 3 = t.2.1 ∧ t.2.2.2 = V)
theorem px_TR.k {K V : Int} {h : pm_H} (H : px_TR K V h) : (K = 0 ∧ pw_g h 24 4 = 4) ∨ (K = 4 ∧ pw_g h 24 4 = 0) ∨ (K = 2 ∧ pw_g h 24 4 = 2 ∧ pw_g h 24 5 = V ∧ 0 ≤ V ∧ V ≤ 9999) ∨ (K = 3 ∧ pw_g h 24 4 = 3 ∧ pw_g h 24 5 = V) ∨ (K = 1 ∧ pw_g h 24 4 = 1) := by
  rcases H with q | q | q | q | ⟨q1, q2, -⟩
  · exact Or.inl q
  · exact Or.inr (Or.inl q)
  · exact Or.inr (Or.inr (Or.inl q))
  · exact Or.inr (Or.inr (Or.inr (Or.inl q)))
  · exact Or.inr (Or.inr (Or.inr (Or.inr ⟨q1, q2⟩)))
theorem px_TR.eq {K V : Int} {h h' : pm_H} (H : px_TR K V h) (e : ∀ k : Nat, pw_g h' 24 k = pw_g h 24 k) (e5 : ∀ j : Nat, pw_g h' 25 j = pw_g h 25 j) : px_TR K V h' := by
  have e5 : pw_g h' 25 = pw_g h 25 := funext e5
  unfold px_TR
  rw [e 4, e 5, e 2, e 3, e5]
  exact H
def px_wq (p : Nat) (V : Int) : Int := if p = 4 then pt_fd (fun k => pt_wc k) V 4 else if p = 5 then pt_fd (fun k => pt_wc (8 + k)) V 10 else if p = 6 then pt_fd (fun k => pt_wc (18 + k)) V 4 else if p = 7 then pt_fd (fun k => pt_wc (pt_wf k).toNat) V 9 else if p = 9 then pt_fd (fun k => pt_wc (4 + k)) V 1 else if p = 10 then pt_fd (fun k => pt_wc (7 + k)) V 1 else pt_fd (fun k => pt_wc (5 + k)) V 2
def px_wn (p : Nat) (K V : Int) : Int := if K = 1 then px_wq p V else -1
theorem px_wq_w {X : List (Nat × List Value)} {T : Nat → Int} {z p : Nat} {t : pt_tok} (hS : pw_Xs X) (h : pt_ta T z t) (k : t.2.2.1 = 1) (h4 : 4 ≤ p) (h12 : p < 12) (h8 : p ≠ 8) : px_wa T t.1 t.2.1 1 (px_str X p) 0 t.1 1 = px_wq p t.2.2.2 := by
  rcases (by omega : p = 4 ∨ p = 5 ∨ p = 6 ∨ p = 7 ∨ p = 9 ∨ p = 10 ∨ p = 11) with rfl | rfl | rfl | rfl | rfl | rfl | rfl
  · exact px_w4 hS h k
  · exact px_w5 hS h k
  · exact px_w6 hS h k
  · exact px_w7 hS h k
  · exact px_w9 hS h k
  · exact px_w10 hS h k
  · exact px_w11 hS h k
theorem cm_108_w {X : List (Nat × List Value)} {d : Nat} {h : pm_H} (hd : 1 ≤ d) (I : pw_I h) (hX : pw_Xk X) (str : Nat) (hstr1 : 4 ≤ str) (hstr2 : str < 12) (K V : Int) (hp0 : px_TR K V h) (hp1 : pw_Xs X) (hp2 : str ≠ 8) : pw X d h 108 0 [some (.ref 40), some (.ref str), none, none, none, none, none] [] (fun h' v => h = h' ∧ ∃ a : Int, v = .inl (some (pw_i a)) ∧ (-1) ≤ a ∧ a ≤ 60 ∧ (a = px_wn str K V)) := by
  by_cases q : K = 1
  · obtain ⟨k, z, t, ta, t1, s1, e1, v1⟩ : pw_g h 24 4 = 1 ∧ ∃ (z : Nat) (t : pt_tok), pt_ta (pw_g h 25) z t ∧ t.2.2.1 = 1 ∧ pw_g h 24 2 = t.1 ∧ pw_g h 24 3 = t.2.1 ∧ t.2.2.2 = V := by
      rcases hp0 with w | w | w | w | w
      · exfalso; omega
      · exfalso; omega
      · exfalso; omega
      · exfalso; omega
      · exact w.2
    refine pw_mono (cm_108_x24 hd I hX str hstr1 hstr2 1 (Or.inl ⟨k, rfl⟩)) ?_
    rintro h' v ⟨e, a, rfl, a0, a1, ha⟩
    rw [s1, e1, px_wq_w hp1 ta t1 hstr1 hstr2 hp2, v1] at ha
    exact ⟨e, a, rfl, a0, a1, ha.trans (if_pos q).symm⟩
  · have k := hp0.k
    refine pw_mono (cm_108_x24 hd I hX str hstr1 hstr2 0 (Or.inr ⟨by omega, rfl⟩)) ?_
    rintro h' v ⟨e, a, rfl, a0, a1, ha⟩
    rw [px_wa_0] at ha
    exact ⟨e, a, rfl, a0, a1, ha.trans (if_neg q).symm⟩
theorem px_wq1 {g : Nat → Int} {V : Int} : (V = g 0 ∧ pt_fd g V 1 = 0) ∨ (V ≠ g 0 ∧ pt_fd g V 1 = -1) := by
  by_cases q : V = g 0
  · exact Or.inl ⟨q, if_pos q⟩
  · exact Or.inr ⟨q, if_neg q⟩
theorem px_wn10 (K V : Int) : (px_wn 10 K V = 0 ∧ K = 1 ∧ V = 19741) ∨ (px_wn 10 K V = -1 ∧ ¬ (K = 1 ∧ V = 19741)) := by
  unfold px_wn
  by_cases q : K = 1
  · rw [if_pos q]
    rcases px_wq1 (g := fun k => pt_wc (7 + k)) (V := V) with ⟨a, b⟩ | ⟨a, b⟩
    · exact Or.inl ⟨b, q, a⟩
    · exact Or.inr ⟨b, fun z => a z.2⟩
  · rw [if_neg q]
    exact Or.inr ⟨rfl, fun z => q z.1⟩
theorem px_wn9 (K V : Int) : (px_wn 9 K V = 0 ∧ K = 1 ∧ V = 1176170) ∨ (px_wn 9 K V = -1 ∧ ¬ (K = 1 ∧ V = 1176170)) := by
  unfold px_wn
  by_cases q : K = 1
  · rw [if_pos q]
    rcases px_wq1 (g := fun k => pt_wc (4 + k)) (V := V) with ⟨a, b⟩ | ⟨a, b⟩
    · exact Or.inl ⟨b, q, a⟩
    · exact Or.inr ⟨b, fun z => a z.2⟩
  · rw [if_neg q]
    exact Or.inr ⟨rfl, fun z => q z.1⟩
theorem px_wn11 (K V : Int) : (px_wn 11 K V = 0 ∧ K = 1 ∧ V = 1891) ∨ (px_wn 11 K V = 1 ∧ K = 1 ∧ V = 573) ∨ (px_wn 11 K V = -1 ∧ ¬ (K = 1 ∧ (V = 1891 ∨ V = 573))) := by
  unfold px_wn
  by_cases q : K = 1
  · rw [if_pos q]
    show (pt_fd (fun k => pt_wc (5 + k)) V 2 = 0 ∧ _) ∨ (pt_fd (fun k => pt_wc (5 + k)) V 2 = 1 ∧ _) ∨ (pt_fd (fun k => pt_wc (5 + k)) V 2 = -1 ∧ _)
    by_cases c1 : V = 573
    · have e : pt_fd (fun k => pt_wc (5 + k)) V 2 = 1 := if_pos c1
      exact Or.inr (Or.inl ⟨e, q, c1⟩)
    · have e : pt_fd (fun k => pt_wc (5 + k)) V 2 = pt_fd (fun k => pt_wc (5 + k)) V 1 := if_neg c1
      rw [e]
      rcases px_wq1 (g := fun k => pt_wc (5 + k)) (V := V) with ⟨a, b⟩ | ⟨a, b⟩
      · exact Or.inl ⟨b, q, a⟩
      · exact Or.inr (Or.inr ⟨b, fun z => z.2.elim a c1⟩)
  · rw [if_neg q]
    exact Or.inr (Or.inr ⟨rfl, fun z => q z.1⟩)
theorem px_opnD (K V : Int) : (pt_opn K V = 1 ∧ K = 1 ∧ V = 1891) ∨ (pt_opn K V = 2 ∧ K = 1 ∧ V = 573) ∨ (pt_opn K V = 3 ∧ K = 3 ∧ V = 60) ∨ (pt_opn K V = 4 ∧ K = 3 ∧ V = 61) ∨ (pt_opn K V = 5 ∧ K = 3 ∧ V = 43) ∨ (pt_opn K V = 6 ∧ K = 3 ∧ V = 45) ∨ (pt_opn K V = 7 ∧ K = 3 ∧ V = 42) ∨ (pt_opn K V = -1 ∧ ¬ (K = 1 ∧ (V = 1891 ∨ V = 573)) ∧ ¬ (K = 3 ∧ (V = 60 ∨ V = 61 ∨ V = 43 ∨ V = 45 ∨ V = 42))) := by
  unfold pt_opn
  repeat' split
  all_goals omega
/-- what stands while a line's E is read -/
def px_IN (c : Nat) (h : pm_H) (st T : Int) : Prop := px_wf (px_S c h) ∧ pw_g h c 5 = px_dc (px_S c h) ∧ pw_g h c 6 = px_oc (px_S c h) ∧ pw_g h c 5 ≤ 5 ∧ 0 ≤ st ∧ st ≤ pw_g h 30 1 ∧ pw_g h 33 (pw_g h c 8).toNat = pw_g h 30 1 ∧ pw_g h 30 1 + pw_g h c 4 ≤ T
theorem px_IN.wk {c : Nat} {h : pm_H} {st T T' : Int} (H : px_IN c h st T) (e : T ≤ T') : px_IN c h st T' := by
  obtain ⟨a1, a2, a3, a4, a5, a6, a7, a8⟩ := H
  exact ⟨a1, a2, a3, a4, a5, a6, a7, by omega⟩
theorem px_wf.len : ∀ S : List Int, px_wf S → (S.length : Int) ≤ 5 * px_dc S + pt_tr S := by
  intro S
  induction S with
  | nil => intro _; exact Int.le_refl _
  | cons x S ih =>
    intro w
    obtain ⟨w1, w2, w3, w4⟩ := w
    have i := ih w4
    have e1 : px_dc (x :: S) = px_dc S + (if x = 8 ∨ x = 9 then 1 else 0) := rfl
    have e2 : pt_tr (x :: S) = pt_rk x := rfl
    have b1 := pt_trB S
    have b2 := pt_rkB x
    rw [e1, e2, List.length_cons]
    by_cases q : x = 8 ∨ x = 9
    · rw [if_pos q]; omega
    · rw [if_neg q]
      have t := (w3 (by omega)).2
      omega
theorem px_S_len {c : Nat} {h : pm_H} : (px_S c h).length = (pw_g h c 4).toNat := px_st_len _
theorem px_IN.room {c : Nat} {h : pm_H} {st T : Int} (H : px_IN c h st T) : pw_g h c 4 ≤ 29 := by
  obtain ⟨a1, a2, a3, a4, -⟩ := H
  have l := px_wf.len _ a1
  have n := px_S_len (c := c) (h := h)
  have t := pt_trB (px_S c h)
  omega
theorem px_IN.rl {c : Nat} {h h' : pm_H} {st T rk : Int} (H : px_IN c h st T) (R : px_RL c st rk h h') (hr : 1 ≤ rk) : px_IN c h' st T ∧ (pt_n8 (px_S c h) → pt_n8 (px_S c h')) ∧ pt_tr (px_S c h') < rk := by
  obtain ⟨r1, r2, r3, r4⟩ := R
  obtain ⟨a1, a2, a3, a4, a5, a6, a7, a8⟩ := H
  obtain ⟨w1, w2, w3⟩ := px_rlW hr (px_S c h) (px_C h st)
  have tt := px_rlT (r := rk) (px_S c h) (px_C h st)
  rw [r1] at w1 w2 w3 tt
  have w1 : px_dc (px_S c h') = px_dc (px_S c h) := w1
  have w2 : px_oc (px_S c h') = px_oc (px_S c h) := w2
  have k5 := r4 5 (by decide)
  have k6 := r4 6 (by decide)
  have k8 := r4 8 (by decide)
  have b1 := r3.1
  have b3 := r3.2.2.1
  refine ⟨⟨(w3 a1).1, by omega, by omega, by omega, a5, by omega, by rw [k8]; exact b3, by omega⟩, fun q => (w3 a1).2 q, ?_⟩
  rcases tt with t | t
  · exact t
  · have t : px_S c h' = [] := t
    rw [t]
    show (0 : Int) < rk
    omega
theorem px_IN.pu {c : Nat} {h h' : pm_H} {st T x : Int} (H : px_IN c h st T) (P : px_PU c h h' x) (x1 : 1 ≤ x) (x7 : x ≤ 7) (n : pt_n8 (px_S c h)) (t : pt_tr (px_S c h) < pt_rk x) (h4 : 0 ≤ pw_g h c 4) (e1 : pw_g h' 30 1 = pw_g h 30 1) (e3 : ∀ j : Nat, pw_g h' 33 j = pw_g h 33 j) (e6 : ∀ j : Nat, pw_g h' 36 j = pw_g h 36 j) : px_IN c h' st (T + 1) ∧ px_S c h' = x :: px_S c h ∧ px_C h' st = px_C h st ∧ px_B c h h' := by
  obtain ⟨p1, p2, p3, p4⟩ := P
  have s := px_S.push h4 p1 p2 p3
  obtain ⟨a1, a2, a3, a4, a5, a6, a7, a8⟩ := H
  have k5 := p4 5 (by decide)
  have k6 := p4 6 (by decide)
  have k8 := p4 8 (by decide)
  have d1 : px_dc (x :: px_S c h) = px_dc (px_S c h) + (if x = 8 ∨ x = 9 then 1 else 0) := rfl
  have d2 : px_oc (x :: px_S c h) = px_oc (px_S c h) + (if x = 9 then 1 else 0) := rfl
  rw [if_neg (by omega)] at d1 d2
  refine ⟨⟨?_, ?_, ?_, by omega, a5, by omega, by rw [k8, e3, e1]; exact a7, by omega⟩, s, px_C.eq e1 e6, (px_B.rf a7).eq e1 e6 e3⟩
  · rw [s]; exact ⟨x1, by omega, fun _ => ⟨n, t⟩, a1⟩
  · rw [s]; omega
  · rw [s]; omega
theorem px_IN.dn {c : Nat} {h h' : pm_H} {st T x o : Int} (H : px_IN c h st T) (hx : (x = 8 ∧ o = 0) ∨ (x = 9 ∧ o = 1)) (s : px_S c h' = x :: px_S c h) (d4 : pw_g h c 5 ≤ 4) (e5 : pw_g h' c 5 = pw_g h c 5 + 1) (e6 : pw_g h' c 6 = pw_g h c 6 + o) (e8 : pw_g h' c 8 = pw_g h c 8) (e4 : pw_g h' c 4 = pw_g h c 4 + 1) (e1 : pw_g h' 30 1 = pw_g h 30 1) (e3 : ∀ j : Nat, pw_g h' 33 j = pw_g h 33 j) : px_IN c h' st (T + 1) := by
  obtain ⟨a1, a2, a3, a4, a5, a6, a7, a8⟩ := H
  have d1 : px_dc (x :: px_S c h) = px_dc (px_S c h) + (if x = 8 ∨ x = 9 then 1 else 0) := rfl
  have d2 : px_oc (x :: px_S c h) = px_oc (px_S c h) + (if x = 9 then 1 else 0) := rfl
  rw [if_pos (by omega)] at d1
  refine ⟨?_, ?_, ?_, by omega, a5, by omega, by rw [e8, e3, e1]; exact a7, by omega⟩
  · rw [s]; exact ⟨by omega, by omega, fun q => by omega, a1⟩
  · rw [s]; omega
  · rw [s]
    rcases hx with ⟨q, r⟩ | ⟨q, r⟩
    · rw [if_neg (by omega)] at d2; omega
    · rw [if_pos q] at d2; omega
theorem px_IN.ep {c : Nat} {h h' : pm_H} {st T : Int} (H : px_IN c h st T) (P : px_EP c st h h') : px_IN c h' st T ∧ pt_n8 (px_S c h') ∧ pw_g h' c 6 = pw_g h c 6 ∧ pw_g h' c 8 = pw_g h c 8 := by
  obtain ⟨p1, p2, p3, p7, p8⟩ := P
  obtain ⟨a1, a2, a3, a4, a5, a6, a7, a8⟩ := H
  obtain ⟨w1, w2, w3, w4, w5⟩ := px_epW (px_S c h) (pw_g h c 5) (px_C h st) a2 a1
  rw [p1] at w1 w2 w3 w4 w5
  have w1 : pw_g h' c 5 = px_dc (px_S c h') := w1
  have w2 : px_oc (px_S c h') = px_oc (px_S c h) := w2
  have w4 : pw_g h' c 5 ≤ pw_g h c 5 := w4
  have k6 := p8 6 (by decide) (by decide) (by decide)
  have k8 := p8 8 (by decide) (by decide) (by decide)
  have b1 := p3.1
  have b3 := p3.2.2.1
  exact ⟨⟨w3, w1, by omega, by omega, a5, by omega, by rw [k8]; exact b3, by omega⟩, w5, k6, k8⟩
theorem px_IN.em {c : Nat} {h h' : pm_H} {st T wd : Int} (H : px_IN c h st T) (m : px_EM h h' (pw_g h c 8) wd) (hc : ∀ k : Nat, pw_g h' c k = pw_g h c k) (hw : ∀ j : Nat, pw_g h' (c + 1) j = pw_g h (c + 1) j) : px_IN c h' st (T + 1) ∧ px_S c h' = px_S c h ∧ px_C h' st = wd :: px_C h st ∧ px_B c h h' := by
  obtain ⟨a1, a2, a3, a4, a5, a6, a7, a8⟩ := H
  have s : px_S c h' = px_S c h := px_S.eq (hc 4) hw
  have b := (px_B.rf a7).em rfl m
  have k4 := hc 4
  have k5 := hc 5
  have k6 := hc 6
  have cc := px_C.em m a5 a6
  obtain ⟨m1, m2, m3, m4, m5⟩ := m
  refine ⟨⟨by rw [s]; exact a1, by rw [s]; omega, by rw [s]; omega, by omega, a5, by omega, by rw [hc 8, m4, m1], by omega⟩, s, cc, b⟩
/-- how it stands behind a token -/
def px_PO (c : Nat) (st T : Int) (h h' : pm_H) (m : Int) (s : pt_St) : Prop := px_IN c h' st T ∧ (m, px_S c h', pw_g h' c 5, pw_g h' c 6, px_C h' st) = s ∧ pw_g h' c 7 = 2 + m ∧ (m = 1 → pt_n8 (px_S c h')) ∧ px_B c h h' ∧ pw_g h' c 8 = pw_g h c 8
/-- how it stands behind a line's sign -/
def px_EN (c : Nat) (st T : Int) (h h' : pm_H) (s : pt_St) : Prop := px_C h' st = s.2.2.2.2 ∧ px_B c h h' ∧ pw_g h' c 7 = 0 ∧ pw_g h' 30 1 ≤ T ∧ pw_g h' c 8 = pw_g h c 8
def px_s (c : Nat) (h : pm_H) (st m : Int) : pt_St := (m, px_S c h, pw_g h c 5, pw_g h c 6, px_C h st)
/-- what a token does behind a part -/
theorem px_erE1 {F : Int → Int} {K V d o : Int} {S c : List Int} (h1 : K = 3) (h2 : V = 59) (h3 : 0 < o) : pt_es F K V (1, S, d, o, c) = (1, (1, S, d, o, c)) := by
  rw [pt_es1]; unfold pt_er; rw [if_pos ⟨h1, h2⟩, if_pos h3]
theorem px_erE0 {F : Int → Int} {K V d o : Int} {S c : List Int} (h1 : K = 3) (h2 : V = 59) (h3 : ¬ 0 < o) : pt_es F K V (1, S, d, o, c) = (9, (1, (pt_rl 1 S c).1, d, o, (pt_rl 1 S c).2)) := by
  rw [pt_es1]; unfold pt_er; rw [if_pos ⟨h1, h2⟩, if_neg h3]
theorem px_erC1 {F : Int → Int} {K V d o : Int} {S c : List Int} (h1 : K = 3) (h2 : V = 41) (h3 : o ≤ 0) : pt_es F K V (1, S, d, o, c) = (1, (1, S, d, o, c)) := by
  rw [pt_es1]; unfold pt_er; rw [if_neg (by omega), if_pos ⟨h1, h2⟩, if_pos h3]
theorem px_erC0 {F : Int → Int} {K V d o : Int} {S c : List Int} (h1 : K = 3) (h2 : V = 41) (h3 : ¬ o ≤ 0) : pt_es F K V (1, S, d, o, c) = (0, pt_fin (pt_rl 1 S c).1.tail (d - 1) (o - 1) (pt_rl 1 S c).2) := by
  rw [pt_es1]; unfold pt_er; rw [if_neg (by omega), if_pos ⟨h1, h2⟩, if_neg h3]
theorem px_erW {F : Int → Int} {K V d o : Int} {S c : List Int} (h1 : ¬ (K = 3 ∧ V = 59)) (h2 : ¬ (K = 3 ∧ V = 41)) (h3 : pt_opn K V = -1) : pt_es F K V (1, S, d, o, c) = (1, (1, S, d, o, c)) := by
  rw [pt_es1]; unfold pt_er; rw [if_neg h1, if_neg h2, if_pos h3]
theorem px_er2 {F : Int → Int} {K V d o : Int} {S c : List Int} (h1 : ¬ (K = 3 ∧ V = 59)) (h2 : ¬ (K = 3 ∧ V = 41)) (h3 : pt_opn K V ≠ -1) (h4 : pt_rk (pt_opn K V) = 2) (h5 : pt_tr (pt_rl 3 S c).1 = 2) : pt_es F K V (1, S, d, o, c) = (1, (1, S, d, o, c)) := by
  rw [pt_es1]; unfold pt_er; rw [if_neg h1, if_neg h2, if_neg h3, if_pos ⟨h4, h5⟩]
theorem px_erP {F : Int → Int} {K V d o : Int} {S c : List Int} (h1 : ¬ (K = 3 ∧ V = 59)) (h2 : ¬ (K = 3 ∧ V = 41)) (h3 : pt_opn K V ≠ -1) (h4 : ¬ (pt_rk (pt_opn K V) = 2 ∧ pt_tr (pt_rl 3 S c).1 = 2)) : pt_es F K V (1, S, d, o, c) = (0, (0, pt_opn K V :: (pt_rl (pt_rk (pt_opn K V)) S c).1, d, o, (pt_rl (pt_rk (pt_opn K V)) S c).2)) := by
  rw [pt_es1]; unfold pt_er; rw [if_neg h1, if_neg h2, if_neg h3, if_neg h4]
theorem px_wn5 (K V : Int) : (K = 1 ∧ px_wn 5 K V = pt_FF 0 V) ∨ (K ≠ 1 ∧ px_wn 5 K V = -1) := by
  unfold px_wn
  by_cases q : K = 1
  · rw [if_pos q]; exact Or.inl ⟨q, rfl⟩
  · rw [if_neg q]; exact Or.inr ⟨q, rfl⟩
theorem px_wn7 (K V : Int) : (K = 1 ∧ px_wn 7 K V = pt_FF 1 V) ∨ (K ≠ 1 ∧ px_wn 7 K V = -1) := by
  unfold px_wn
  by_cases q : K = 1
  · rw [if_pos q]; exact Or.inl ⟨q, rfl⟩
  · rw [if_neg q]; exact Or.inr ⟨q, rfl⟩
end
