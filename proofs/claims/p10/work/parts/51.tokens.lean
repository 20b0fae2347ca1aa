/-! contracts (printed by wip/tool/pwspec.py) -/
set_option maxHeartbeats 4000000 in
theorem cm_97 {X : List (Nat × List Value)} {d : Nat} {h : pm_H} (hd : 2 ≤ d) (I : pw_I h) (e8 : Int64) : pw X d h 97 0 [some (.ref 40), some (.long e8), none, none, none, none] [] (fun h' v => pw_I h' ∧ pw_E [24, 25] h h' ∧ v = .inl none) := by
  have E : pm_ent 97 = some (2, 6, 9, 4, pmc_97) := rfl
  have E0 : pw_E [24, 25] h h := pw_E.rf _ _
  refine pw_bip E (pc' := 2) rfl rfl (by decide) ?_
  refine pw_istn E (pc' := 3) (ls' := [some (.ref 40), some (.long e8), none, some (pw_i 56), none, none]) rfl rfl rfl rfl ?_
  have L3 : ∀ (n3 : Nat) (k3_3 : Int) (k3_4 : Option Value) (k3_5 : Option Value) (h3 : pm_H), pw_I h3 → pw_E [24, 25] h h3 → (-8) ≤ k3_3 → k3_3 ≤ 56 → (k3_3 + 8).toNat = n3 → pw X d h3 97 3 [some (.ref 40), some (.long e8), none, some (pw_i k3_3), k3_4, k3_5] [] (fun h' v => pw_I h' ∧ pw_E [24, 25] h h' ∧ v = .inl none) := by
    intro n3
    induction n3 using Nat.strongRecOn with
    | ind n3 ih3 =>
      intro k3_3 k3_4 k3_5 h3 I3 E3 k3_3a k3_3b hm3
      refine pw_ld E (pc' := 4) (st' := [pw_i k3_3]) rfl (fun _ => rfl) ?_
      refine pw_if E (pc' := 86) rfl (by decide) (by omega) (by omega) ?_ ?_
      · intro hc1
        have hc1 : k3_3 < (0 : Int) := hc1
        refine pw_vret E rfl ?_
        exact ⟨I3, E3, rfl⟩
      · intro hc2
        have hc2 : ¬ (k3_3 < (0 : Int)) := hc2
        refine pw_ld E (pc' := 8) (st' := [.long e8]) rfl (fun _ => rfl) ?_
        refine pw_ld E (pc' := 9) (st' := [pw_i k3_3, .long e8]) rfl (fun _ => rfl) ?_
        refine pw_ld E (pc' := 10) (st' := [.long ((Int64.toUInt64 e8 >>> ((Int32.ofInt k3_3).toInt64.toUInt64 &&& Int64.toUInt64 63)).toInt64)]) rfl (fun _ => rfl) ?_
        refine pw_ld E (pc' := 13) (st' := [.long (Int64.ofNat 255), .long ((Int64.toUInt64 e8 >>> ((Int32.ofInt k3_3).toInt64.toUInt64 &&& Int64.toUInt64 63)).toInt64)]) rfl (fun _ => rfl) ?_
        refine pw_ld E (pc' := 14) (st' := [.long (((Int64.toUInt64 e8 >>> ((Int32.ofInt k3_3).toInt64.toUInt64 &&& Int64.toUInt64 63)).toInt64) &&& (Int64.ofNat 255))]) rfl (fun _ => rfl) ?_
        refine pw_l2i E (pc' := 15) rfl rfl ?_
        intro x3 hx3a hx3b
        refine pw_ist E (pc' := 17) (ls' := [some (.ref 40), some (.long e8), none, some (pw_i k3_3), some (pw_i x3), k3_5]) rfl rfl rfl rfl ?_
        refine pw_ld E (pc' := 19) (st' := [pw_i x3]) rfl (fun _ => rfl) ?_
        refine pw_bip E (pc' := 21) rfl rfl (by decide) ?_
        refine pw_if2 E (pc' := 36) rfl (by decide) (by omega) (by omega) (by decide) (by decide) ?_ ?_
        · intro hc4
          have hc4 : x3 = (10 : Int) := hc4
          refine pw_ld E (pc' := 37) (st' := [pw_i 1]) rfl (fun _ => rfl) ?_
          refine pw_goto E (pc' := 41) rfl (by decide) ?_
          refine pw_ist E (pc' := 43) (ls' := [some (.ref 40), some (.long e8), none, some (pw_i k3_3), some (pw_i x3), some (pw_i 1)]) rfl rfl rfl rfl ?_
          refine pw_ld E (pc' := 45) (st' := [pw_i 1]) rfl (fun _ => rfl) ?_
          refine pw_if E (pc' := 80) rfl (by decide) (by decide) (by decide) ?_ ?_
          · intro hc5
            have hc5 : (1 : Int) = (0 : Int) := hc5
            exfalso; omega
          · intro hc6
            have hc6 : ¬ ((1 : Int) = (0 : Int)) := hc6
            refine pw_ld E (pc' := 49) (st' := [.ref 40]) rfl (fun _ => rfl) ?_
            refine pw_getI I3 E (c := 24) (k := 1) (pc' := 52) rfl rfl rfl rfl rfl rfl (fun hf7a hf7b hf7c hf7d => ?_)
            refine pw_sip E (pc' := 55) rfl rfl (by decide) ?_
            refine pw_if2 E (pc' := 80) rfl (by decide) (by omega) (by omega) (by decide) (by decide) ?_ ?_
            · intro hc8
              have hc8 : (1000 : Int) ≤ pw_g h3 24 1 := hc8
              refine pw_inc E (pc' := 83) (ls' := [some (.ref 40), some (.long e8), none, some (pw_i (k3_3 + (-8))), some (pw_i x3), some (pw_i 1)]) rfl rfl rfl rfl ?_
              refine pw_goto E (pc' := 3) rfl (by decide) ?_
              exact ih3 _ (by omega) (k3_3 + (-8)) (some (pw_i x3)) (some (pw_i 1)) h3 I3 E3 (by omega) (by omega)  rfl
            · intro hc9
              have hc9 : ¬ ((1000 : Int) ≤ pw_g h3 24 1) := hc9
              refine pw_ld E (pc' := 59) (st' := [.ref 40]) rfl (fun _ => rfl) ?_
              refine pw_getR (b := 41) I3 E (c := 24) (k := 0) (pc' := 62) rfl rfl rfl rfl rfl rfl rfl ?_
              refine pw_ld E (pc' := 63) (st' := [.ref 40, .ref 41]) rfl (fun _ => rfl) ?_
              refine pw_getI I3 E (c := 24) (k := 1) (pc' := 66) rfl rfl rfl rfl rfl rfl (fun hf10a hf10b hf10c hf10d => ?_)
              refine pw_ld E (pc' := 68) (st' := [pw_i x3, pw_i (pw_g h3 24 1), .ref 41]) rfl (fun _ => rfl) ?_
              refine pw_i2c E (pc' := 69) rfl rfl (by omega) (by omega) ?_
              refine pw_ast0 I3 E (c := 25) (pc' := 70) rfl rfl rfl (by decide) rfl (by decide) (by omega) (by omega) (pw_c16 (by omega) (by omega)) (by omega) (by omega) (by omega) (by omega) rfl ?_
              intro h11I h11E
              generalize h11w : pw_w h3 25 ((pw_g h3 24 1).toNat) (pw_i x3) = h11 at h11I h11E ⊢
              have h11F := E3.tr (h11E.wk (W' := [24, 25]) (by first | rfl | simp))
              refine pw_ld E (pc' := 71) (st' := [.ref 40]) rfl (fun _ => rfl) ?_
              refine pw_ld E (pc' := 72) (st' := [.ref 40, .ref 40]) rfl (fun _ => rfl) ?_
              have he13 : pw_g h11 24 1 = pw_g h3 24 1 := by rw [← h11w]; exact pw_g_ne (by omega)
              refine pw_getI h11I E (c := 24) (k := 1) (pc' := 75) rfl rfl rfl rfl rfl rfl (fun hf12a hf12b hf12c hf12d => ?_)
              refine pw_ld E (pc' := 76) (st' := [pw_i 1, pw_i (pw_g h11 24 1), .ref 40]) rfl (fun _ => rfl) ?_
              refine pw_add E (pc' := 77) rfl rfl ?_
              refine pw_putI h11I E (c := 24) (k := 1) (pc' := 80) rfl rfl rfl rfl (by omega) (by omega) (by omega) (by omega) rfl rfl ?_
              intro h14I h14E
              generalize h14w : pw_w h11 24 1 (pw_i ((pw_g h11 24 1) + 1)) = h14 at h14I h14E ⊢
              have h14F := h11F.tr (h14E.wk (W' := [24, 25]) (by first | rfl | simp))
              refine pw_inc E (pc' := 83) (ls' := [some (.ref 40), some (.long e8), none, some (pw_i (k3_3 + (-8))), some (pw_i x3), some (pw_i 1)]) rfl rfl rfl rfl ?_
              refine pw_goto E (pc' := 3) rfl (by decide) ?_
              exact ih3 _ (by omega) (k3_3 + (-8)) (some (pw_i x3)) (some (pw_i 1)) h14 h14I h14F (by omega) (by omega)  rfl
        · intro hc15
          have hc15 : ¬ (x3 = (10 : Int)) := hc15
          refine pw_ld E (pc' := 26) (st' := [pw_i x3]) rfl (fun _ => rfl) ?_
          refine pw_bip E (pc' := 28) rfl rfl (by decide) ?_
          refine pw_bip E (pc' := 30) rfl rfl (by decide) ?_
          refine pw_call (m' := 121) (As := [pw_i x3, pw_i 32, pw_i 126]) (rest := []) (ls'' := [some (pw_i x3), some (pw_i 32), some (pw_i 126)]) (by omega) E rfl (fun _ => pw_iS rfl rfl rfl) (rfl : pm_ent 121 = some (3, 3, 11, 1, pmc_121)) rfl rfl (cm_121 (by omega) I3 (x3) (by omega) (by omega) (32) (by omega) (by omega) (126) (by omega) (by omega)) ?_
          rintro u17 v16 ⟨rfl, x18, rfl, hx18a, hx18b, hx18r⟩
          refine ⟨_, rfl, ?_⟩
          show pw X d h3 97 33 [some (.ref 40), some (.long e8), none, some (pw_i k3_3), some (pw_i x3), k3_5] [pw_i x18] _
          have hx18r : (x18 = 1 ∧ 32 ≤ x3 ∧ x3 ≤ 126) ∨ (x18 = 0 ∧ ¬ (32 ≤ x3 ∧ x3 ≤ 126)) := hx18r
          rcases (by omega : x18 = 1 ∨ x18 = 0) with hb19 | hb19
          · have hb19 : x18 = 1 := by omega
            refine pw_if E (pc' := 40) rfl (by decide) (by omega) (by omega) ?_ ?_
            · intro hc20
              have hc20 : x18 = (0 : Int) := hc20
              exfalso; omega
            · intro hc21
              have hc21 : ¬ (x18 = (0 : Int)) := hc21
              refine pw_ld E (pc' := 37) (st' := [pw_i 1]) rfl (fun _ => rfl) ?_
              refine pw_goto E (pc' := 41) rfl (by decide) ?_
              refine pw_ist E (pc' := 43) (ls' := [some (.ref 40), some (.long e8), none, some (pw_i k3_3), some (pw_i x3), some (pw_i 1)]) rfl rfl rfl rfl ?_
              refine pw_ld E (pc' := 45) (st' := [pw_i 1]) rfl (fun _ => rfl) ?_
              refine pw_if E (pc' := 80) rfl (by decide) (by decide) (by decide) ?_ ?_
              · intro hc22
                have hc22 : (1 : Int) = (0 : Int) := hc22
                exfalso; omega
              · intro hc23
                have hc23 : ¬ ((1 : Int) = (0 : Int)) := hc23
                refine pw_ld E (pc' := 49) (st' := [.ref 40]) rfl (fun _ => rfl) ?_
                refine pw_getI I3 E (c := 24) (k := 1) (pc' := 52) rfl rfl rfl rfl rfl rfl (fun hf24a hf24b hf24c hf24d => ?_)
                refine pw_sip E (pc' := 55) rfl rfl (by decide) ?_
                refine pw_if2 E (pc' := 80) rfl (by decide) (by omega) (by omega) (by decide) (by decide) ?_ ?_
                · intro hc25
                  have hc25 : (1000 : Int) ≤ pw_g h3 24 1 := hc25
                  refine pw_inc E (pc' := 83) (ls' := [some (.ref 40), some (.long e8), none, some (pw_i (k3_3 + (-8))), some (pw_i x3), some (pw_i 1)]) rfl rfl rfl rfl ?_
                  refine pw_goto E (pc' := 3) rfl (by decide) ?_
                  exact ih3 _ (by omega) (k3_3 + (-8)) (some (pw_i x3)) (some (pw_i 1)) h3 I3 E3 (by omega) (by omega)  rfl
                · intro hc26
                  have hc26 : ¬ ((1000 : Int) ≤ pw_g h3 24 1) := hc26
                  refine pw_ld E (pc' := 59) (st' := [.ref 40]) rfl (fun _ => rfl) ?_
                  refine pw_getR (b := 41) I3 E (c := 24) (k := 0) (pc' := 62) rfl rfl rfl rfl rfl rfl rfl ?_
                  refine pw_ld E (pc' := 63) (st' := [.ref 40, .ref 41]) rfl (fun _ => rfl) ?_
                  refine pw_getI I3 E (c := 24) (k := 1) (pc' := 66) rfl rfl rfl rfl rfl rfl (fun hf27a hf27b hf27c hf27d => ?_)
                  refine pw_ld E (pc' := 68) (st' := [pw_i x3, pw_i (pw_g h3 24 1), .ref 41]) rfl (fun _ => rfl) ?_
                  refine pw_i2c E (pc' := 69) rfl rfl (by omega) (by omega) ?_
                  refine pw_ast0 I3 E (c := 25) (pc' := 70) rfl rfl rfl (by decide) rfl (by decide) (by omega) (by omega) (pw_c16 (by omega) (by omega)) (by omega) (by omega) (by omega) (by omega) rfl ?_
                  intro h28I h28E
                  generalize h28w : pw_w h3 25 ((pw_g h3 24 1).toNat) (pw_i x3) = h28 at h28I h28E ⊢
                  have h28F := E3.tr (h28E.wk (W' := [24, 25]) (by first | rfl | simp))
                  refine pw_ld E (pc' := 71) (st' := [.ref 40]) rfl (fun _ => rfl) ?_
                  refine pw_ld E (pc' := 72) (st' := [.ref 40, .ref 40]) rfl (fun _ => rfl) ?_
                  have he30 : pw_g h28 24 1 = pw_g h3 24 1 := by rw [← h28w]; exact pw_g_ne (by omega)
                  refine pw_getI h28I E (c := 24) (k := 1) (pc' := 75) rfl rfl rfl rfl rfl rfl (fun hf29a hf29b hf29c hf29d => ?_)
                  refine pw_ld E (pc' := 76) (st' := [pw_i 1, pw_i (pw_g h28 24 1), .ref 40]) rfl (fun _ => rfl) ?_
                  refine pw_add E (pc' := 77) rfl rfl ?_
                  refine pw_putI h28I E (c := 24) (k := 1) (pc' := 80) rfl rfl rfl rfl (by omega) (by omega) (by omega) (by omega) rfl rfl ?_
                  intro h31I h31E
                  generalize h31w : pw_w h28 24 1 (pw_i ((pw_g h28 24 1) + 1)) = h31 at h31I h31E ⊢
                  have h31F := h28F.tr (h31E.wk (W' := [24, 25]) (by first | rfl | simp))
                  refine pw_inc E (pc' := 83) (ls' := [some (.ref 40), some (.long e8), none, some (pw_i (k3_3 + (-8))), some (pw_i x3), some (pw_i 1)]) rfl rfl rfl rfl ?_
                  refine pw_goto E (pc' := 3) rfl (by decide) ?_
                  exact ih3 _ (by omega) (k3_3 + (-8)) (some (pw_i x3)) (some (pw_i 1)) h31 h31I h31F (by omega) (by omega)  rfl
          · have hb32 : x18 = 0 := by omega
            refine pw_if E (pc' := 40) rfl (by decide) (by omega) (by omega) ?_ ?_
            · intro hc33
              have hc33 : x18 = (0 : Int) := hc33
              refine pw_ld E (pc' := 41) (st' := [pw_i 0]) rfl (fun _ => rfl) ?_
              refine pw_ist E (pc' := 43) (ls' := [some (.ref 40), some (.long e8), none, some (pw_i k3_3), some (pw_i x3), some (pw_i 0)]) rfl rfl rfl rfl ?_
              refine pw_ld E (pc' := 45) (st' := [pw_i 0]) rfl (fun _ => rfl) ?_
              refine pw_if E (pc' := 80) rfl (by decide) (by decide) (by decide) ?_ ?_
              · intro hc34
                have hc34 : (0 : Int) = (0 : Int) := hc34
                refine pw_inc E (pc' := 83) (ls' := [some (.ref 40), some (.long e8), none, some (pw_i (k3_3 + (-8))), some (pw_i x3), some (pw_i 0)]) rfl rfl rfl rfl ?_
                refine pw_goto E (pc' := 3) rfl (by decide) ?_
                exact ih3 _ (by omega) (k3_3 + (-8)) (some (pw_i x3)) (some (pw_i 0)) h3 I3 E3 (by omega) (by omega)  rfl
              · intro hc35
                have hc35 : ¬ ((0 : Int) = (0 : Int)) := hc35
                exfalso; omega
            · intro hc36
              have hc36 : ¬ (x18 = (0 : Int)) := hc36
              exfalso; omega
  exact L3 _ (56) (none) (none) h I E0 (by omega) (by omega)  rfl
set_option maxHeartbeats 4000000 in
theorem cm_98 {X : List (Nat × List Value)} {d : Nat} {h : pm_H} (hd : 1 ≤ d) (I : pw_I h)  : pw X d h 98 0 [some (.ref 40)] [] (fun h' v => h = h' ∧ ∃ a : Int, v = .inl (some (pw_i a)) ∧ 0 ≤ a ∧ a ≤ 1000) := by
  have E : pm_ent 98 = some (1, 1, 9, 0, pmc_98) := rfl
  refine pw_ld E (pc' := 1) (st' := [.ref 40]) rfl (fun _ => rfl) ?_
  refine pw_getI I E (c := 24) (k := 1) (pc' := 4) rfl rfl rfl rfl rfl rfl (fun hf1a hf1b hf1c hf1d => ?_)
  refine pw_iret E rfl ?_
  exact ⟨rfl, ⟨_, rfl, by omega, by omega⟩⟩
set_option maxHeartbeats 4000000 in
theorem cm_99 {X : List (Nat × List Value)} {d : Nat} {h : pm_H} (hd : 1 ≤ d) (I : pw_I h)  : pw X d h 99 0 [some (.ref 40)] [] (fun h' v => pw_I h' ∧ pw_E [24] h h' ∧ v = .inl none) := by
  have E : pm_ent 99 = some (1, 1, 9, 4, pmc_99) := rfl
  have E0 : pw_E [24] h h := pw_E.rf _ _
  refine pw_ld E (pc' := 1) (st' := [.ref 40]) rfl (fun _ => rfl) ?_
  refine pw_ld E (pc' := 2) (st' := [pw_i 0, .ref 40]) rfl (fun _ => rfl) ?_
  refine pw_putI I E (c := 24) (k := 1) (pc' := 5) rfl rfl rfl rfl (by omega) (by omega) (by omega) (by omega) rfl rfl ?_
  intro h1I h1E
  generalize h1w : pw_w h 24 1 (pw_i 0) = h1 at h1I h1E ⊢
  have h1F := E0.tr (h1E.wk (W' := [24]) (by first | rfl | simp))
  refine pw_vret E rfl ?_
  exact ⟨h1I, h1F, rfl⟩
set_option maxHeartbeats 4000000 in
theorem cm_100 {X : List (Nat × List Value)} {d : Nat} {h : pm_H} (hd : 1 ≤ d) (I : pw_I h)  : pw X d h 100 0 [some (.ref 40)] [] (fun h' v => pw_I h' ∧ pw_E [24] h h' ∧ v = .inl none) := by
  have E : pm_ent 100 = some (1, 1, 9, 4, pmc_100) := rfl
  have E0 : pw_E [24] h h := pw_E.rf _ _
  refine pw_ld E (pc' := 1) (st' := [.ref 40]) rfl (fun _ => rfl) ?_
  refine pw_ld E (pc' := 2) (st' := [pw_i 0, .ref 40]) rfl (fun _ => rfl) ?_
  refine pw_putI I E (c := 24) (k := 3) (pc' := 5) rfl rfl rfl rfl (by omega) (by omega) (by omega) (by omega) rfl rfl ?_
  intro h1I h1E
  generalize h1w : pw_w h 24 3 (pw_i 0) = h1 at h1I h1E ⊢
  have h1F := E0.tr (h1E.wk (W' := [24]) (by first | rfl | simp))
  refine pw_vret E rfl ?_
  exact ⟨h1I, h1F, rfl⟩
set_option maxHeartbeats 4000000 in
theorem cm_107 {X : List (Nat × List Value)} {d : Nat} {h : pm_H} (hd : 1 ≤ d) (I : pw_I h)  : pw X d h 107 0 [some (.ref 40)] [] (fun h' v => h = h' ∧ ∃ a : Int, v = .inl (some (pw_i a)) ∧ 0 ≤ a ∧ a ≤ 4) := by
  have E : pm_ent 107 = some (1, 1, 9, 0, pmc_107) := rfl
  refine pw_ld E (pc' := 1) (st' := [.ref 40]) rfl (fun _ => rfl) ?_
  refine pw_getI I E (c := 24) (k := 4) (pc' := 4) rfl rfl rfl rfl rfl rfl (fun hf1a hf1b hf1c hf1d => ?_)
  refine pw_iret E rfl ?_
  exact ⟨rfl, ⟨_, rfl, by omega, by omega⟩⟩
set_option maxHeartbeats 4000000 in
theorem cm_110 {X : List (Nat × List Value)} {d : Nat} {h : pm_H} (hd : 1 ≤ d) (I : pw_I h)  : pw X d h 110 0 [some (.ref 40)] [] (fun h' v => h = h' ∧ ∃ a : Int, v = .inl (some (pw_i a)) ∧ (-2147483648) ≤ a ∧ a ≤ 2147483647) := by
  have E : pm_ent 110 = some (1, 1, 9, 0, pmc_110) := rfl
  refine pw_ld E (pc' := 1) (st' := [.ref 40]) rfl (fun _ => rfl) ?_
  refine pw_getI I E (c := 24) (k := 5) (pc' := 4) rfl rfl rfl rfl rfl rfl (fun hf1a hf1b hf1c hf1d => ?_)
  refine pw_iret E rfl ?_
  exact ⟨rfl, ⟨_, rfl, by omega, by omega⟩⟩
set_option maxHeartbeats 4000000 in
theorem cm_111 {X : List (Nat × List Value)} {d : Nat} {h : pm_H} (hd : 1 ≤ d) (I : pw_I h)  : pw X d h 111 0 [some (.ref 40)] [] (fun h' v => h = h' ∧ ∃ a : Int, v = .inl (some (pw_i a)) ∧ 0 ≤ a ∧ a ≤ 1000) := by
  have E : pm_ent 111 = some (1, 1, 9, 0, pmc_111) := rfl
  refine pw_ld E (pc' := 1) (st' := [.ref 40]) rfl (fun _ => rfl) ?_
  refine pw_getI I E (c := 24) (k := 2) (pc' := 4) rfl rfl rfl rfl rfl rfl (fun hf1a hf1b hf1c hf1d => ?_)
  refine pw_iret E rfl ?_
  exact ⟨rfl, ⟨_, rfl, by omega, by omega⟩⟩
set_option maxHeartbeats 4000000 in
theorem cm_102 {X : List (Nat × List Value)} {d : Nat} {h : pm_H} (hd : 1 ≤ d) (I : pw_I h) (ch : Int) (hch1 : 0 ≤ ch) (hch2 : ch ≤ 65535) : pw X d h 102 0 [some (pw_i ch)] [] (fun h' v => h = h' ∧ ∃ a : Int, v = .inl (some (pw_i a)) ∧ 0 ≤ a ∧ a ≤ 1) := by
  have E : pm_ent 102 = some (1, 1, 9, 1, pmc_102) := rfl
  refine pw_ld E (pc' := 1) (st' := [pw_i ch]) rfl (fun _ => rfl) ?_
  refine pw_bip E (pc' := 3) rfl rfl (by decide) ?_
  refine pw_if2 E (pc' := 12) rfl (by decide) (by omega) (by omega) (by decide) (by decide) ?_ ?_
  · intro hc1
    have hc1 : ch = (32 : Int) := hc1
    refine pw_ld E (pc' := 13) (st' := [pw_i 1]) rfl (fun _ => rfl) ?_
    refine pw_goto E (pc' := 17) rfl (by decide) ?_
    refine pw_zret E rfl (by omega) ?_
    exact ⟨rfl, ⟨_, rfl, by omega, by omega⟩⟩
  · intro hc2
    have hc2 : ¬ (ch = (32 : Int)) := hc2
    refine pw_ld E (pc' := 7) (st' := [pw_i ch]) rfl (fun _ => rfl) ?_
    refine pw_bip E (pc' := 9) rfl rfl (by decide) ?_
    refine pw_if2 E (pc' := 16) rfl (by decide) (by omega) (by omega) (by decide) (by decide) ?_ ?_
    · intro hc3
      have hc3 : ch ≠ (10 : Int) := hc3
      refine pw_ld E (pc' := 17) (st' := [pw_i 0]) rfl (fun _ => rfl) ?_
      refine pw_zret E rfl (by omega) ?_
      exact ⟨rfl, ⟨_, rfl, by omega, by omega⟩⟩
    · intro hc4
      have hc4 : ¬ (ch ≠ (10 : Int)) := hc4
      refine pw_ld E (pc' := 13) (st' := [pw_i 1]) rfl (fun _ => rfl) ?_
      refine pw_goto E (pc' := 17) rfl (by decide) ?_
      refine pw_zret E rfl (by omega) ?_
      exact ⟨rfl, ⟨_, rfl, by omega, by omega⟩⟩
set_option maxHeartbeats 4000000 in
theorem cm_103 {X : List (Nat × List Value)} {d : Nat} {h : pm_H} (hd : 1 ≤ d) (I : pw_I h) (ch : Int) (hch1 : 0 ≤ ch) (hch2 : ch ≤ 65535) : pw X d h 103 0 [some (pw_i ch)] [] (fun h' v => h = h' ∧ ∃ a : Int, v = .inl (some (pw_i a)) ∧ 0 ≤ a ∧ a ≤ 1) := by
  have E : pm_ent 103 = some (1, 1, 9, 1, pmc_103) := rfl
  refine pw_ld E (pc' := 1) (st' := [pw_i ch]) rfl (fun _ => rfl) ?_
  refine pw_bip E (pc' := 3) rfl rfl (by decide) ?_
  refine pw_if2 E (pc' := 16) rfl (by decide) (by omega) (by omega) (by decide) (by decide) ?_ ?_
  · intro hc1
    have hc1 : ch < (97 : Int) := hc1
    refine pw_ld E (pc' := 17) (st' := [pw_i 0]) rfl (fun _ => rfl) ?_
    refine pw_zret E rfl (by omega) ?_
    exact ⟨rfl, ⟨_, rfl, by omega, by omega⟩⟩
  · intro hc2
    have hc2 : ¬ (ch < (97 : Int)) := hc2
    refine pw_ld E (pc' := 7) (st' := [pw_i ch]) rfl (fun _ => rfl) ?_
    refine pw_bip E (pc' := 9) rfl rfl (by decide) ?_
    refine pw_if2 E (pc' := 16) rfl (by decide) (by omega) (by omega) (by decide) (by decide) ?_ ?_
    · intro hc3
      have hc3 : (122 : Int) < ch := hc3
      refine pw_ld E (pc' := 17) (st' := [pw_i 0]) rfl (fun _ => rfl) ?_
      refine pw_zret E rfl (by omega) ?_
      exact ⟨rfl, ⟨_, rfl, by omega, by omega⟩⟩
    · intro hc4
      have hc4 : ¬ ((122 : Int) < ch) := hc4
      refine pw_ld E (pc' := 13) (st' := [pw_i 1]) rfl (fun _ => rfl) ?_
      refine pw_goto E (pc' := 17) rfl (by decide) ?_
      refine pw_zret E rfl (by omega) ?_
      exact ⟨rfl, ⟨_, rfl, by omega, by omega⟩⟩
set_option maxHeartbeats 4000000 in
theorem cm_105 {X : List (Nat × List Value)} {d : Nat} {h : pm_H} (hd : 1 ≤ d) (I : pw_I h) (ch : Int) (hch1 : 0 ≤ ch) (hch2 : ch ≤ 65535) : pw X d h 105 0 [some (pw_i ch)] [] (fun h' v => h = h' ∧ ∃ a : Int, v = .inl (some (pw_i a)) ∧ 0 ≤ a ∧ a ≤ 1) := by
  have E : pm_ent 105 = some (1, 1, 9, 1, pmc_105) := rfl
  refine pw_ld E (pc' := 1) (st' := [pw_i ch]) rfl (fun _ => rfl) ?_
  refine pw_bip E (pc' := 3) rfl rfl (by decide) ?_
  refine pw_if2 E (pc' := 16) rfl (by decide) (by omega) (by omega) (by decide) (by decide) ?_ ?_
  · intro hc1
    have hc1 : ch < (48 : Int) := hc1
    refine pw_ld E (pc' := 17) (st' := [pw_i 0]) rfl (fun _ => rfl) ?_
    refine pw_zret E rfl (by omega) ?_
    exact ⟨rfl, ⟨_, rfl, by omega, by omega⟩⟩
  · intro hc2
    have hc2 : ¬ (ch < (48 : Int)) := hc2
    refine pw_ld E (pc' := 7) (st' := [pw_i ch]) rfl (fun _ => rfl) ?_
    refine pw_bip E (pc' := 9) rfl rfl (by decide) ?_
    refine pw_if2 E (pc' := 16) rfl (by decide) (by omega) (by omega) (by decide) (by decide) ?_ ?_
    · intro hc3
      have hc3 : (57 : Int) < ch := hc3
      refine pw_ld E (pc' := 17) (st' := [pw_i 0]) rfl (fun _ => rfl) ?_
      refine pw_zret E rfl (by omega) ?_
      exact ⟨rfl, ⟨_, rfl, by omega, by omega⟩⟩
    · intro hc4
      have hc4 : ¬ ((57 : Int) < ch) := hc4
      refine pw_ld E (pc' := 13) (st' := [pw_i 1]) rfl (fun _ => rfl) ?_
      refine pw_goto E (pc' := 17) rfl (by decide) ?_
      refine pw_zret E rfl (by omega) ?_
      exact ⟨rfl, ⟨_, rfl, by omega, by omega⟩⟩
set_option maxHeartbeats 4000000 in
theorem cm_109 {X : List (Nat × List Value)} {d : Nat} {h : pm_H} (hd : 1 ≤ d) (I : pw_I h) (ch : Int) (hch1 : 0 ≤ ch) (hch2 : ch ≤ 65535) : pw X d h 109 0 [some (.ref 40), some (pw_i ch)] [] (fun h' v => h = h' ∧ ∃ a : Int, v = .inl (some (pw_i a)) ∧ 0 ≤ a ∧ a ≤ 1) := by
  have E : pm_ent 109 = some (2, 2, 9, 1, pmc_109) := rfl
  refine pw_ld E (pc' := 1) (st' := [.ref 40]) rfl (fun _ => rfl) ?_
  refine pw_getI I E (c := 24) (k := 4) (pc' := 4) rfl rfl rfl rfl rfl rfl (fun hf1a hf1b hf1c hf1d => ?_)
  refine pw_ld E (pc' := 5) (st' := [pw_i 3, pw_i (pw_g h 24 4)]) rfl (fun _ => rfl) ?_
  refine pw_if2 E (pc' := 20) rfl (by decide) (by omega) (by omega) (by decide) (by decide) ?_ ?_
  · intro hc2
    have hc2 : pw_g h 24 4 ≠ (3 : Int) := hc2
    refine pw_ld E (pc' := 21) (st' := [pw_i 0]) rfl (fun _ => rfl) ?_
    refine pw_zret E rfl (by omega) ?_
    exact ⟨rfl, ⟨_, rfl, by omega, by omega⟩⟩
  · intro hc3
    have hc3 : ¬ (pw_g h 24 4 ≠ (3 : Int)) := hc3
    refine pw_ld E (pc' := 9) (st' := [.ref 40]) rfl (fun _ => rfl) ?_
    refine pw_getI I E (c := 24) (k := 5) (pc' := 12) rfl rfl rfl rfl rfl rfl (fun hf4a hf4b hf4c hf4d => ?_)
    refine pw_ld E (pc' := 13) (st' := [pw_i ch, pw_i (pw_g h 24 5)]) rfl (fun _ => rfl) ?_
    refine pw_if2 E (pc' := 20) rfl (by decide) (by omega) (by omega) (by omega) (by omega) ?_ ?_
    · intro hc5
      have hc5 : pw_g h 24 5 ≠ ch := hc5
      refine pw_ld E (pc' := 21) (st' := [pw_i 0]) rfl (fun _ => rfl) ?_
      refine pw_zret E rfl (by omega) ?_
      exact ⟨rfl, ⟨_, rfl, by omega, by omega⟩⟩
    · intro hc6
      have hc6 : ¬ (pw_g h 24 5 ≠ ch) := hc6
      refine pw_ld E (pc' := 17) (st' := [pw_i 1]) rfl (fun _ => rfl) ?_
      refine pw_goto E (pc' := 21) rfl (by decide) ?_
      refine pw_zret E rfl (by omega) ?_
      exact ⟨rfl, ⟨_, rfl, by omega, by omega⟩⟩
set_option maxHeartbeats 4000000 in
theorem cm_104 {X : List (Nat × List Value)} {d : Nat} {h : pm_H} (hd : 2 ≤ d) (I : pw_I h)  : pw X d h 104 0 [some (.ref 40)] [] (fun h' v => pw_I h' ∧ pw_E [24] h h' ∧ v = .inl none) := by
  have E : pm_ent 104 = some (1, 1, 9, 4, pmc_104) := rfl
  have E0 : pw_E [24] h h := pw_E.rf _ _
  have L0 : ∀ (n0 : Nat)  (h0 : pm_H), pw_I h0 → pw_E [24] h h0 → (1000 - pw_g h0 24 3).toNat = n0 → pw X d h0 104 0 [some (.ref 40)] [] (fun h' v => pw_I h' ∧ pw_E [24] h h' ∧ v = .inl none) := by
    intro n0
    induction n0 using Nat.strongRecOn with
    | ind n0 ih0 =>
      intro  h0 I0 E0 hm0
      refine pw_ld E (pc' := 1) (st' := [.ref 40]) rfl (fun _ => rfl) ?_
      refine pw_getI I0 E (c := 24) (k := 3) (pc' := 4) rfl rfl rfl rfl rfl rfl (fun hf1a hf1b hf1c hf1d => ?_)
      refine pw_ld E (pc' := 5) (st' := [.ref 40, pw_i (pw_g h0 24 3)]) rfl (fun _ => rfl) ?_
      refine pw_getI I0 E (c := 24) (k := 1) (pc' := 8) rfl rfl rfl rfl rfl rfl (fun hf2a hf2b hf2c hf2d => ?_)
      refine pw_if2 E (pc' := 39) rfl (by decide) (by omega) (by omega) (by omega) (by omega) ?_ ?_
      · intro hc3
        have hc3 : pw_g h0 24 1 ≤ pw_g h0 24 3 := hc3
        refine pw_ld E (pc' := 40) (st' := [.ref 40]) rfl (fun _ => rfl) ?_
        refine pw_ld E (pc' := 41) (st' := [.ref 40, .ref 40]) rfl (fun _ => rfl) ?_
        refine pw_getI I0 E (c := 24) (k := 3) (pc' := 44) rfl rfl rfl rfl rfl rfl (fun hf4a hf4b hf4c hf4d => ?_)
        refine pw_ld E (pc' := 45) (st' := [.ref 40, pw_i (pw_g h0 24 3), .ref 40]) rfl (fun _ => rfl) ?_
        refine pw_getI I0 E (c := 24) (k := 2) (pc' := 48) rfl rfl rfl rfl rfl rfl (fun hf5a hf5b hf5c hf5d => ?_)
        refine pw_sub E (pc' := 49) rfl rfl ?_
        refine pw_bip E (pc' := 51) rfl rfl (by decide) ?_
        refine pw_if2 E (pc' := 58) rfl (by decide) (by omega) (by omega) (by decide) (by decide) ?_ ?_
        · intro hc6
          have hc6 : (8 : Int) < (pw_g h0 24 3) - (pw_g h0 24 2) := hc6
          refine pw_ld E (pc' := 59) (st' := [pw_i 0, .ref 40]) rfl (fun _ => rfl) ?_
          refine pw_putI I0 E (c := 24) (k := 4) (pc' := 62) rfl rfl rfl rfl (by omega) (by omega) (by omega) (by omega) rfl rfl ?_
          intro h7I h7E
          generalize h7w : pw_w h0 24 4 (pw_i 0) = h7 at h7I h7E ⊢
          have h7F := E0.tr (h7E.wk (W' := [24]) (by first | rfl | simp))
          refine pw_vret E rfl ?_
          exact ⟨h7I, h7F, rfl⟩
        · intro hc8
          have hc8 : ¬ ((8 : Int) < (pw_g h0 24 3) - (pw_g h0 24 2)) := hc8
          refine pw_ld E (pc' := 55) (st' := [pw_i 1, .ref 40]) rfl (fun _ => rfl) ?_
          refine pw_goto E (pc' := 59) rfl (by decide) ?_
          refine pw_putI I0 E (c := 24) (k := 4) (pc' := 62) rfl rfl rfl rfl (by omega) (by omega) (by omega) (by omega) rfl rfl ?_
          intro h9I h9E
          generalize h9w : pw_w h0 24 4 (pw_i 1) = h9 at h9I h9E ⊢
          have h9F := E0.tr (h9E.wk (W' := [24]) (by first | rfl | simp))
          refine pw_vret E rfl ?_
          exact ⟨h9I, h9F, rfl⟩
      · intro hc10
        have hc10 : ¬ (pw_g h0 24 1 ≤ pw_g h0 24 3) := hc10
        refine pw_ld E (pc' := 12) (st' := [.ref 40]) rfl (fun _ => rfl) ?_
        refine pw_getR (b := 41) I0 E (c := 24) (k := 0) (pc' := 15) rfl rfl rfl rfl rfl rfl rfl ?_
        refine pw_ld E (pc' := 16) (st' := [.ref 40, .ref 41]) rfl (fun _ => rfl) ?_
        refine pw_getI I0 E (c := 24) (k := 3) (pc' := 19) rfl rfl rfl rfl rfl rfl (fun hf11a hf11b hf11c hf11d => ?_)
        refine pw_ald I0 E (c := 25) (pc' := 20) rfl rfl rfl (by decide) rfl (by decide) (by omega) (by omega) rfl (fun hf12a hf12b hf12c hf12d => ?_)
        refine pw_call (m' := 103) (As := [pw_i (pw_g h0 25 ((pw_g h0 24 3).toNat))]) (rest := []) (ls'' := [some (pw_i (pw_g h0 25 ((pw_g h0 24 3).toNat)))]) (by omega) E rfl (fun _ => pw_iS rfl rfl rfl) (rfl : pm_ent 103 = some (1, 1, 9, 1, pmc_103)) rfl rfl (cm_103 (by omega) I0 (pw_g h0 25 ((pw_g h0 24 3).toNat)) (by omega) (by omega)) ?_
        rintro u14 v13 ⟨rfl, x15, rfl, hx15a, hx15b⟩
        refine ⟨_, rfl, ?_⟩
        show pw X d h0 104 23 [some (.ref 40)] [pw_i x15] _
        refine pw_if E (pc' := 39) rfl (by decide) (by omega) (by omega) ?_ ?_
        · intro hc16
          have hc16 : x15 = (0 : Int) := hc16
          refine pw_ld E (pc' := 40) (st' := [.ref 40]) rfl (fun _ => rfl) ?_
          refine pw_ld E (pc' := 41) (st' := [.ref 40, .ref 40]) rfl (fun _ => rfl) ?_
          refine pw_getI I0 E (c := 24) (k := 3) (pc' := 44) rfl rfl rfl rfl rfl rfl (fun hf17a hf17b hf17c hf17d => ?_)
          refine pw_ld E (pc' := 45) (st' := [.ref 40, pw_i (pw_g h0 24 3), .ref 40]) rfl (fun _ => rfl) ?_
          refine pw_getI I0 E (c := 24) (k := 2) (pc' := 48) rfl rfl rfl rfl rfl rfl (fun hf18a hf18b hf18c hf18d => ?_)
          refine pw_sub E (pc' := 49) rfl rfl ?_
          refine pw_bip E (pc' := 51) rfl rfl (by decide) ?_
          refine pw_if2 E (pc' := 58) rfl (by decide) (by omega) (by omega) (by decide) (by decide) ?_ ?_
          · intro hc19
            have hc19 : (8 : Int) < (pw_g h0 24 3) - (pw_g h0 24 2) := hc19
            refine pw_ld E (pc' := 59) (st' := [pw_i 0, .ref 40]) rfl (fun _ => rfl) ?_
            refine pw_putI I0 E (c := 24) (k := 4) (pc' := 62) rfl rfl rfl rfl (by omega) (by omega) (by omega) (by omega) rfl rfl ?_
            intro h20I h20E
            generalize h20w : pw_w h0 24 4 (pw_i 0) = h20 at h20I h20E ⊢
            have h20F := E0.tr (h20E.wk (W' := [24]) (by first | rfl | simp))
            refine pw_vret E rfl ?_
            exact ⟨h20I, h20F, rfl⟩
          · intro hc21
            have hc21 : ¬ ((8 : Int) < (pw_g h0 24 3) - (pw_g h0 24 2)) := hc21
            refine pw_ld E (pc' := 55) (st' := [pw_i 1, .ref 40]) rfl (fun _ => rfl) ?_
            refine pw_goto E (pc' := 59) rfl (by decide) ?_
            refine pw_putI I0 E (c := 24) (k := 4) (pc' := 62) rfl rfl rfl rfl (by omega) (by omega) (by omega) (by omega) rfl rfl ?_
            intro h22I h22E
            generalize h22w : pw_w h0 24 4 (pw_i 1) = h22 at h22I h22E ⊢
            have h22F := E0.tr (h22E.wk (W' := [24]) (by first | rfl | simp))
            refine pw_vret E rfl ?_
            exact ⟨h22I, h22F, rfl⟩
        · intro hc23
          have hc23 : ¬ (x15 = (0 : Int)) := hc23
          refine pw_ld E (pc' := 27) (st' := [.ref 40]) rfl (fun _ => rfl) ?_
          refine pw_ld E (pc' := 28) (st' := [.ref 40, .ref 40]) rfl (fun _ => rfl) ?_
          refine pw_getI I0 E (c := 24) (k := 3) (pc' := 31) rfl rfl rfl rfl rfl rfl (fun hf24a hf24b hf24c hf24d => ?_)
          refine pw_ld E (pc' := 32) (st' := [pw_i 1, pw_i (pw_g h0 24 3), .ref 40]) rfl (fun _ => rfl) ?_
          refine pw_add E (pc' := 33) rfl rfl ?_
          refine pw_putI I0 E (c := 24) (k := 3) (pc' := 36) rfl rfl rfl rfl (by omega) (by omega) (by omega) (by omega) rfl rfl ?_
          intro h25I h25E
          generalize h25w : pw_w h0 24 3 (pw_i ((pw_g h0 24 3) + 1)) = h25 at h25I h25E ⊢
          have h25F := E0.tr (h25E.wk (W' := [24]) (by first | rfl | simp))
          refine pw_goto E (pc' := 0) rfl (by decide) ?_
          have he26 : pw_g h25 24 3 = (pw_g h0 24 3) + 1 := by rw [← h25w]; exact pw_g_eq (c := 24) (k := 3) I0 rfl rfl (by omega) (by omega)
          exact ih0 _ (by omega)  h25 h25I h25F   rfl
  exact L0 _  h I E0   rfl
set_option maxHeartbeats 4000000 in
theorem cm_106 {X : List (Nat × List Value)} {d : Nat} {h : pm_H} (hd : 2 ≤ d) (I : pw_I h)  : pw X d h 106 0 [some (.ref 40)] [] (fun h' v => pw_I h' ∧ pw_E [24] h h' ∧ v = .inl none) := by
  have E : pm_ent 106 = some (1, 1, 9, 4, pmc_106) := rfl
  have E0 : pw_E [24] h h := pw_E.rf _ _
  refine pw_ld E (pc' := 1) (st' := [.ref 40]) rfl (fun _ => rfl) ?_
  refine pw_ld E (pc' := 2) (st' := [pw_i 0, .ref 40]) rfl (fun _ => rfl) ?_
  refine pw_putI I E (c := 24) (k := 5) (pc' := 5) rfl rfl rfl rfl (by omega) (by omega) (by omega) (by omega) rfl rfl ?_
  intro h1I h1E
  generalize h1w : pw_w h 24 5 (pw_i 0) = h1 at h1I h1E ⊢
  have h1F := E0.tr (h1E.wk (W' := [24]) (by first | rfl | simp))
  have L5 : ∀ (n5 : Nat)  (h5 : pm_H), pw_I h5 → pw_E [24] h h5 → (1000 - pw_g h5 24 3).toNat = n5 → pw X d h5 106 5 [some (.ref 40)] [] (fun h' v => pw_I h' ∧ pw_E [24] h h' ∧ v = .inl none) := by
    intro n5
    induction n5 using Nat.strongRecOn with
    | ind n5 ih5 =>
      intro  h5 I5 E5 hm5
      refine pw_ld E (pc' := 6) (st' := [.ref 40]) rfl (fun _ => rfl) ?_
      refine pw_getI I5 E (c := 24) (k := 3) (pc' := 9) rfl rfl rfl rfl rfl rfl (fun hf2a hf2b hf2c hf2d => ?_)
      refine pw_ld E (pc' := 10) (st' := [.ref 40, pw_i (pw_g h5 24 3)]) rfl (fun _ => rfl) ?_
      refine pw_getI I5 E (c := 24) (k := 1) (pc' := 13) rfl rfl rfl rfl rfl rfl (fun hf3a hf3b hf3c hf3d => ?_)
      refine pw_if2 E (pc' := 68) rfl (by decide) (by omega) (by omega) (by omega) (by omega) ?_ ?_
      · intro hc4
        have hc4 : pw_g h5 24 1 ≤ pw_g h5 24 3 := hc4
        refine pw_ld E (pc' := 69) (st' := [.ref 40]) rfl (fun _ => rfl) ?_
        refine pw_ld E (pc' := 70) (st' := [.ref 40, .ref 40]) rfl (fun _ => rfl) ?_
        refine pw_getI I5 E (c := 24) (k := 3) (pc' := 73) rfl rfl rfl rfl rfl rfl (fun hf5a hf5b hf5c hf5d => ?_)
        refine pw_ld E (pc' := 74) (st' := [.ref 40, pw_i (pw_g h5 24 3), .ref 40]) rfl (fun _ => rfl) ?_
        refine pw_getI I5 E (c := 24) (k := 2) (pc' := 77) rfl rfl rfl rfl rfl rfl (fun hf6a hf6b hf6c hf6d => ?_)
        refine pw_sub E (pc' := 78) rfl rfl ?_
        refine pw_ld E (pc' := 79) (st' := [pw_i 4, pw_i ((pw_g h5 24 3) - (pw_g h5 24 2)), .ref 40]) rfl (fun _ => rfl) ?_
        refine pw_if2 E (pc' := 86) rfl (by decide) (by omega) (by omega) (by decide) (by decide) ?_ ?_
        · intro hc7
          have hc7 : (4 : Int) < (pw_g h5 24 3) - (pw_g h5 24 2) := hc7
          refine pw_ld E (pc' := 87) (st' := [pw_i 0, .ref 40]) rfl (fun _ => rfl) ?_
          refine pw_putI I5 E (c := 24) (k := 4) (pc' := 90) rfl rfl rfl rfl (by omega) (by omega) (by omega) (by omega) rfl rfl ?_
          intro h8I h8E
          generalize h8w : pw_w h5 24 4 (pw_i 0) = h8 at h8I h8E ⊢
          have h8F := E5.tr (h8E.wk (W' := [24]) (by first | rfl | simp))
          refine pw_vret E rfl ?_
          exact ⟨h8I, h8F, rfl⟩
        · intro hc9
          have hc9 : ¬ ((4 : Int) < (pw_g h5 24 3) - (pw_g h5 24 2)) := hc9
          refine pw_ld E (pc' := 83) (st' := [pw_i 2, .ref 40]) rfl (fun _ => rfl) ?_
          refine pw_goto E (pc' := 87) rfl (by decide) ?_
          refine pw_putI I5 E (c := 24) (k := 4) (pc' := 90) rfl rfl rfl rfl (by omega) (by omega) (by omega) (by omega) rfl rfl ?_
          intro h10I h10E
          generalize h10w : pw_w h5 24 4 (pw_i 2) = h10 at h10I h10E ⊢
          have h10F := E5.tr (h10E.wk (W' := [24]) (by first | rfl | simp))
          refine pw_vret E rfl ?_
          exact ⟨h10I, h10F, rfl⟩
      · intro hc11
        have hc11 : ¬ (pw_g h5 24 1 ≤ pw_g h5 24 3) := hc11
        refine pw_ld E (pc' := 17) (st' := [.ref 40]) rfl (fun _ => rfl) ?_
        refine pw_getR (b := 41) I5 E (c := 24) (k := 0) (pc' := 20) rfl rfl rfl rfl rfl rfl rfl ?_
        refine pw_ld E (pc' := 21) (st' := [.ref 40, .ref 41]) rfl (fun _ => rfl) ?_
        refine pw_getI I5 E (c := 24) (k := 3) (pc' := 24) rfl rfl rfl rfl rfl rfl (fun hf12a hf12b hf12c hf12d => ?_)
        refine pw_ald I5 E (c := 25) (pc' := 25) rfl rfl rfl (by decide) rfl (by decide) (by omega) (by omega) rfl (fun hf13a hf13b hf13c hf13d => ?_)
        refine pw_call (m' := 105) (As := [pw_i (pw_g h5 25 ((pw_g h5 24 3).toNat))]) (rest := []) (ls'' := [some (pw_i (pw_g h5 25 ((pw_g h5 24 3).toNat)))]) (by omega) E rfl (fun _ => pw_iS rfl rfl rfl) (rfl : pm_ent 105 = some (1, 1, 9, 1, pmc_105)) rfl rfl (cm_105 (by omega) I5 (pw_g h5 25 ((pw_g h5 24 3).toNat)) (by omega) (by omega)) ?_
        rintro u15 v14 ⟨rfl, x16, rfl, hx16a, hx16b⟩
        refine ⟨_, rfl, ?_⟩
        show pw X d h5 106 28 [some (.ref 40)] [pw_i x16] _
        refine pw_if E (pc' := 68) rfl (by decide) (by omega) (by omega) ?_ ?_
        · intro hc17
          have hc17 : x16 = (0 : Int) := hc17
          refine pw_ld E (pc' := 69) (st' := [.ref 40]) rfl (fun _ => rfl) ?_
          refine pw_ld E (pc' := 70) (st' := [.ref 40, .ref 40]) rfl (fun _ => rfl) ?_
          refine pw_getI I5 E (c := 24) (k := 3) (pc' := 73) rfl rfl rfl rfl rfl rfl (fun hf18a hf18b hf18c hf18d => ?_)
          refine pw_ld E (pc' := 74) (st' := [.ref 40, pw_i (pw_g h5 24 3), .ref 40]) rfl (fun _ => rfl) ?_
          refine pw_getI I5 E (c := 24) (k := 2) (pc' := 77) rfl rfl rfl rfl rfl rfl (fun hf19a hf19b hf19c hf19d => ?_)
          refine pw_sub E (pc' := 78) rfl rfl ?_
          refine pw_ld E (pc' := 79) (st' := [pw_i 4, pw_i ((pw_g h5 24 3) - (pw_g h5 24 2)), .ref 40]) rfl (fun _ => rfl) ?_
          refine pw_if2 E (pc' := 86) rfl (by decide) (by omega) (by omega) (by decide) (by decide) ?_ ?_
          · intro hc20
            have hc20 : (4 : Int) < (pw_g h5 24 3) - (pw_g h5 24 2) := hc20
            refine pw_ld E (pc' := 87) (st' := [pw_i 0, .ref 40]) rfl (fun _ => rfl) ?_
            refine pw_putI I5 E (c := 24) (k := 4) (pc' := 90) rfl rfl rfl rfl (by omega) (by omega) (by omega) (by omega) rfl rfl ?_
            intro h21I h21E
            generalize h21w : pw_w h5 24 4 (pw_i 0) = h21 at h21I h21E ⊢
            have h21F := E5.tr (h21E.wk (W' := [24]) (by first | rfl | simp))
            refine pw_vret E rfl ?_
            exact ⟨h21I, h21F, rfl⟩
          · intro hc22
            have hc22 : ¬ ((4 : Int) < (pw_g h5 24 3) - (pw_g h5 24 2)) := hc22
            refine pw_ld E (pc' := 83) (st' := [pw_i 2, .ref 40]) rfl (fun _ => rfl) ?_
            refine pw_goto E (pc' := 87) rfl (by decide) ?_
            refine pw_putI I5 E (c := 24) (k := 4) (pc' := 90) rfl rfl rfl rfl (by omega) (by omega) (by omega) (by omega) rfl rfl ?_
            intro h23I h23E
            generalize h23w : pw_w h5 24 4 (pw_i 2) = h23 at h23I h23E ⊢
            have h23F := E5.tr (h23E.wk (W' := [24]) (by first | rfl | simp))
            refine pw_vret E rfl ?_
            exact ⟨h23I, h23F, rfl⟩
        · intro hc24
          have hc24 : ¬ (x16 = (0 : Int)) := hc24
          refine pw_ld E (pc' := 32) (st' := [.ref 40]) rfl (fun _ => rfl) ?_
          refine pw_ld E (pc' := 33) (st' := [.ref 40, .ref 40]) rfl (fun _ => rfl) ?_
          refine pw_getI I5 E (c := 24) (k := 5) (pc' := 36) rfl rfl rfl rfl rfl rfl (fun hf25a hf25b hf25c hf25d => ?_)
          refine pw_bip E (pc' := 38) rfl rfl (by decide) ?_
          refine pw_mul E (pc' := 39) rfl rfl ?_
          refine pw_nm (fun x26 hx26a hx26b => ?_)
          refine pw_ld E (pc' := 40) (st' := [.ref 40, pw_i x26, .ref 40]) rfl (fun _ => rfl) ?_
          refine pw_getR (b := 41) I5 E (c := 24) (k := 0) (pc' := 43) rfl rfl rfl rfl rfl rfl rfl ?_
          refine pw_ld E (pc' := 44) (st' := [.ref 40, .ref 41, pw_i x26, .ref 40]) rfl (fun _ => rfl) ?_
          refine pw_getI I5 E (c := 24) (k := 3) (pc' := 47) rfl rfl rfl rfl rfl rfl (fun hf27a hf27b hf27c hf27d => ?_)
          refine pw_ald I5 E (c := 25) (pc' := 48) rfl rfl rfl (by decide) rfl (by decide) (by omega) (by omega) rfl (fun hf28a hf28b hf28c hf28d => ?_)
          refine pw_bip E (pc' := 50) rfl rfl (by decide) ?_
          refine pw_sub E (pc' := 51) rfl rfl ?_
          refine pw_add E (pc' := 52) rfl rfl ?_
          refine pw_nm (fun x29 hx29a hx29b => ?_)
          refine pw_putI I5 E (c := 24) (k := 5) (pc' := 55) rfl rfl rfl rfl (by omega) (by omega) (by omega) (by omega) rfl rfl ?_
          intro h30I h30E
          generalize h30w : pw_w h5 24 5 (pw_i x29) = h30 at h30I h30E ⊢
          have h30F := E5.tr (h30E.wk (W' := [24]) (by first | rfl | simp))
          refine pw_ld E (pc' := 56) (st' := [.ref 40]) rfl (fun _ => rfl) ?_
          refine pw_ld E (pc' := 57) (st' := [.ref 40, .ref 40]) rfl (fun _ => rfl) ?_
          have he32 : pw_g h30 24 3 = pw_g h5 24 3 := by rw [← h30w]; exact pw_g_ne (by omega)
          refine pw_getI h30I E (c := 24) (k := 3) (pc' := 60) rfl rfl rfl rfl rfl rfl (fun hf31a hf31b hf31c hf31d => ?_)
          refine pw_ld E (pc' := 61) (st' := [pw_i 1, pw_i (pw_g h30 24 3), .ref 40]) rfl (fun _ => rfl) ?_
          refine pw_add E (pc' := 62) rfl rfl ?_
          refine pw_putI h30I E (c := 24) (k := 3) (pc' := 65) rfl rfl rfl rfl (by omega) (by omega) (by omega) (by omega) rfl rfl ?_
          intro h33I h33E
          generalize h33w : pw_w h30 24 3 (pw_i ((pw_g h30 24 3) + 1)) = h33 at h33I h33E ⊢
          have h33F := h30F.tr (h33E.wk (W' := [24]) (by first | rfl | simp))
          refine pw_goto E (pc' := 5) rfl (by decide) ?_
          have he34 : pw_g h33 24 3 = (pw_g h30 24 3) + 1 := by rw [← h33w]; exact pw_g_eq (c := 24) (k := 3) h30I rfl rfl (by omega) (by omega)
          exact ih5 _ (by omega)  h33 h33I h33F   rfl
  exact L5 _  h1 h1I h1F   rfl
set_option maxHeartbeats 4000000 in
theorem cm_101 {X : List (Nat × List Value)} {d : Nat} {h : pm_H} (hd : 3 ≤ d) (I : pw_I h) (hX : pw_Xk X)  : pw X d h 101 0 [some (.ref 40)] [] (fun h' v => pw_I h' ∧ pw_E [24] h h' ∧ v = .inl none) := by
  have E : pm_ent 101 = some (1, 1, 9, 4, pmc_101) := rfl
  have E0 : pw_E [24] h h := pw_E.rf _ _
  refine pw_ld E (pc' := 1) (st' := [.ref 40]) rfl (fun _ => rfl) ?_
  refine pw_ld E (pc' := 2) (st' := [.ref 40, .ref 40]) rfl (fun _ => rfl) ?_
  refine pw_getI I E (c := 24) (k := 3) (pc' := 5) rfl rfl rfl rfl rfl rfl (fun hf1a hf1b hf1c hf1d => ?_)
  refine pw_putI I E (c := 24) (k := 2) (pc' := 8) rfl rfl rfl rfl (by omega) (by omega) (by omega) (by omega) rfl rfl ?_
  intro h2I h2E
  generalize h2w : pw_w h 24 2 (pw_i (pw_g h 24 3)) = h2 at h2I h2E ⊢
  have h2F := E0.tr (h2E.wk (W' := [24]) (by first | rfl | simp))
  have L8 : ∀ (n8 : Nat)  (h8 : pm_H), pw_I h8 → pw_E [24] h h8 → (1000 - pw_g h8 24 2).toNat = n8 → pw X d h8 101 8 [some (.ref 40)] [] (fun h' v => pw_I h' ∧ pw_E [24] h h' ∧ v = .inl none) := by
    intro n8
    induction n8 using Nat.strongRecOn with
    | ind n8 ih8 =>
      intro  h8 I8 E8 hm8
      refine pw_ld E (pc' := 9) (st' := [.ref 40]) rfl (fun _ => rfl) ?_
      refine pw_getI I8 E (c := 24) (k := 2) (pc' := 12) rfl rfl rfl rfl rfl rfl (fun hf3a hf3b hf3c hf3d => ?_)
      refine pw_ld E (pc' := 13) (st' := [.ref 40, pw_i (pw_g h8 24 2)]) rfl (fun _ => rfl) ?_
      refine pw_getI I8 E (c := 24) (k := 1) (pc' := 16) rfl rfl rfl rfl rfl rfl (fun hf4a hf4b hf4c hf4d => ?_)
      refine pw_if2 E (pc' := 47) rfl (by decide) (by omega) (by omega) (by omega) (by omega) ?_ ?_
      · intro hc5
        have hc5 : pw_g h8 24 1 ≤ pw_g h8 24 2 := hc5
        refine pw_ld E (pc' := 48) (st' := [.ref 40]) rfl (fun _ => rfl) ?_
        refine pw_ld E (pc' := 49) (st' := [.ref 40, .ref 40]) rfl (fun _ => rfl) ?_
        refine pw_getI I8 E (c := 24) (k := 2) (pc' := 52) rfl rfl rfl rfl rfl rfl (fun hf6a hf6b hf6c hf6d => ?_)
        refine pw_putI I8 E (c := 24) (k := 3) (pc' := 55) rfl rfl rfl rfl (by omega) (by omega) (by omega) (by omega) rfl rfl ?_
        intro h7I h7E
        generalize h7w : pw_w h8 24 3 (pw_i (pw_g h8 24 2)) = h7 at h7I h7E ⊢
        have h7F := E8.tr (h7E.wk (W' := [24]) (by first | rfl | simp))
        refine pw_ld E (pc' := 56) (st' := [.ref 40]) rfl (fun _ => rfl) ?_
        have he9 : pw_g h7 24 2 = pw_g h8 24 2 := by rw [← h7w]; exact pw_g_ne (by omega)
        refine pw_getI h7I E (c := 24) (k := 2) (pc' := 59) rfl rfl rfl rfl rfl rfl (fun hf8a hf8b hf8c hf8d => ?_)
        refine pw_ld E (pc' := 60) (st' := [.ref 40, pw_i (pw_g h7 24 2)]) rfl (fun _ => rfl) ?_
        have he11 : pw_g h7 24 1 = pw_g h8 24 1 := by rw [← h7w]; exact pw_g_ne (by omega)
        refine pw_getI h7I E (c := 24) (k := 1) (pc' := 63) rfl rfl rfl rfl rfl rfl (fun hf10a hf10b hf10c hf10d => ?_)
        refine pw_if2 E (pc' := 74) rfl (by decide) (by omega) (by omega) (by omega) (by omega) ?_ ?_
        · intro hc12
          have hc12 : pw_g h7 24 2 < pw_g h7 24 1 := hc12
          refine pw_ld E (pc' := 75) (st' := [.ref 40]) rfl (fun _ => rfl) ?_
          refine pw_getR (b := 41) h7I E (c := 24) (k := 0) (pc' := 78) rfl rfl rfl rfl rfl rfl rfl ?_
          refine pw_ld E (pc' := 79) (st' := [.ref 40, .ref 41]) rfl (fun _ => rfl) ?_
          refine pw_getI h7I E (c := 24) (k := 2) (pc' := 82) rfl rfl rfl rfl rfl rfl (fun hf13a hf13b hf13c hf13d => ?_)
          refine pw_ald h7I E (c := 25) (pc' := 83) rfl rfl rfl (by decide) rfl (by decide) (by omega) (by omega) rfl (fun hf14a hf14b hf14c hf14d => ?_)
          refine pw_call (m' := 103) (As := [pw_i (pw_g h7 25 ((pw_g h7 24 2).toNat))]) (rest := []) (ls'' := [some (pw_i (pw_g h7 25 ((pw_g h7 24 2).toNat)))]) (by omega) E rfl (fun _ => pw_iS rfl rfl rfl) (rfl : pm_ent 103 = some (1, 1, 9, 1, pmc_103)) rfl rfl (cm_103 (by omega) h7I (pw_g h7 25 ((pw_g h7 24 2).toNat)) (by omega) (by omega)) ?_
          rintro u16 v15 ⟨rfl, x17, rfl, hx17a, hx17b⟩
          refine ⟨_, rfl, ?_⟩
          show pw X d h7 101 86 [some (.ref 40)] [pw_i x17] _
          refine pw_if E (pc' := 96) rfl (by decide) (by omega) (by omega) ?_ ?_
          · intro hc18
            have hc18 : x17 = (0 : Int) := hc18
            refine pw_ld E (pc' := 97) (st' := [.ref 40]) rfl (fun _ => rfl) ?_
            refine pw_getR (b := 41) h7I E (c := 24) (k := 0) (pc' := 100) rfl rfl rfl rfl rfl rfl rfl ?_
            refine pw_ld E (pc' := 101) (st' := [.ref 40, .ref 41]) rfl (fun _ => rfl) ?_
            refine pw_getI h7I E (c := 24) (k := 2) (pc' := 104) rfl rfl rfl rfl rfl rfl (fun hf19a hf19b hf19c hf19d => ?_)
            refine pw_ald h7I E (c := 25) (pc' := 105) rfl rfl rfl (by decide) rfl (by decide) (by omega) (by omega) rfl (fun hf20a hf20b hf20c hf20d => ?_)
            refine pw_call (m' := 105) (As := [pw_i (pw_g h7 25 ((pw_g h7 24 2).toNat))]) (rest := []) (ls'' := [some (pw_i (pw_g h7 25 ((pw_g h7 24 2).toNat)))]) (by omega) E rfl (fun _ => pw_iS rfl rfl rfl) (rfl : pm_ent 105 = some (1, 1, 9, 1, pmc_105)) rfl rfl (cm_105 (by omega) h7I (pw_g h7 25 ((pw_g h7 24 2).toNat)) (by omega) (by omega)) ?_
            rintro u22 v21 ⟨rfl, x23, rfl, hx23a, hx23b⟩
            refine ⟨_, rfl, ?_⟩
            show pw X d h7 101 108 [some (.ref 40)] [pw_i x23] _
            refine pw_if E (pc' := 118) rfl (by decide) (by omega) (by omega) ?_ ?_
            · intro hc24
              have hc24 : x23 = (0 : Int) := hc24
              refine pw_ld E (pc' := 119) (st' := [.ref 40]) rfl (fun _ => rfl) ?_
              refine pw_ld E (pc' := 120) (st' := [.ref 40, .ref 40]) rfl (fun _ => rfl) ?_
              have he26 : pw_g h7 24 3 = pw_g h8 24 2 := by rw [← h7w]; exact pw_g_eq (c := 24) (k := 3) I8 rfl rfl (by omega) (by omega)
              refine pw_getI h7I E (c := 24) (k := 3) (pc' := 123) rfl rfl rfl rfl rfl rfl (fun hf25a hf25b hf25c hf25d => ?_)
              refine pw_ld E (pc' := 124) (st' := [pw_i 1, pw_i (pw_g h7 24 3), .ref 40]) rfl (fun _ => rfl) ?_
              refine pw_add E (pc' := 125) rfl rfl ?_
              refine pw_putI h7I E (c := 24) (k := 3) (pc' := 128) rfl rfl rfl rfl (by omega) (by omega) (by omega) (by omega) rfl rfl ?_
              intro h27I h27E
              generalize h27w : pw_w h7 24 3 (pw_i ((pw_g h7 24 3) + 1)) = h27 at h27I h27E ⊢
              have h27F := h7F.tr (h27E.wk (W' := [24]) (by first | rfl | simp))
              refine pw_ld E (pc' := 129) (st' := [.ref 40]) rfl (fun _ => rfl) ?_
              refine pw_ld E (pc' := 130) (st' := [.ref 40, .ref 40]) rfl (fun _ => rfl) ?_
              refine pw_getR (b := 41) h27I E (c := 24) (k := 0) (pc' := 133) rfl rfl rfl rfl rfl rfl rfl ?_
              refine pw_ld E (pc' := 134) (st' := [.ref 40, .ref 41, .ref 40]) rfl (fun _ => rfl) ?_
              have he29 : pw_g h27 24 2 = pw_g h7 24 2 := by rw [← h27w]; exact pw_g_ne (by omega)
              refine pw_getI h27I E (c := 24) (k := 2) (pc' := 137) rfl rfl rfl rfl rfl rfl (fun hf28a hf28b hf28c hf28d => ?_)
              refine pw_ald h27I E (c := 25) (pc' := 138) rfl rfl rfl (by decide) rfl (by decide) (by omega) (by omega) rfl (fun hf30a hf30b hf30c hf30d => ?_)
              refine pw_putI h27I E (c := 24) (k := 5) (pc' := 141) rfl rfl rfl rfl (by omega) (by omega) (by omega) (by omega) rfl rfl ?_
              intro h31I h31E
              generalize h31w : pw_w h27 24 5 (pw_i (pw_g h27 25 ((pw_g h27 24 2).toNat))) = h31 at h31I h31E ⊢
              have h31F := h27F.tr (h31E.wk (W' := [24]) (by first | rfl | simp))
              refine pw_ld E (pc' := 142) (st' := [.ref 40]) rfl (fun _ => rfl) ?_
              refine pw_ld E (pc' := 144) (st' := [.ref 8, .ref 40]) rfl (fun _ => rfl) ?_
              refine pw_ld E (pc' := 145) (st' := [.ref 40, .ref 8, .ref 40]) rfl (fun _ => rfl) ?_
              refine pw_getR (b := 41) h31I E (c := 24) (k := 0) (pc' := 148) rfl rfl rfl rfl rfl rfl rfl ?_
              refine pw_ld E (pc' := 149) (st' := [.ref 40, .ref 41, .ref 8, .ref 40]) rfl (fun _ => rfl) ?_
              have he33 : pw_g h31 24 2 = pw_g h27 24 2 := by rw [← h31w]; exact pw_g_ne (by omega)
              refine pw_getI h31I E (c := 24) (k := 2) (pc' := 152) rfl rfl rfl rfl rfl rfl (fun hf32a hf32b hf32c hf32d => ?_)
              refine pw_ald h31I E (c := 25) (pc' := 153) rfl rfl rfl (by decide) rfl (by decide) (by omega) (by omega) rfl (fun hf34a hf34b hf34c hf34d => ?_)
              obtain ⟨y35l, y35s, y35n, y35i⟩ := pw_sxk (p := 8) hX (by omega) (by omega)
              refine pw_sidx E rfl rfl y35s rfl (fun x36 hx36a hx36b => ?_)
              refine pw_if E (pc' := 163) rfl (by decide) (by omega) (by omega) ?_ ?_
              · intro hc37
                have hc37 : x36 < (0 : Int) := hc37
                refine pw_ld E (pc' := 164) (st' := [pw_i 0, .ref 40]) rfl (fun _ => rfl) ?_
                refine pw_putI h31I E (c := 24) (k := 4) (pc' := 167) rfl rfl rfl rfl (by omega) (by omega) (by omega) (by omega) rfl rfl ?_
                intro h38I h38E
                generalize h38w : pw_w h31 24 4 (pw_i 0) = h38 at h38I h38E ⊢
                have h38F := h31F.tr (h38E.wk (W' := [24]) (by first | rfl | simp))
                refine pw_vret E rfl ?_
                exact ⟨h38I, h38F, rfl⟩
              · intro hc39
                have hc39 : ¬ (x36 < (0 : Int)) := hc39
                refine pw_ld E (pc' := 160) (st' := [pw_i 3, .ref 40]) rfl (fun _ => rfl) ?_
                refine pw_goto E (pc' := 164) rfl (by decide) ?_
                refine pw_putI h31I E (c := 24) (k := 4) (pc' := 167) rfl rfl rfl rfl (by omega) (by omega) (by omega) (by omega) rfl rfl ?_
                intro h40I h40E
                generalize h40w : pw_w h31 24 4 (pw_i 3) = h40 at h40I h40E ⊢
                have h40F := h31F.tr (h40E.wk (W' := [24]) (by first | rfl | simp))
                refine pw_vret E rfl ?_
                exact ⟨h40I, h40F, rfl⟩
            · intro hc41
              have hc41 : ¬ (x23 = (0 : Int)) := hc41
              refine pw_ld E (pc' := 112) (st' := [.ref 40]) rfl (fun _ => rfl) ?_
              obtain ⟨f42l, f42h, -⟩ := pw_obj (c := 24) h7I rfl
              refine pw_call (m' := 106) (As := [.ref 40]) (rest := []) (ls'' := [some (.ref 40)]) (by omega) E rfl (fun _ => pw_iV rfl rfl rfl rfl (pw_cellI f42h rfl)) (rfl : pm_ent 106 = some (1, 1, 9, 4, pmc_106)) rfl rfl (cm_106 (by omega) h7I ) ?_
              rintro h43 v44 ⟨h43I, h43E, rfl⟩
              refine ⟨_, rfl, ?_⟩
              have h43F := h7F.tr (h43E.wk (W' := [24]) (by first | rfl | simp))
              show pw X d h43 101 115 [some (.ref 40)] [] _
              refine pw_goto E (pc' := 167) rfl (by decide) ?_
              refine pw_vret E rfl ?_
              exact ⟨h43I, h43F, rfl⟩
          · intro hc45
            have hc45 : ¬ (x17 = (0 : Int)) := hc45
            refine pw_ld E (pc' := 90) (st' := [.ref 40]) rfl (fun _ => rfl) ?_
            obtain ⟨f46l, f46h, -⟩ := pw_obj (c := 24) h7I rfl
            refine pw_call (m' := 104) (As := [.ref 40]) (rest := []) (ls'' := [some (.ref 40)]) (by omega) E rfl (fun _ => pw_iV rfl rfl rfl rfl (pw_cellI f46h rfl)) (rfl : pm_ent 104 = some (1, 1, 9, 4, pmc_104)) rfl rfl (cm_104 (by omega) h7I ) ?_
            rintro h47 v48 ⟨h47I, h47E, rfl⟩
            refine ⟨_, rfl, ?_⟩
            have h47F := h7F.tr (h47E.wk (W' := [24]) (by first | rfl | simp))
            show pw X d h47 101 93 [some (.ref 40)] [] _
            refine pw_goto E (pc' := 167) rfl (by decide) ?_
            refine pw_vret E rfl ?_
            exact ⟨h47I, h47F, rfl⟩
        · intro hc49
          have hc49 : ¬ (pw_g h7 24 2 < pw_g h7 24 1) := hc49
          refine pw_ld E (pc' := 67) (st' := [.ref 40]) rfl (fun _ => rfl) ?_
          refine pw_ld E (pc' := 68) (st' := [pw_i 4, .ref 40]) rfl (fun _ => rfl) ?_
          refine pw_putI h7I E (c := 24) (k := 4) (pc' := 71) rfl rfl rfl rfl (by omega) (by omega) (by omega) (by omega) rfl rfl ?_
          intro h50I h50E
          generalize h50w : pw_w h7 24 4 (pw_i 4) = h50 at h50I h50E ⊢
          have h50F := h7F.tr (h50E.wk (W' := [24]) (by first | rfl | simp))
          refine pw_goto E (pc' := 167) rfl (by decide) ?_
          refine pw_vret E rfl ?_
          exact ⟨h50I, h50F, rfl⟩
      · intro hc51
        have hc51 : ¬ (pw_g h8 24 1 ≤ pw_g h8 24 2) := hc51
        refine pw_ld E (pc' := 20) (st' := [.ref 40]) rfl (fun _ => rfl) ?_
        refine pw_getR (b := 41) I8 E (c := 24) (k := 0) (pc' := 23) rfl rfl rfl rfl rfl rfl rfl ?_
        refine pw_ld E (pc' := 24) (st' := [.ref 40, .ref 41]) rfl (fun _ => rfl) ?_
        refine pw_getI I8 E (c := 24) (k := 2) (pc' := 27) rfl rfl rfl rfl rfl rfl (fun hf52a hf52b hf52c hf52d => ?_)
        refine pw_ald I8 E (c := 25) (pc' := 28) rfl rfl rfl (by decide) rfl (by decide) (by omega) (by omega) rfl (fun hf53a hf53b hf53c hf53d => ?_)
        refine pw_call (m' := 102) (As := [pw_i (pw_g h8 25 ((pw_g h8 24 2).toNat))]) (rest := []) (ls'' := [some (pw_i (pw_g h8 25 ((pw_g h8 24 2).toNat)))]) (by omega) E rfl (fun _ => pw_iS rfl rfl rfl) (rfl : pm_ent 102 = some (1, 1, 9, 1, pmc_102)) rfl rfl (cm_102 (by omega) I8 (pw_g h8 25 ((pw_g h8 24 2).toNat)) (by omega) (by omega)) ?_
        rintro u55 v54 ⟨rfl, x56, rfl, hx56a, hx56b⟩
        refine ⟨_, rfl, ?_⟩
        show pw X d h8 101 31 [some (.ref 40)] [pw_i x56] _
        refine pw_if E (pc' := 47) rfl (by decide) (by omega) (by omega) ?_ ?_
        · intro hc57
          have hc57 : x56 = (0 : Int) := hc57
          refine pw_ld E (pc' := 48) (st' := [.ref 40]) rfl (fun _ => rfl) ?_
          refine pw_ld E (pc' := 49) (st' := [.ref 40, .ref 40]) rfl (fun _ => rfl) ?_
          refine pw_getI I8 E (c := 24) (k := 2) (pc' := 52) rfl rfl rfl rfl rfl rfl (fun hf58a hf58b hf58c hf58d => ?_)
          refine pw_putI I8 E (c := 24) (k := 3) (pc' := 55) rfl rfl rfl rfl (by omega) (by omega) (by omega) (by omega) rfl rfl ?_
          intro h59I h59E
          generalize h59w : pw_w h8 24 3 (pw_i (pw_g h8 24 2)) = h59 at h59I h59E ⊢
          have h59F := E8.tr (h59E.wk (W' := [24]) (by first | rfl | simp))
          refine pw_ld E (pc' := 56) (st' := [.ref 40]) rfl (fun _ => rfl) ?_
          have he61 : pw_g h59 24 2 = pw_g h8 24 2 := by rw [← h59w]; exact pw_g_ne (by omega)
          refine pw_getI h59I E (c := 24) (k := 2) (pc' := 59) rfl rfl rfl rfl rfl rfl (fun hf60a hf60b hf60c hf60d => ?_)
          refine pw_ld E (pc' := 60) (st' := [.ref 40, pw_i (pw_g h59 24 2)]) rfl (fun _ => rfl) ?_
          have he63 : pw_g h59 24 1 = pw_g h8 24 1 := by rw [← h59w]; exact pw_g_ne (by omega)
          refine pw_getI h59I E (c := 24) (k := 1) (pc' := 63) rfl rfl rfl rfl rfl rfl (fun hf62a hf62b hf62c hf62d => ?_)
          refine pw_if2 E (pc' := 74) rfl (by decide) (by omega) (by omega) (by omega) (by omega) ?_ ?_
          · intro hc64
            have hc64 : pw_g h59 24 2 < pw_g h59 24 1 := hc64
            refine pw_ld E (pc' := 75) (st' := [.ref 40]) rfl (fun _ => rfl) ?_
            refine pw_getR (b := 41) h59I E (c := 24) (k := 0) (pc' := 78) rfl rfl rfl rfl rfl rfl rfl ?_
            refine pw_ld E (pc' := 79) (st' := [.ref 40, .ref 41]) rfl (fun _ => rfl) ?_
            refine pw_getI h59I E (c := 24) (k := 2) (pc' := 82) rfl rfl rfl rfl rfl rfl (fun hf65a hf65b hf65c hf65d => ?_)
            refine pw_ald h59I E (c := 25) (pc' := 83) rfl rfl rfl (by decide) rfl (by decide) (by omega) (by omega) rfl (fun hf66a hf66b hf66c hf66d => ?_)
            refine pw_call (m' := 103) (As := [pw_i (pw_g h59 25 ((pw_g h59 24 2).toNat))]) (rest := []) (ls'' := [some (pw_i (pw_g h59 25 ((pw_g h59 24 2).toNat)))]) (by omega) E rfl (fun _ => pw_iS rfl rfl rfl) (rfl : pm_ent 103 = some (1, 1, 9, 1, pmc_103)) rfl rfl (cm_103 (by omega) h59I (pw_g h59 25 ((pw_g h59 24 2).toNat)) (by omega) (by omega)) ?_
            rintro u68 v67 ⟨rfl, x69, rfl, hx69a, hx69b⟩
            refine ⟨_, rfl, ?_⟩
            show pw X d h59 101 86 [some (.ref 40)] [pw_i x69] _
            refine pw_if E (pc' := 96) rfl (by decide) (by omega) (by omega) ?_ ?_
            · intro hc70
              have hc70 : x69 = (0 : Int) := hc70
              refine pw_ld E (pc' := 97) (st' := [.ref 40]) rfl (fun _ => rfl) ?_
              refine pw_getR (b := 41) h59I E (c := 24) (k := 0) (pc' := 100) rfl rfl rfl rfl rfl rfl rfl ?_
              refine pw_ld E (pc' := 101) (st' := [.ref 40, .ref 41]) rfl (fun _ => rfl) ?_
              refine pw_getI h59I E (c := 24) (k := 2) (pc' := 104) rfl rfl rfl rfl rfl rfl (fun hf71a hf71b hf71c hf71d => ?_)
              refine pw_ald h59I E (c := 25) (pc' := 105) rfl rfl rfl (by decide) rfl (by decide) (by omega) (by omega) rfl (fun hf72a hf72b hf72c hf72d => ?_)
              refine pw_call (m' := 105) (As := [pw_i (pw_g h59 25 ((pw_g h59 24 2).toNat))]) (rest := []) (ls'' := [some (pw_i (pw_g h59 25 ((pw_g h59 24 2).toNat)))]) (by omega) E rfl (fun _ => pw_iS rfl rfl rfl) (rfl : pm_ent 105 = some (1, 1, 9, 1, pmc_105)) rfl rfl (cm_105 (by omega) h59I (pw_g h59 25 ((pw_g h59 24 2).toNat)) (by omega) (by omega)) ?_
              rintro u74 v73 ⟨rfl, x75, rfl, hx75a, hx75b⟩
              refine ⟨_, rfl, ?_⟩
              show pw X d h59 101 108 [some (.ref 40)] [pw_i x75] _
              refine pw_if E (pc' := 118) rfl (by decide) (by omega) (by omega) ?_ ?_
              · intro hc76
                have hc76 : x75 = (0 : Int) := hc76
                refine pw_ld E (pc' := 119) (st' := [.ref 40]) rfl (fun _ => rfl) ?_
                refine pw_ld E (pc' := 120) (st' := [.ref 40, .ref 40]) rfl (fun _ => rfl) ?_
                have he78 : pw_g h59 24 3 = pw_g h8 24 2 := by rw [← h59w]; exact pw_g_eq (c := 24) (k := 3) I8 rfl rfl (by omega) (by omega)
                refine pw_getI h59I E (c := 24) (k := 3) (pc' := 123) rfl rfl rfl rfl rfl rfl (fun hf77a hf77b hf77c hf77d => ?_)
                refine pw_ld E (pc' := 124) (st' := [pw_i 1, pw_i (pw_g h59 24 3), .ref 40]) rfl (fun _ => rfl) ?_
                refine pw_add E (pc' := 125) rfl rfl ?_
                refine pw_putI h59I E (c := 24) (k := 3) (pc' := 128) rfl rfl rfl rfl (by omega) (by omega) (by omega) (by omega) rfl rfl ?_
                intro h79I h79E
                generalize h79w : pw_w h59 24 3 (pw_i ((pw_g h59 24 3) + 1)) = h79 at h79I h79E ⊢
                have h79F := h59F.tr (h79E.wk (W' := [24]) (by first | rfl | simp))
                refine pw_ld E (pc' := 129) (st' := [.ref 40]) rfl (fun _ => rfl) ?_
                refine pw_ld E (pc' := 130) (st' := [.ref 40, .ref 40]) rfl (fun _ => rfl) ?_
                refine pw_getR (b := 41) h79I E (c := 24) (k := 0) (pc' := 133) rfl rfl rfl rfl rfl rfl rfl ?_
                refine pw_ld E (pc' := 134) (st' := [.ref 40, .ref 41, .ref 40]) rfl (fun _ => rfl) ?_
                have he81 : pw_g h79 24 2 = pw_g h59 24 2 := by rw [← h79w]; exact pw_g_ne (by omega)
                refine pw_getI h79I E (c := 24) (k := 2) (pc' := 137) rfl rfl rfl rfl rfl rfl (fun hf80a hf80b hf80c hf80d => ?_)
                refine pw_ald h79I E (c := 25) (pc' := 138) rfl rfl rfl (by decide) rfl (by decide) (by omega) (by omega) rfl (fun hf82a hf82b hf82c hf82d => ?_)
                refine pw_putI h79I E (c := 24) (k := 5) (pc' := 141) rfl rfl rfl rfl (by omega) (by omega) (by omega) (by omega) rfl rfl ?_
                intro h83I h83E
                generalize h83w : pw_w h79 24 5 (pw_i (pw_g h79 25 ((pw_g h79 24 2).toNat))) = h83 at h83I h83E ⊢
                have h83F := h79F.tr (h83E.wk (W' := [24]) (by first | rfl | simp))
                refine pw_ld E (pc' := 142) (st' := [.ref 40]) rfl (fun _ => rfl) ?_
                refine pw_ld E (pc' := 144) (st' := [.ref 8, .ref 40]) rfl (fun _ => rfl) ?_
                refine pw_ld E (pc' := 145) (st' := [.ref 40, .ref 8, .ref 40]) rfl (fun _ => rfl) ?_
                refine pw_getR (b := 41) h83I E (c := 24) (k := 0) (pc' := 148) rfl rfl rfl rfl rfl rfl rfl ?_
                refine pw_ld E (pc' := 149) (st' := [.ref 40, .ref 41, .ref 8, .ref 40]) rfl (fun _ => rfl) ?_
                have he85 : pw_g h83 24 2 = pw_g h79 24 2 := by rw [← h83w]; exact pw_g_ne (by omega)
                refine pw_getI h83I E (c := 24) (k := 2) (pc' := 152) rfl rfl rfl rfl rfl rfl (fun hf84a hf84b hf84c hf84d => ?_)
                refine pw_ald h83I E (c := 25) (pc' := 153) rfl rfl rfl (by decide) rfl (by decide) (by omega) (by omega) rfl (fun hf86a hf86b hf86c hf86d => ?_)
                obtain ⟨y87l, y87s, y87n, y87i⟩ := pw_sxk (p := 8) hX (by omega) (by omega)
                refine pw_sidx E rfl rfl y87s rfl (fun x88 hx88a hx88b => ?_)
                refine pw_if E (pc' := 163) rfl (by decide) (by omega) (by omega) ?_ ?_
                · intro hc89
                  have hc89 : x88 < (0 : Int) := hc89
                  refine pw_ld E (pc' := 164) (st' := [pw_i 0, .ref 40]) rfl (fun _ => rfl) ?_
                  refine pw_putI h83I E (c := 24) (k := 4) (pc' := 167) rfl rfl rfl rfl (by omega) (by omega) (by omega) (by omega) rfl rfl ?_
                  intro h90I h90E
                  generalize h90w : pw_w h83 24 4 (pw_i 0) = h90 at h90I h90E ⊢
                  have h90F := h83F.tr (h90E.wk (W' := [24]) (by first | rfl | simp))
                  refine pw_vret E rfl ?_
                  exact ⟨h90I, h90F, rfl⟩
                · intro hc91
                  have hc91 : ¬ (x88 < (0 : Int)) := hc91
                  refine pw_ld E (pc' := 160) (st' := [pw_i 3, .ref 40]) rfl (fun _ => rfl) ?_
                  refine pw_goto E (pc' := 164) rfl (by decide) ?_
                  refine pw_putI h83I E (c := 24) (k := 4) (pc' := 167) rfl rfl rfl rfl (by omega) (by omega) (by omega) (by omega) rfl rfl ?_
                  intro h92I h92E
                  generalize h92w : pw_w h83 24 4 (pw_i 3) = h92 at h92I h92E ⊢
                  have h92F := h83F.tr (h92E.wk (W' := [24]) (by first | rfl | simp))
                  refine pw_vret E rfl ?_
                  exact ⟨h92I, h92F, rfl⟩
              · intro hc93
                have hc93 : ¬ (x75 = (0 : Int)) := hc93
                refine pw_ld E (pc' := 112) (st' := [.ref 40]) rfl (fun _ => rfl) ?_
                obtain ⟨f94l, f94h, -⟩ := pw_obj (c := 24) h59I rfl
                refine pw_call (m' := 106) (As := [.ref 40]) (rest := []) (ls'' := [some (.ref 40)]) (by omega) E rfl (fun _ => pw_iV rfl rfl rfl rfl (pw_cellI f94h rfl)) (rfl : pm_ent 106 = some (1, 1, 9, 4, pmc_106)) rfl rfl (cm_106 (by omega) h59I ) ?_
                rintro h95 v96 ⟨h95I, h95E, rfl⟩
                refine ⟨_, rfl, ?_⟩
                have h95F := h59F.tr (h95E.wk (W' := [24]) (by first | rfl | simp))
                show pw X d h95 101 115 [some (.ref 40)] [] _
                refine pw_goto E (pc' := 167) rfl (by decide) ?_
                refine pw_vret E rfl ?_
                exact ⟨h95I, h95F, rfl⟩
            · intro hc97
              have hc97 : ¬ (x69 = (0 : Int)) := hc97
              refine pw_ld E (pc' := 90) (st' := [.ref 40]) rfl (fun _ => rfl) ?_
              obtain ⟨f98l, f98h, -⟩ := pw_obj (c := 24) h59I rfl
              refine pw_call (m' := 104) (As := [.ref 40]) (rest := []) (ls'' := [some (.ref 40)]) (by omega) E rfl (fun _ => pw_iV rfl rfl rfl rfl (pw_cellI f98h rfl)) (rfl : pm_ent 104 = some (1, 1, 9, 4, pmc_104)) rfl rfl (cm_104 (by omega) h59I ) ?_
              rintro h99 v100 ⟨h99I, h99E, rfl⟩
              refine ⟨_, rfl, ?_⟩
              have h99F := h59F.tr (h99E.wk (W' := [24]) (by first | rfl | simp))
              show pw X d h99 101 93 [some (.ref 40)] [] _
              refine pw_goto E (pc' := 167) rfl (by decide) ?_
              refine pw_vret E rfl ?_
              exact ⟨h99I, h99F, rfl⟩
          · intro hc101
            have hc101 : ¬ (pw_g h59 24 2 < pw_g h59 24 1) := hc101
            refine pw_ld E (pc' := 67) (st' := [.ref 40]) rfl (fun _ => rfl) ?_
            refine pw_ld E (pc' := 68) (st' := [pw_i 4, .ref 40]) rfl (fun _ => rfl) ?_
            refine pw_putI h59I E (c := 24) (k := 4) (pc' := 71) rfl rfl rfl rfl (by omega) (by omega) (by omega) (by omega) rfl rfl ?_
            intro h102I h102E
            generalize h102w : pw_w h59 24 4 (pw_i 4) = h102 at h102I h102E ⊢
            have h102F := h59F.tr (h102E.wk (W' := [24]) (by first | rfl | simp))
            refine pw_goto E (pc' := 167) rfl (by decide) ?_
            refine pw_vret E rfl ?_
            exact ⟨h102I, h102F, rfl⟩
        · intro hc103
          have hc103 : ¬ (x56 = (0 : Int)) := hc103
          refine pw_ld E (pc' := 35) (st' := [.ref 40]) rfl (fun _ => rfl) ?_
          refine pw_ld E (pc' := 36) (st' := [.ref 40, .ref 40]) rfl (fun _ => rfl) ?_
          refine pw_getI I8 E (c := 24) (k := 2) (pc' := 39) rfl rfl rfl rfl rfl rfl (fun hf104a hf104b hf104c hf104d => ?_)
          refine pw_ld E (pc' := 40) (st' := [pw_i 1, pw_i (pw_g h8 24 2), .ref 40]) rfl (fun _ => rfl) ?_
          refine pw_add E (pc' := 41) rfl rfl ?_
          refine pw_putI I8 E (c := 24) (k := 2) (pc' := 44) rfl rfl rfl rfl (by omega) (by omega) (by omega) (by omega) rfl rfl ?_
          intro h105I h105E
          generalize h105w : pw_w h8 24 2 (pw_i ((pw_g h8 24 2) + 1)) = h105 at h105I h105E ⊢
          have h105F := E8.tr (h105E.wk (W' := [24]) (by first | rfl | simp))
          refine pw_goto E (pc' := 8) rfl (by decide) ?_
          have he106 : pw_g h105 24 2 = (pw_g h8 24 2) + 1 := by rw [← h105w]; exact pw_g_eq (c := 24) (k := 2) I8 rfl rfl (by omega) (by omega)
          exact ih8 _ (by omega)  h105 h105I h105F   rfl
  have he107 : pw_g h2 24 2 = pw_g h 24 3 := by rw [← h2w]; exact pw_g_eq (c := 24) (k := 2) I rfl rfl (by omega) (by omega)
  exact L8 _  h2 h2I h2F   rfl
set_option maxHeartbeats 4000000 in
theorem cm_108 {X : List (Nat × List Value)} {d : Nat} {h : pm_H} (hd : 1 ≤ d) (I : pw_I h) (hX : pw_Xk X) (str : Nat) (hstr1 : 4 ≤ str) (hstr2 : str < 12) : pw X d h 108 0 [some (.ref 40), some (.ref str), none, none, none, none, none] [] (fun h' v => h = h' ∧ ∃ a : Int, v = .inl (some (pw_i a)) ∧ (-1) ≤ a ∧ a ≤ 60) := by
  have E : pm_ent 108 = some (2, 7, 9, 0, pmc_108) := rfl
  obtain ⟨strl, strs, strn, stri⟩ := pw_sxk (p := str) hX hstr1 hstr2
  refine pw_ld E (pc' := 1) (st' := [pw_i 0]) rfl (fun _ => rfl) ?_
  refine pw_istn E (pc' := 2) (ls' := [some (.ref 40), some (.ref str), some (pw_i 0), none, none, none, none]) rfl rfl rfl rfl ?_
  refine pw_ld E (pc' := 3) (st' := [.ref 40]) rfl (fun _ => rfl) ?_
  refine pw_getI I E (c := 24) (k := 2) (pc' := 6) rfl rfl rfl rfl rfl rfl (fun hf1a hf1b hf1c hf1d => ?_)
  refine pw_istn E (pc' := 7) (ls' := [some (.ref 40), some (.ref str), some (pw_i 0), some (pw_i (pw_g h 24 2)), none, none, none]) rfl rfl rfl rfl ?_
  refine pw_ld E (pc' := 8) (st' := [.ref 40]) rfl (fun _ => rfl) ?_
  refine pw_getI I E (c := 24) (k := 4) (pc' := 11) rfl rfl rfl rfl rfl rfl (fun hf2a hf2b hf2c hf2d => ?_)
  refine pw_ld E (pc' := 12) (st' := [pw_i 1, pw_i (pw_g h 24 4)]) rfl (fun _ => rfl) ?_
  refine pw_if2 E (pc' := 19) rfl (by decide) (by omega) (by omega) (by decide) (by decide) ?_ ?_
  · intro hc3
    have hc3 : pw_g h 24 4 ≠ (1 : Int) := hc3
    refine pw_ld E (pc' := 20) (st' := [pw_i 0]) rfl (fun _ => rfl) ?_
    refine pw_ist E (pc' := 22) (ls' := [some (.ref 40), some (.ref str), some (pw_i 0), some (pw_i (pw_g h 24 2)), some (pw_i 0), none, none]) rfl rfl rfl rfl ?_
    refine pw_ld E (pc' := 23) (st' := [pw_i 0]) rfl (fun _ => rfl) ?_
    refine pw_ist E (pc' := 25) (ls' := [some (.ref 40), some (.ref str), some (pw_i 0), some (pw_i (pw_g h 24 2)), some (pw_i 0), some (pw_i 0), none]) rfl rfl rfl rfl ?_
    have L25 : ∀ (n25 : Nat) (k25_2 : Int) (k25_3 : Int) (k25_4 : Int) (k25_5 : Int) (k25_6 : Option Value), 0 ≤ k25_2 → k25_2 ≤ 60 → 0 ≤ k25_3 → k25_3 ≤ 1060 → 0 ≤ k25_4 → k25_4 ≤ 1 → 0 ≤ k25_5 → k25_5 ≤ 60 → k25_2 ≤ k25_5 → k25_3 ≤ 1000 + k25_5 → (60 - k25_5).toNat = n25 → pw X d h 108 25 [some (.ref 40), some (.ref str), some (pw_i k25_2), some (pw_i k25_3), some (pw_i k25_4), some (pw_i k25_5), k25_6] [] (fun h' v => h = h' ∧ ∃ a : Int, v = .inl (some (pw_i a)) ∧ (-1) ≤ a ∧ a ≤ 60) := by
      intro n25
      induction n25 using Nat.strongRecOn with
      | ind n25 ih25 =>
        intro k25_2 k25_3 k25_4 k25_5 k25_6 k25_2a k25_2b k25_3a k25_3b k25_4a k25_4b k25_5a k25_5b hx25_0 hx25_1 hm25
        refine pw_ld E (pc' := 27) (st' := [pw_i k25_5]) rfl (fun _ => rfl) ?_
        refine pw_ld E (pc' := 28) (st' := [.ref str, pw_i k25_5]) rfl (fun _ => rfl) ?_
        refine pw_slen E rfl rfl strs rfl ?_
        refine pw_if2 E (pc' := 130) rfl (by decide) (by omega) (by omega) (by omega) (by omega) ?_ ?_
        · intro hc4
          have hc4 : (strl.length : Int) ≤ k25_5 := hc4
          refine pw_ld E (pc' := 131) (st' := [pw_i ((-1))]) rfl (fun _ => rfl) ?_
          refine pw_iret E rfl ?_
          exact ⟨rfl, ⟨_, rfl, by omega, by omega⟩⟩
        · intro hc5
          have hc5 : ¬ ((strl.length : Int) ≤ k25_5) := hc5
          refine pw_ld E (pc' := 35) (st' := [.ref str]) rfl (fun _ => rfl) ?_
          refine pw_ld E (pc' := 37) (st' := [pw_i k25_5, .ref str]) rfl (fun _ => rfl) ?_
          refine pw_schr E rfl rfl strs stri strn (by omega) (by omega) rfl (fun x6 hx6a hx6b => ?_)
          refine pw_ist E (pc' := 42) (ls' := [some (.ref 40), some (.ref str), some (pw_i k25_2), some (pw_i k25_3), some (pw_i k25_4), some (pw_i k25_5), some (pw_i x6)]) rfl rfl rfl rfl ?_
          refine pw_ld E (pc' := 44) (st' := [pw_i x6]) rfl (fun _ => rfl) ?_
          refine pw_bip E (pc' := 46) rfl rfl (by decide) ?_
          refine pw_if2 E (pc' := 86) rfl (by decide) (by omega) (by omega) (by decide) (by decide) ?_ ?_
          · intro hc7
            have hc7 : x6 = (32 : Int) := hc7
            refine pw_ld E (pc' := 88) (st' := [pw_i k25_4]) rfl (fun _ => rfl) ?_
            refine pw_if E (pc' := 101) rfl (by decide) (by omega) (by omega) ?_ ?_
            · intro hc8
              have hc8 : k25_4 = (0 : Int) := hc8
              refine pw_inc E (pc' := 104) (ls' := [some (.ref 40), some (.ref str), some (pw_i (k25_2 + 1)), some (pw_i k25_3), some (pw_i k25_4), some (pw_i k25_5), some (pw_i x6)]) rfl rfl rfl rfl ?_
              refine pw_ld E (pc' := 105) (st' := [.ref 40]) rfl (fun _ => rfl) ?_
              refine pw_getI I E (c := 24) (k := 2) (pc' := 108) rfl rfl rfl rfl rfl rfl (fun hf9a hf9b hf9c hf9d => ?_)
              refine pw_istn E (pc' := 109) (ls' := [some (.ref 40), some (.ref str), some (pw_i (k25_2 + 1)), some (pw_i (pw_g h 24 2)), some (pw_i k25_4), some (pw_i k25_5), some (pw_i x6)]) rfl rfl rfl rfl ?_
              refine pw_ld E (pc' := 110) (st' := [.ref 40]) rfl (fun _ => rfl) ?_
              refine pw_getI I E (c := 24) (k := 4) (pc' := 113) rfl rfl rfl rfl rfl rfl (fun hf10a hf10b hf10c hf10d => ?_)
              refine pw_ld E (pc' := 114) (st' := [pw_i 1, pw_i (pw_g h 24 4)]) rfl (fun _ => rfl) ?_
              refine pw_if2 E (pc' := 121) rfl (by decide) (by omega) (by omega) (by decide) (by decide) ?_ ?_
              · intro hc11
                have hc11 : pw_g h 24 4 ≠ (1 : Int) := hc11
                refine pw_ld E (pc' := 122) (st' := [pw_i 0]) rfl (fun _ => rfl) ?_
                refine pw_ist E (pc' := 124) (ls' := [some (.ref 40), some (.ref str), some (pw_i (k25_2 + 1)), some (pw_i (pw_g h 24 2)), some (pw_i 0), some (pw_i k25_5), some (pw_i x6)]) rfl rfl rfl rfl ?_
                refine pw_inc E (pc' := 127) (ls' := [some (.ref 40), some (.ref str), some (pw_i (k25_2 + 1)), some (pw_i (pw_g h 24 2)), some (pw_i 0), some (pw_i (k25_5 + 1)), some (pw_i x6)]) rfl rfl rfl rfl ?_
                refine pw_goto E (pc' := 25) rfl (by decide) ?_
                exact ih25 _ (by omega) (k25_2 + 1) (pw_g h 24 2) (0) (k25_5 + 1) (some (pw_i x6))  (by omega) (by omega) (by omega) (by omega) (by omega) (by omega) (by omega) (by omega) (by omega) (by omega) rfl
              · intro hc12
                have hc12 : ¬ (pw_g h 24 4 ≠ (1 : Int)) := hc12
                refine pw_ld E (pc' := 118) (st' := [pw_i 1]) rfl (fun _ => rfl) ?_
                refine pw_goto E (pc' := 122) rfl (by decide) ?_
                refine pw_ist E (pc' := 124) (ls' := [some (.ref 40), some (.ref str), some (pw_i (k25_2 + 1)), some (pw_i (pw_g h 24 2)), some (pw_i 1), some (pw_i k25_5), some (pw_i x6)]) rfl rfl rfl rfl ?_
                refine pw_inc E (pc' := 127) (ls' := [some (.ref 40), some (.ref str), some (pw_i (k25_2 + 1)), some (pw_i (pw_g h 24 2)), some (pw_i 1), some (pw_i (k25_5 + 1)), some (pw_i x6)]) rfl rfl rfl rfl ?_
                refine pw_goto E (pc' := 25) rfl (by decide) ?_
                exact ih25 _ (by omega) (k25_2 + 1) (pw_g h 24 2) (1) (k25_5 + 1) (some (pw_i x6))  (by omega) (by omega) (by omega) (by omega) (by omega) (by omega) (by omega) (by omega) (by omega) (by omega) rfl
            · intro hc13
              have hc13 : ¬ (k25_4 = (0 : Int)) := hc13
              refine pw_ld E (pc' := 92) (st' := [pw_i k25_3]) rfl (fun _ => rfl) ?_
              refine pw_ld E (pc' := 93) (st' := [.ref 40, pw_i k25_3]) rfl (fun _ => rfl) ?_
              refine pw_getI I E (c := 24) (k := 3) (pc' := 96) rfl rfl rfl rfl rfl rfl (fun hf14a hf14b hf14c hf14d => ?_)
              refine pw_if2 E (pc' := 101) rfl (by decide) (by omega) (by omega) (by omega) (by omega) ?_ ?_
              · intro hc15
                have hc15 : k25_3 ≠ pw_g h 24 3 := hc15
                refine pw_inc E (pc' := 104) (ls' := [some (.ref 40), some (.ref str), some (pw_i (k25_2 + 1)), some (pw_i k25_3), some (pw_i k25_4), some (pw_i k25_5), some (pw_i x6)]) rfl rfl rfl rfl ?_
                refine pw_ld E (pc' := 105) (st' := [.ref 40]) rfl (fun _ => rfl) ?_
                refine pw_getI I E (c := 24) (k := 2) (pc' := 108) rfl rfl rfl rfl rfl rfl (fun hf16a hf16b hf16c hf16d => ?_)
                refine pw_istn E (pc' := 109) (ls' := [some (.ref 40), some (.ref str), some (pw_i (k25_2 + 1)), some (pw_i (pw_g h 24 2)), some (pw_i k25_4), some (pw_i k25_5), some (pw_i x6)]) rfl rfl rfl rfl ?_
                refine pw_ld E (pc' := 110) (st' := [.ref 40]) rfl (fun _ => rfl) ?_
                refine pw_getI I E (c := 24) (k := 4) (pc' := 113) rfl rfl rfl rfl rfl rfl (fun hf17a hf17b hf17c hf17d => ?_)
                refine pw_ld E (pc' := 114) (st' := [pw_i 1, pw_i (pw_g h 24 4)]) rfl (fun _ => rfl) ?_
                refine pw_if2 E (pc' := 121) rfl (by decide) (by omega) (by omega) (by decide) (by decide) ?_ ?_
                · intro hc18
                  have hc18 : pw_g h 24 4 ≠ (1 : Int) := hc18
                  refine pw_ld E (pc' := 122) (st' := [pw_i 0]) rfl (fun _ => rfl) ?_
                  refine pw_ist E (pc' := 124) (ls' := [some (.ref 40), some (.ref str), some (pw_i (k25_2 + 1)), some (pw_i (pw_g h 24 2)), some (pw_i 0), some (pw_i k25_5), some (pw_i x6)]) rfl rfl rfl rfl ?_
                  refine pw_inc E (pc' := 127) (ls' := [some (.ref 40), some (.ref str), some (pw_i (k25_2 + 1)), some (pw_i (pw_g h 24 2)), some (pw_i 0), some (pw_i (k25_5 + 1)), some (pw_i x6)]) rfl rfl rfl rfl ?_
                  refine pw_goto E (pc' := 25) rfl (by decide) ?_
                  exact ih25 _ (by omega) (k25_2 + 1) (pw_g h 24 2) (0) (k25_5 + 1) (some (pw_i x6))  (by omega) (by omega) (by omega) (by omega) (by omega) (by omega) (by omega) (by omega) (by omega) (by omega) rfl
                · intro hc19
                  have hc19 : ¬ (pw_g h 24 4 ≠ (1 : Int)) := hc19
                  refine pw_ld E (pc' := 118) (st' := [pw_i 1]) rfl (fun _ => rfl) ?_
                  refine pw_goto E (pc' := 122) rfl (by decide) ?_
                  refine pw_ist E (pc' := 124) (ls' := [some (.ref 40), some (.ref str), some (pw_i (k25_2 + 1)), some (pw_i (pw_g h 24 2)), some (pw_i 1), some (pw_i k25_5), some (pw_i x6)]) rfl rfl rfl rfl ?_
                  refine pw_inc E (pc' := 127) (ls' := [some (.ref 40), some (.ref str), some (pw_i (k25_2 + 1)), some (pw_i (pw_g h 24 2)), some (pw_i 1), some (pw_i (k25_5 + 1)), some (pw_i x6)]) rfl rfl rfl rfl ?_
                  refine pw_goto E (pc' := 25) rfl (by decide) ?_
                  exact ih25 _ (by omega) (k25_2 + 1) (pw_g h 24 2) (1) (k25_5 + 1) (some (pw_i x6))  (by omega) (by omega) (by omega) (by omega) (by omega) (by omega) (by omega) (by omega) (by omega) (by omega) rfl
              · intro hc20
                have hc20 : ¬ (k25_3 ≠ pw_g h 24 3) := hc20
                refine pw_ld E (pc' := 100) (st' := [pw_i k25_2]) rfl (fun _ => rfl) ?_
                refine pw_iret E rfl ?_
                exact ⟨rfl, ⟨_, rfl, by omega, by omega⟩⟩
          · intro hc21
            have hc21 : ¬ (x6 = (32 : Int)) := hc21
            refine pw_ld E (pc' := 51) (st' := [pw_i k25_4]) rfl (fun _ => rfl) ?_
            refine pw_if E (pc' := 77) rfl (by decide) (by omega) (by omega) ?_ ?_
            · intro hc22
              have hc22 : k25_4 = (0 : Int) := hc22
              refine pw_ld E (pc' := 78) (st' := [pw_i 0]) rfl (fun _ => rfl) ?_
              refine pw_ist E (pc' := 80) (ls' := [some (.ref 40), some (.ref str), some (pw_i k25_2), some (pw_i k25_3), some (pw_i 0), some (pw_i k25_5), some (pw_i x6)]) rfl rfl rfl rfl ?_
              refine pw_inc E (pc' := 83) (ls' := [some (.ref 40), some (.ref str), some (pw_i k25_2), some (pw_i (k25_3 + 1)), some (pw_i 0), some (pw_i k25_5), some (pw_i x6)]) rfl rfl rfl rfl ?_
              refine pw_goto E (pc' := 124) rfl (by decide) ?_
              refine pw_inc E (pc' := 127) (ls' := [some (.ref 40), some (.ref str), some (pw_i k25_2), some (pw_i (k25_3 + 1)), some (pw_i 0), some (pw_i (k25_5 + 1)), some (pw_i x6)]) rfl rfl rfl rfl ?_
              refine pw_goto E (pc' := 25) rfl (by decide) ?_
              exact ih25 _ (by omega) (k25_2) (k25_3 + 1) (0) (k25_5 + 1) (some (pw_i x6))  (by omega) (by omega) (by omega) (by omega) (by omega) (by omega) (by omega) (by omega) (by omega) (by omega) rfl
            · intro hc23
              have hc23 : ¬ (k25_4 = (0 : Int)) := hc23
              refine pw_ld E (pc' := 55) (st' := [pw_i k25_3]) rfl (fun _ => rfl) ?_
              refine pw_ld E (pc' := 56) (st' := [.ref 40, pw_i k25_3]) rfl (fun _ => rfl) ?_
              refine pw_getI I E (c := 24) (k := 3) (pc' := 59) rfl rfl rfl rfl rfl rfl (fun hf24a hf24b hf24c hf24d => ?_)
              refine pw_if2 E (pc' := 77) rfl (by decide) (by omega) (by omega) (by omega) (by omega) ?_ ?_
              · intro hc25
                have hc25 : pw_g h 24 3 ≤ k25_3 := hc25
                refine pw_ld E (pc' := 78) (st' := [pw_i 0]) rfl (fun _ => rfl) ?_
                refine pw_ist E (pc' := 80) (ls' := [some (.ref 40), some (.ref str), some (pw_i k25_2), some (pw_i k25_3), some (pw_i 0), some (pw_i k25_5), some (pw_i x6)]) rfl rfl rfl rfl ?_
                refine pw_inc E (pc' := 83) (ls' := [some (.ref 40), some (.ref str), some (pw_i k25_2), some (pw_i (k25_3 + 1)), some (pw_i 0), some (pw_i k25_5), some (pw_i x6)]) rfl rfl rfl rfl ?_
                refine pw_goto E (pc' := 124) rfl (by decide) ?_
                refine pw_inc E (pc' := 127) (ls' := [some (.ref 40), some (.ref str), some (pw_i k25_2), some (pw_i (k25_3 + 1)), some (pw_i 0), some (pw_i (k25_5 + 1)), some (pw_i x6)]) rfl rfl rfl rfl ?_
                refine pw_goto E (pc' := 25) rfl (by decide) ?_
                exact ih25 _ (by omega) (k25_2) (k25_3 + 1) (0) (k25_5 + 1) (some (pw_i x6))  (by omega) (by omega) (by omega) (by omega) (by omega) (by omega) (by omega) (by omega) (by omega) (by omega) rfl
              · intro hc26
                have hc26 : ¬ (pw_g h 24 3 ≤ k25_3) := hc26
                refine pw_ld E (pc' := 63) (st' := [.ref 40]) rfl (fun _ => rfl) ?_
                refine pw_getR (b := 41) I E (c := 24) (k := 0) (pc' := 66) rfl rfl rfl rfl rfl rfl rfl ?_
                refine pw_ld E (pc' := 67) (st' := [pw_i k25_3, .ref 41]) rfl (fun _ => rfl) ?_
                refine pw_ald I E (c := 25) (pc' := 68) rfl rfl rfl (by decide) rfl (by decide) (by omega) (by omega) rfl (fun hf27a hf27b hf27c hf27d => ?_)
                refine pw_ld E (pc' := 70) (st' := [pw_i x6, pw_i (pw_g h 25 (k25_3.toNat))]) rfl (fun _ => rfl) ?_
                refine pw_if2 E (pc' := 77) rfl (by decide) (by omega) (by omega) (by omega) (by omega) ?_ ?_
                · intro hc28
                  have hc28 : pw_g h 25 (k25_3.toNat) ≠ x6 := hc28
                  refine pw_ld E (pc' := 78) (st' := [pw_i 0]) rfl (fun _ => rfl) ?_
                  refine pw_ist E (pc' := 80) (ls' := [some (.ref 40), some (.ref str), some (pw_i k25_2), some (pw_i k25_3), some (pw_i 0), some (pw_i k25_5), some (pw_i x6)]) rfl rfl rfl rfl ?_
                  refine pw_inc E (pc' := 83) (ls' := [some (.ref 40), some (.ref str), some (pw_i k25_2), some (pw_i (k25_3 + 1)), some (pw_i 0), some (pw_i k25_5), some (pw_i x6)]) rfl rfl rfl rfl ?_
                  refine pw_goto E (pc' := 124) rfl (by decide) ?_
                  refine pw_inc E (pc' := 127) (ls' := [some (.ref 40), some (.ref str), some (pw_i k25_2), some (pw_i (k25_3 + 1)), some (pw_i 0), some (pw_i (k25_5 + 1)), some (pw_i x6)]) rfl rfl rfl rfl ?_
                  refine pw_goto E (pc' := 25) rfl (by decide) ?_
                  exact ih25 _ (by omega) (k25_2) (k25_3 + 1) (0) (k25_5 + 1) (some (pw_i x6))  (by omega) (by omega) (by omega) (by omega) (by omega) (by omega) (by omega) (by omega) (by omega) (by omega) rfl
                · intro hc29
                  have hc29 : ¬ (pw_g h 25 (k25_3.toNat) ≠ x6) := hc29
                  refine pw_ld E (pc' := 74) (st' := [pw_i 1]) rfl (fun _ => rfl) ?_
                  refine pw_goto E (pc' := 78) rfl (by decide) ?_
                  refine pw_ist E (pc' := 80) (ls' := [some (.ref 40), some (.ref str), some (pw_i k25_2), some (pw_i k25_3), some (pw_i 1), some (pw_i k25_5), some (pw_i x6)]) rfl rfl rfl rfl ?_
                  refine pw_inc E (pc' := 83) (ls' := [some (.ref 40), some (.ref str), some (pw_i k25_2), some (pw_i (k25_3 + 1)), some (pw_i 1), some (pw_i k25_5), some (pw_i x6)]) rfl rfl rfl rfl ?_
                  refine pw_goto E (pc' := 124) rfl (by decide) ?_
                  refine pw_inc E (pc' := 127) (ls' := [some (.ref 40), some (.ref str), some (pw_i k25_2), some (pw_i (k25_3 + 1)), some (pw_i 1), some (pw_i (k25_5 + 1)), some (pw_i x6)]) rfl rfl rfl rfl ?_
                  refine pw_goto E (pc' := 25) rfl (by decide) ?_
                  exact ih25 _ (by omega) (k25_2) (k25_3 + 1) (1) (k25_5 + 1) (some (pw_i x6))  (by omega) (by omega) (by omega) (by omega) (by omega) (by omega) (by omega) (by omega) (by omega) (by omega) rfl
    exact L25 _ (0) (pw_g h 24 2) (0) (0) (none)  (by omega) (by omega) (by omega) (by omega) (by omega) (by omega) (by omega) (by omega) (by omega) (by omega) rfl
  · intro hc30
    have hc30 : ¬ (pw_g h 24 4 ≠ (1 : Int)) := hc30
    refine pw_ld E (pc' := 16) (st' := [pw_i 1]) rfl (fun _ => rfl) ?_
    refine pw_goto E (pc' := 20) rfl (by decide) ?_
    refine pw_ist E (pc' := 22) (ls' := [some (.ref 40), some (.ref str), some (pw_i 0), some (pw_i (pw_g h 24 2)), some (pw_i 1), none, none]) rfl rfl rfl rfl ?_
    refine pw_ld E (pc' := 23) (st' := [pw_i 0]) rfl (fun _ => rfl) ?_
    refine pw_ist E (pc' := 25) (ls' := [some (.ref 40), some (.ref str), some (pw_i 0), some (pw_i (pw_g h 24 2)), some (pw_i 1), some (pw_i 0), none]) rfl rfl rfl rfl ?_
    have L25 : ∀ (n25 : Nat) (k25_2 : Int) (k25_3 : Int) (k25_4 : Int) (k25_5 : Int) (k25_6 : Option Value), 0 ≤ k25_2 → k25_2 ≤ 60 → 0 ≤ k25_3 → k25_3 ≤ 1060 → 0 ≤ k25_4 → k25_4 ≤ 1 → 0 ≤ k25_5 → k25_5 ≤ 60 → k25_2 ≤ k25_5 → k25_3 ≤ 1000 + k25_5 → (60 - k25_5).toNat = n25 → pw X d h 108 25 [some (.ref 40), some (.ref str), some (pw_i k25_2), some (pw_i k25_3), some (pw_i k25_4), some (pw_i k25_5), k25_6] [] (fun h' v => h = h' ∧ ∃ a : Int, v = .inl (some (pw_i a)) ∧ (-1) ≤ a ∧ a ≤ 60) := by
      intro n25
      induction n25 using Nat.strongRecOn with
      | ind n25 ih25 =>
        intro k25_2 k25_3 k25_4 k25_5 k25_6 k25_2a k25_2b k25_3a k25_3b k25_4a k25_4b k25_5a k25_5b hx25_0 hx25_1 hm25
        refine pw_ld E (pc' := 27) (st' := [pw_i k25_5]) rfl (fun _ => rfl) ?_
        refine pw_ld E (pc' := 28) (st' := [.ref str, pw_i k25_5]) rfl (fun _ => rfl) ?_
        refine pw_slen E rfl rfl strs rfl ?_
        refine pw_if2 E (pc' := 130) rfl (by decide) (by omega) (by omega) (by omega) (by omega) ?_ ?_
        · intro hc31
          have hc31 : (strl.length : Int) ≤ k25_5 := hc31
          refine pw_ld E (pc' := 131) (st' := [pw_i ((-1))]) rfl (fun _ => rfl) ?_
          refine pw_iret E rfl ?_
          exact ⟨rfl, ⟨_, rfl, by omega, by omega⟩⟩
        · intro hc32
          have hc32 : ¬ ((strl.length : Int) ≤ k25_5) := hc32
          refine pw_ld E (pc' := 35) (st' := [.ref str]) rfl (fun _ => rfl) ?_
          refine pw_ld E (pc' := 37) (st' := [pw_i k25_5, .ref str]) rfl (fun _ => rfl) ?_
          refine pw_schr E rfl rfl strs stri strn (by omega) (by omega) rfl (fun x33 hx33a hx33b => ?_)
          refine pw_ist E (pc' := 42) (ls' := [some (.ref 40), some (.ref str), some (pw_i k25_2), some (pw_i k25_3), some (pw_i k25_4), some (pw_i k25_5), some (pw_i x33)]) rfl rfl rfl rfl ?_
          refine pw_ld E (pc' := 44) (st' := [pw_i x33]) rfl (fun _ => rfl) ?_
          refine pw_bip E (pc' := 46) rfl rfl (by decide) ?_
          refine pw_if2 E (pc' := 86) rfl (by decide) (by omega) (by omega) (by decide) (by decide) ?_ ?_
          · intro hc34
            have hc34 : x33 = (32 : Int) := hc34
            refine pw_ld E (pc' := 88) (st' := [pw_i k25_4]) rfl (fun _ => rfl) ?_
            refine pw_if E (pc' := 101) rfl (by decide) (by omega) (by omega) ?_ ?_
            · intro hc35
              have hc35 : k25_4 = (0 : Int) := hc35
              refine pw_inc E (pc' := 104) (ls' := [some (.ref 40), some (.ref str), some (pw_i (k25_2 + 1)), some (pw_i k25_3), some (pw_i k25_4), some (pw_i k25_5), some (pw_i x33)]) rfl rfl rfl rfl ?_
              refine pw_ld E (pc' := 105) (st' := [.ref 40]) rfl (fun _ => rfl) ?_
              refine pw_getI I E (c := 24) (k := 2) (pc' := 108) rfl rfl rfl rfl rfl rfl (fun hf36a hf36b hf36c hf36d => ?_)
              refine pw_istn E (pc' := 109) (ls' := [some (.ref 40), some (.ref str), some (pw_i (k25_2 + 1)), some (pw_i (pw_g h 24 2)), some (pw_i k25_4), some (pw_i k25_5), some (pw_i x33)]) rfl rfl rfl rfl ?_
              refine pw_ld E (pc' := 110) (st' := [.ref 40]) rfl (fun _ => rfl) ?_
              refine pw_getI I E (c := 24) (k := 4) (pc' := 113) rfl rfl rfl rfl rfl rfl (fun hf37a hf37b hf37c hf37d => ?_)
              refine pw_ld E (pc' := 114) (st' := [pw_i 1, pw_i (pw_g h 24 4)]) rfl (fun _ => rfl) ?_
              refine pw_if2 E (pc' := 121) rfl (by decide) (by omega) (by omega) (by decide) (by decide) ?_ ?_
              · intro hc38
                have hc38 : pw_g h 24 4 ≠ (1 : Int) := hc38
                exfalso; omega
              · intro hc39
                have hc39 : ¬ (pw_g h 24 4 ≠ (1 : Int)) := hc39
                refine pw_ld E (pc' := 118) (st' := [pw_i 1]) rfl (fun _ => rfl) ?_
                refine pw_goto E (pc' := 122) rfl (by decide) ?_
                refine pw_ist E (pc' := 124) (ls' := [some (.ref 40), some (.ref str), some (pw_i (k25_2 + 1)), some (pw_i (pw_g h 24 2)), some (pw_i 1), some (pw_i k25_5), some (pw_i x33)]) rfl rfl rfl rfl ?_
                refine pw_inc E (pc' := 127) (ls' := [some (.ref 40), some (.ref str), some (pw_i (k25_2 + 1)), some (pw_i (pw_g h 24 2)), some (pw_i 1), some (pw_i (k25_5 + 1)), some (pw_i x33)]) rfl rfl rfl rfl ?_
                refine pw_goto E (pc' := 25) rfl (by decide) ?_
                exact ih25 _ (by omega) (k25_2 + 1) (pw_g h 24 2) (1) (k25_5 + 1) (some (pw_i x33))  (by omega) (by omega) (by omega) (by omega) (by omega) (by omega) (by omega) (by omega) (by omega) (by omega) rfl
            · intro hc40
              have hc40 : ¬ (k25_4 = (0 : Int)) := hc40
              refine pw_ld E (pc' := 92) (st' := [pw_i k25_3]) rfl (fun _ => rfl) ?_
              refine pw_ld E (pc' := 93) (st' := [.ref 40, pw_i k25_3]) rfl (fun _ => rfl) ?_
              refine pw_getI I E (c := 24) (k := 3) (pc' := 96) rfl rfl rfl rfl rfl rfl (fun hf41a hf41b hf41c hf41d => ?_)
              refine pw_if2 E (pc' := 101) rfl (by decide) (by omega) (by omega) (by omega) (by omega) ?_ ?_
              · intro hc42
                have hc42 : k25_3 ≠ pw_g h 24 3 := hc42
                refine pw_inc E (pc' := 104) (ls' := [some (.ref 40), some (.ref str), some (pw_i (k25_2 + 1)), some (pw_i k25_3), some (pw_i k25_4), some (pw_i k25_5), some (pw_i x33)]) rfl rfl rfl rfl ?_
                refine pw_ld E (pc' := 105) (st' := [.ref 40]) rfl (fun _ => rfl) ?_
                refine pw_getI I E (c := 24) (k := 2) (pc' := 108) rfl rfl rfl rfl rfl rfl (fun hf43a hf43b hf43c hf43d => ?_)
                refine pw_istn E (pc' := 109) (ls' := [some (.ref 40), some (.ref str), some (pw_i (k25_2 + 1)), some (pw_i (pw_g h 24 2)), some (pw_i k25_4), some (pw_i k25_5), some (pw_i x33)]) rfl rfl rfl rfl ?_
                refine pw_ld E (pc' := 110) (st' := [.ref 40]) rfl (fun _ => rfl) ?_
                refine pw_getI I E (c := 24) (k := 4) (pc' := 113) rfl rfl rfl rfl rfl rfl (fun hf44a hf44b hf44c hf44d => ?_)
                refine pw_ld E (pc' := 114) (st' := [pw_i 1, pw_i (pw_g h 24 4)]) rfl (fun _ => rfl) ?_
                refine pw_if2 E (pc' := 121) rfl (by decide) (by omega) (by omega) (by decide) (by decide) ?_ ?_
                · intro hc45
                  have hc45 : pw_g h 24 4 ≠ (1 : Int) := hc45
                  exfalso; omega
                · intro hc46
                  have hc46 : ¬ (pw_g h 24 4 ≠ (1 : Int)) := hc46
                  refine pw_ld E (pc' := 118) (st' := [pw_i 1]) rfl (fun _ => rfl) ?_
                  refine pw_goto E (pc' := 122) rfl (by decide) ?_
                  refine pw_ist E (pc' := 124) (ls' := [some (.ref 40), some (.ref str), some (pw_i (k25_2 + 1)), some (pw_i (pw_g h 24 2)), some (pw_i 1), some (pw_i k25_5), some (pw_i x33)]) rfl rfl rfl rfl ?_
                  refine pw_inc E (pc' := 127) (ls' := [some (.ref 40), some (.ref str), some (pw_i (k25_2 + 1)), some (pw_i (pw_g h 24 2)), some (pw_i 1), some (pw_i (k25_5 + 1)), some (pw_i x33)]) rfl rfl rfl rfl ?_
                  refine pw_goto E (pc' := 25) rfl (by decide) ?_
                  exact ih25 _ (by omega) (k25_2 + 1) (pw_g h 24 2) (1) (k25_5 + 1) (some (pw_i x33))  (by omega) (by omega) (by omega) (by omega) (by omega) (by omega) (by omega) (by omega) (by omega) (by omega) rfl
              · intro hc47
                have hc47 : ¬ (k25_3 ≠ pw_g h 24 3) := hc47
                refine pw_ld E (pc' := 100) (st' := [pw_i k25_2]) rfl (fun _ => rfl) ?_
                refine pw_iret E rfl ?_
                exact ⟨rfl, ⟨_, rfl, by omega, by omega⟩⟩
          · intro hc48
            have hc48 : ¬ (x33 = (32 : Int)) := hc48
            refine pw_ld E (pc' := 51) (st' := [pw_i k25_4]) rfl (fun _ => rfl) ?_
            refine pw_if E (pc' := 77) rfl (by decide) (by omega) (by omega) ?_ ?_
            · intro hc49
              have hc49 : k25_4 = (0 : Int) := hc49
              refine pw_ld E (pc' := 78) (st' := [pw_i 0]) rfl (fun _ => rfl) ?_
              refine pw_ist E (pc' := 80) (ls' := [some (.ref 40), some (.ref str), some (pw_i k25_2), some (pw_i k25_3), some (pw_i 0), some (pw_i k25_5), some (pw_i x33)]) rfl rfl rfl rfl ?_
              refine pw_inc E (pc' := 83) (ls' := [some (.ref 40), some (.ref str), some (pw_i k25_2), some (pw_i (k25_3 + 1)), some (pw_i 0), some (pw_i k25_5), some (pw_i x33)]) rfl rfl rfl rfl ?_
              refine pw_goto E (pc' := 124) rfl (by decide) ?_
              refine pw_inc E (pc' := 127) (ls' := [some (.ref 40), some (.ref str), some (pw_i k25_2), some (pw_i (k25_3 + 1)), some (pw_i 0), some (pw_i (k25_5 + 1)), some (pw_i x33)]) rfl rfl rfl rfl ?_
              refine pw_goto E (pc' := 25) rfl (by decide) ?_
              exact ih25 _ (by omega) (k25_2) (k25_3 + 1) (0) (k25_5 + 1) (some (pw_i x33))  (by omega) (by omega) (by omega) (by omega) (by omega) (by omega) (by omega) (by omega) (by omega) (by omega) rfl
            · intro hc50
              have hc50 : ¬ (k25_4 = (0 : Int)) := hc50
              refine pw_ld E (pc' := 55) (st' := [pw_i k25_3]) rfl (fun _ => rfl) ?_
              refine pw_ld E (pc' := 56) (st' := [.ref 40, pw_i k25_3]) rfl (fun _ => rfl) ?_
              refine pw_getI I E (c := 24) (k := 3) (pc' := 59) rfl rfl rfl rfl rfl rfl (fun hf51a hf51b hf51c hf51d => ?_)
              refine pw_if2 E (pc' := 77) rfl (by decide) (by omega) (by omega) (by omega) (by omega) ?_ ?_
              · intro hc52
                have hc52 : pw_g h 24 3 ≤ k25_3 := hc52
                refine pw_ld E (pc' := 78) (st' := [pw_i 0]) rfl (fun _ => rfl) ?_
                refine pw_ist E (pc' := 80) (ls' := [some (.ref 40), some (.ref str), some (pw_i k25_2), some (pw_i k25_3), some (pw_i 0), some (pw_i k25_5), some (pw_i x33)]) rfl rfl rfl rfl ?_
                refine pw_inc E (pc' := 83) (ls' := [some (.ref 40), some (.ref str), some (pw_i k25_2), some (pw_i (k25_3 + 1)), some (pw_i 0), some (pw_i k25_5), some (pw_i x33)]) rfl rfl rfl rfl ?_
                refine pw_goto E (pc' := 124) rfl (by decide) ?_
                refine pw_inc E (pc' := 127) (ls' := [some (.ref 40), some (.ref str), some (pw_i k25_2), some (pw_i (k25_3 + 1)), some (pw_i 0), some (pw_i (k25_5 + 1)), some (pw_i x33)]) rfl rfl rfl rfl ?_
                refine pw_goto E (pc' := 25) rfl (by decide) ?_
                exact ih25 _ (by omega) (k25_2) (k25_3 + 1) (0) (k25_5 + 1) (some (pw_i x33))  (by omega) (by omega) (by omega) (by omega) (by omega) (by omega) (by omega) (by omega) (by omega) (by omega) rfl
              · intro hc53
                have hc53 : ¬ (pw_g h 24 3 ≤ k25_3) := hc53
                refine pw_ld E (pc' := 63) (st' := [.ref 40]) rfl (fun _ => rfl) ?_
                refine pw_getR (b := 41) I E (c := 24) (k := 0) (pc' := 66) rfl rfl rfl rfl rfl rfl rfl ?_
                refine pw_ld E (pc' := 67) (st' := [pw_i k25_3, .ref 41]) rfl (fun _ => rfl) ?_
                refine pw_ald I E (c := 25) (pc' := 68) rfl rfl rfl (by decide) rfl (by decide) (by omega) (by omega) rfl (fun hf54a hf54b hf54c hf54d => ?_)
                refine pw_ld E (pc' := 70) (st' := [pw_i x33, pw_i (pw_g h 25 (k25_3.toNat))]) rfl (fun _ => rfl) ?_
                refine pw_if2 E (pc' := 77) rfl (by decide) (by omega) (by omega) (by omega) (by omega) ?_ ?_
                · intro hc55
                  have hc55 : pw_g h 25 (k25_3.toNat) ≠ x33 := hc55
                  refine pw_ld E (pc' := 78) (st' := [pw_i 0]) rfl (fun _ => rfl) ?_
                  refine pw_ist E (pc' := 80) (ls' := [some (.ref 40), some (.ref str), some (pw_i k25_2), some (pw_i k25_3), some (pw_i 0), some (pw_i k25_5), some (pw_i x33)]) rfl rfl rfl rfl ?_
                  refine pw_inc E (pc' := 83) (ls' := [some (.ref 40), some (.ref str), some (pw_i k25_2), some (pw_i (k25_3 + 1)), some (pw_i 0), some (pw_i k25_5), some (pw_i x33)]) rfl rfl rfl rfl ?_
                  refine pw_goto E (pc' := 124) rfl (by decide) ?_
                  refine pw_inc E (pc' := 127) (ls' := [some (.ref 40), some (.ref str), some (pw_i k25_2), some (pw_i (k25_3 + 1)), some (pw_i 0), some (pw_i (k25_5 + 1)), some (pw_i x33)]) rfl rfl rfl rfl ?_
                  refine pw_goto E (pc' := 25) rfl (by decide) ?_
                  exact ih25 _ (by omega) (k25_2) (k25_3 + 1) (0) (k25_5 + 1) (some (pw_i x33))  (by omega) (by omega) (by omega) (by omega) (by omega) (by omega) (by omega) (by omega) (by omega) (by omega) rfl
                · intro hc56
                  have hc56 : ¬ (pw_g h 25 (k25_3.toNat) ≠ x33) := hc56
                  refine pw_ld E (pc' := 74) (st' := [pw_i 1]) rfl (fun _ => rfl) ?_
                  refine pw_goto E (pc' := 78) rfl (by decide) ?_
                  refine pw_ist E (pc' := 80) (ls' := [some (.ref 40), some (.ref str), some (pw_i k25_2), some (pw_i k25_3), some (pw_i 1), some (pw_i k25_5), some (pw_i x33)]) rfl rfl rfl rfl ?_
                  refine pw_inc E (pc' := 83) (ls' := [some (.ref 40), some (.ref str), some (pw_i k25_2), some (pw_i (k25_3 + 1)), some (pw_i 1), some (pw_i k25_5), some (pw_i x33)]) rfl rfl rfl rfl ?_
                  refine pw_goto E (pc' := 124) rfl (by decide) ?_
                  refine pw_inc E (pc' := 127) (ls' := [some (.ref 40), some (.ref str), some (pw_i k25_2), some (pw_i (k25_3 + 1)), some (pw_i 1), some (pw_i (k25_5 + 1)), some (pw_i x33)]) rfl rfl rfl rfl ?_
                  refine pw_goto E (pc' := 25) rfl (by decide) ?_
                  exact ih25 _ (by omega) (k25_2) (k25_3 + 1) (1) (k25_5 + 1) (some (pw_i x33))  (by omega) (by omega) (by omega) (by omega) (by omega) (by omega) (by omega) (by omega) (by omega) (by omega) rfl
    exact L25 _ (0) (pw_g h 24 2) (1) (0) (none)  (by omega) (by omega) (by omega) (by omega) (by omega) (by omega) (by omega) (by omega) (by omega) (by omega) rfl
