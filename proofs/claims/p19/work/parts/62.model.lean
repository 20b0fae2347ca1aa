/-! contracts (printed by wip/tool/pwspec.py) -/
set_option maxHeartbeats 4000000 in
theorem cm_222 {X : List (Nat × List Value)} {d : Nat} {h : pm_H} (hd : 2 ≤ d) (I : pw_I h) (wt : Int) (hwt1 : (-2147483648) ≤ wt) (hwt2 : wt ≤ 2147483647) (hp0 : 1 ≤ pw_gm h 125 25) : pw X d h 222 0 [some (.ref 141), some (pw_i wt), none, none] [] (fun h' v => h = h' ∧ ∃ w : Int64, v = .inl (some (.long w))) := by
  have E : pm_ent 222 = some (2, 4, 12, 2, pmc_222) := rfl
  refine pw_ld E (pc' := 1) (st' := [.ref 141]) rfl (fun _ => rfl) ?_
  refine pw_getL I E (c := 125) (k := 24) (pc' := 4) rfl rfl rfl rfl rfl rfl ?_
  refine pw_ld E (pc' := 5) (st' := [.ref 141, .long (pw_gl h 125 24)]) rfl (fun _ => rfl) ?_
  refine pw_getM I E (c := 125) (k := 25) (pc' := 8) rfl rfl rfl rfl rfl rfl (fun hf1a hf1b => ?_)
  refine pw_call (m' := 223) (As := [.long (pw_gl h 125 24), .long (Int64.ofInt (pw_gm h 125 25))]) (rest := []) (ls'' := [some (.long (pw_gl h 125 24)), none, some (.long (Int64.ofInt (pw_gm h 125 25))), none, none, none, none, none, none, none]) (Nat.le_trans (by decide) hd) E rfl (fun _ => pw_iS rfl rfl rfl) (rfl : pm_ent 223 = some (2, 10, 12, 2, pmc_223)) rfl rfl (cm_223 (pw_dp hd (by decide)) I (pw_gl h 125 24) (Int64.ofInt (pw_gm h 125 25)) (pw_l0 (by omega) (by omega) (by omega))) ?_
  rintro u3 v2 ⟨rfl, w4, rfl, hw4r⟩
  refine ⟨_, rfl, ?_⟩
  show pw X d h 222 11 [some (.ref 141), some (pw_i wt), none, none] [.long w4] _
  refine pw_lstn E (pc' := 12) (ls' := [some (.ref 141), some (pw_i wt), some (.long w4), none]) rfl rfl rfl rfl ?_
  refine pw_ld E (pc' := 13) (st' := [pw_i wt]) rfl (fun _ => rfl) ?_
  refine pw_if E (pc' := 25) rfl (by decide) (by omega) (by omega) ?_ ?_
  · intro hc5
    change wt ≠ (0 : Int) at hc5
    refine pw_ld E (pc' := 26) (st' := [.ref 141]) rfl (fun _ => rfl) ?_
    refine pw_getM I E (c := 125) (k := 25) (pc' := 29) rfl rfl rfl rfl rfl rfl (fun hf6a hf6b => ?_)
    refine pw_ld E (pc' := 30) (st' := [.long w4, .long (Int64.ofInt (pw_gm h 125 25))]) rfl (fun _ => rfl) ?_
    refine pw_ldivA E (pc' := 31) rfl rfl rfl hw4r ?_
    refine pw_lret E rfl ?_
    exact ⟨rfl, ⟨_, rfl⟩⟩
  · intro hc8
    change ¬ (wt ≠ (0 : Int)) at hc8
    refine pw_ld E (pc' := 17) (st' := [.ref 141]) rfl (fun _ => rfl) ?_
    refine pw_getL I E (c := 125) (k := 24) (pc' := 20) rfl rfl rfl rfl rfl rfl ?_
    refine pw_ld E (pc' := 21) (st' := [.long w4, .long (pw_gl h 125 24)]) rfl (fun _ => rfl) ?_
    refine pw_ldivA E (pc' := 22) rfl rfl rfl hw4r ?_
    refine pw_goto E (pc' := 31) rfl (by decide) ?_
    refine pw_lret E rfl ?_
    exact ⟨rfl, ⟨_, rfl⟩⟩
set_option maxHeartbeats 4000000 in
theorem cm_218 {X : List (Nat × List Value)} {d : Nat} {h : pm_H} (hd : 4 ≤ d) (I : pw_I h) (b : Int) (hb1 : 0 ≤ b) (hb2 : b ≤ 11) (e : Int) (he1 : 0 ≤ e) (he2 : e ≤ 11) (wo : Int) (hwo1 : (-2147483648) ≤ wo) (hwo2 : wo ≤ 2147483647) : pw X d h 218 0 [some (.ref 141), some (pw_i b), some (pw_i e), some (pw_i wo), none] [] (fun h' v => pw_I h' ∧ pw_E [125] h h' ∧ ∃ a : Int, v = .inl (some (pw_i a)) ∧ 0 ≤ a ∧ a ≤ 1 ∧ ((a = 1 ∧ 1 ≤ pw_gm h' 125 25 ∧ pw_gm h' 125 25 ≤ 576) ∨ a = 0)) := by
  have E : pm_ent 218 = some (4, 5, 12, 1, pmc_218) := rfl
  have E0 : pw_E [125] h h := pw_E.rf _ _
  refine pw_ld E (pc' := 1) (st' := [.ref 141]) rfl (fun _ => rfl) ?_
  obtain ⟨f1l, f1h, -⟩ := pw_obj (c := 125) I rfl
  refine pw_call (m' := 219) (As := [.ref 141]) (rest := []) (ls'' := [some (.ref 141)]) (Nat.le_trans (by decide) hd) E rfl (fun _ => pw_iV rfl rfl rfl rfl (pw_cellI f1h rfl)) (rfl : pm_ent 219 = some (1, 1, 12, 4, pmc_219)) rfl rfl (cm_219 (pw_dp hd (by decide)) I ) ?_
  rintro h2 v3 ⟨h2I, h2E, hq4, rfl⟩
  refine ⟨_, rfl, ?_⟩
  have h2F := E0.tr (h2E.wk (W' := [125]) (by first | rfl | simp))
  show pw X d h2 218 4 [some (.ref 141), some (pw_i b), some (pw_i e), some (pw_i wo), none] [] _
  refine pw_ld E (pc' := 5) (st' := [pw_i 0]) rfl (fun _ => rfl) ?_
  refine pw_ist E (pc' := 7) (ls' := [some (.ref 141), some (pw_i b), some (pw_i e), some (pw_i wo), some (pw_i 0)]) rfl rfl rfl rfl ?_
  have L7 : ∀ (n7 : Nat) (k7_4 : Int) (gh7 : pm_H), pw_I gh7 → pw_E [125] h gh7 → 0 ≤ k7_4 → k7_4 ≤ 24 → pw_gm gh7 125 27 + pw_gm gh7 125 29 ≤ k7_4 → 0 ≤ pw_gm gh7 125 27 → 0 ≤ pw_gm gh7 125 29 → (24 - k7_4).toNat = n7 → pw X d gh7 218 7 [some (.ref 141), some (pw_i b), some (pw_i e), some (pw_i wo), some (pw_i k7_4)] [] (fun h' v => pw_I h' ∧ pw_E [125] h h' ∧ ∃ a : Int, v = .inl (some (pw_i a)) ∧ 0 ≤ a ∧ a ≤ 1 ∧ ((a = 1 ∧ 1 ≤ pw_gm h' 125 25 ∧ pw_gm h' 125 25 ≤ 576) ∨ a = 0)) := by
    intro n7
    induction n7 using Nat.strongRecOn with
    | ind n7 ih7 =>
      intro k7_4 gh7 I7 E7 k7_4a k7_4b hx7_0 hx7_1 hx7_2 hm7
      refine pw_ld E (pc' := 9) (st' := [pw_i k7_4]) rfl (fun _ => rfl) ?_
      refine pw_bip E (pc' := 11) rfl rfl (by decide) ?_
      refine pw_if2 E (pc' := 65) rfl (by decide) (by omega) (by omega) (by decide) (by decide) ?_ ?_
      · intro hc5
        change (24 : Int) ≤ k7_4 at hc5
        refine pw_ld E (pc' := 66) (st' := [.ref 141]) rfl (fun _ => rfl) ?_
        obtain ⟨f6l, f6h, -⟩ := pw_obj (c := 125) I7 rfl
        refine pw_call (m' := 221) (As := [.ref 141]) (rest := []) (ls'' := [some (.ref 141)]) (Nat.le_trans (by decide) hd) E rfl (fun _ => pw_iV rfl rfl rfl rfl (pw_cellI f6h rfl)) (rfl : pm_ent 221 = some (1, 1, 12, 1, pmc_221)) rfl rfl (cm_221 (pw_dp hd (by decide)) I7 ) ?_
        rintro h7 v8 ⟨h7I, h7E, x9, rfl, hx9a, hx9b, hx9r⟩
        refine ⟨_, rfl, ?_⟩
        have h7F := E7.tr (h7E.wk (W' := [125]) (by first | rfl | simp))
        show pw X d h7 218 69 [some (.ref 141), some (pw_i b), some (pw_i e), some (pw_i wo), some (pw_i k7_4)] [pw_i x9] _
        change (x9 = 1 ∧ 1 ≤ pw_gm h7 125 25 ∧ pw_gm h7 125 25 ≤ 576) ∨ x9 = 0 at hx9r
        refine pw_zret E rfl (by omega) ?_
        exact ⟨h7I, h7F, ⟨_, rfl, by omega, by omega, by omega⟩⟩
      · intro hc10
        change ¬ ((24 : Int) ≤ k7_4) at hc10
        refine pw_ld E (pc' := 16) (st' := [pw_i k7_4]) rfl (fun _ => rfl) ?_
        refine pw_ld E (pc' := 17) (st' := [pw_i wo, pw_i k7_4]) rfl (fun _ => rfl) ?_
        refine pw_if2 E (pc' := 59) rfl (by decide) (by omega) (by omega) (by omega) (by omega) ?_ ?_
        · intro hc11
          change k7_4 = wo at hc11
          refine pw_inc E (pc' := 62) (ls' := [some (.ref 141), some (pw_i b), some (pw_i e), some (pw_i wo), some (pw_i (k7_4 + 1))]) rfl rfl rfl rfl ?_
          refine pw_goto E (pc' := 7) rfl (by decide) ?_
          exact ih7 _ (by omega) (k7_4 + 1) gh7 I7 E7 (by omega) (by omega) (by omega) (by omega) (by omega) rfl
        · intro hc12
          change ¬ (k7_4 = wo) at hc12
          refine pw_ld E (pc' := 21) (st' := [.ref 141]) rfl (fun _ => rfl) ?_
          refine pw_ld E (pc' := 23) (st' := [pw_i k7_4, .ref 141]) rfl (fun _ => rfl) ?_
          refine pw_ld E (pc' := 24) (st' := [pw_i b, pw_i k7_4, .ref 141]) rfl (fun _ => rfl) ?_
          refine pw_ld E (pc' := 25) (st' := [pw_i e, pw_i b, pw_i k7_4, .ref 141]) rfl (fun _ => rfl) ?_
          obtain ⟨f13l, f13h, -⟩ := pw_obj (c := 125) I7 rfl
          refine pw_call (m' := 214) (As := [.ref 141, pw_i k7_4, pw_i b, pw_i e]) (rest := []) (ls'' := [some (.ref 141), some (pw_i k7_4), some (pw_i b), some (pw_i e)]) (Nat.le_trans (by decide) hd) E rfl (fun _ => pw_iV rfl rfl rfl rfl (pw_cellI f13h rfl)) (rfl : pm_ent 214 = some (4, 4, 12, 1, pmc_214)) rfl rfl (cm_214 (pw_dp hd (by decide)) I7 (k7_4) (by omega) (by omega) (b) (by omega) (by omega) (e) (by omega) (by omega)) ?_
          rintro u15 v14 ⟨rfl, x16, rfl, hx16a, hx16b⟩
          refine ⟨_, rfl, ?_⟩
          show pw X d gh7 218 28 [some (.ref 141), some (pw_i b), some (pw_i e), some (pw_i wo), some (pw_i k7_4)] [pw_i x16] _
          refine pw_if E (pc' := 59) rfl (by decide) (by omega) (by omega) ?_ ?_
          · intro hc17
            change x16 = (0 : Int) at hc17
            refine pw_inc E (pc' := 62) (ls' := [some (.ref 141), some (pw_i b), some (pw_i e), some (pw_i wo), some (pw_i (k7_4 + 1))]) rfl rfl rfl rfl ?_
            refine pw_goto E (pc' := 7) rfl (by decide) ?_
            exact ih7 _ (by omega) (k7_4 + 1) gh7 I7 E7 (by omega) (by omega) (by omega) (by omega) (by omega) rfl
          · intro hc18
            change ¬ (x16 = (0 : Int)) at hc18
            refine pw_ld E (pc' := 32) (st' := [.ref 141]) rfl (fun _ => rfl) ?_
            refine pw_ld E (pc' := 33) (st' := [.ref 141, .ref 141]) rfl (fun _ => rfl) ?_
            refine pw_getR (b := 148) I7 E (c := 125) (k := 11) (pc' := 36) rfl rfl rfl rfl rfl rfl rfl ?_
            refine pw_ld E (pc' := 38) (st' := [pw_i k7_4, .ref 148, .ref 141]) rfl (fun _ => rfl) ?_
            refine pw_ald2 I7 E (c := 132) (pc' := 39) rfl rfl rfl (by decide) rfl (by decide) (by omega) (by omega) rfl (fun hf19a hf19b => ?_)
            refine pw_if E (pc' := 46) rfl (by decide) (by omega) (by omega) ?_ ?_
            · intro hc20
              change pw_g gh7 132 (k7_4.toNat) ≠ (0 : Int) at hc20
              refine pw_ld E (pc' := 47) (st' := [pw_i 0, .ref 141]) rfl (fun _ => rfl) ?_
              refine pw_ld E (pc' := 48) (st' := [.ref 141, pw_i 0, .ref 141]) rfl (fun _ => rfl) ?_
              refine pw_ld E (pc' := 50) (st' := [pw_i k7_4, .ref 141, pw_i 0, .ref 141]) rfl (fun _ => rfl) ?_
              refine pw_ld E (pc' := 51) (st' := [pw_i b, pw_i k7_4, .ref 141, pw_i 0, .ref 141]) rfl (fun _ => rfl) ?_
              refine pw_ld E (pc' := 52) (st' := [pw_i e, pw_i b, pw_i k7_4, .ref 141, pw_i 0, .ref 141]) rfl (fun _ => rfl) ?_
              obtain ⟨f21l, f21h, -⟩ := pw_obj (c := 125) I7 rfl
              refine pw_call (m' := 215) (As := [.ref 141, pw_i k7_4, pw_i b, pw_i e]) (rest := [pw_i 0, .ref 141]) (ls'' := [some (.ref 141), some (pw_i k7_4), some (pw_i b), some (pw_i e)]) (Nat.le_trans (by decide) hd) E rfl (fun _ => pw_iV rfl rfl rfl rfl (pw_cellI f21h rfl)) (rfl : pm_ent 215 = some (4, 4, 12, 0, pmc_215)) rfl rfl (cm_215 (pw_dp hd (by decide)) I7 (k7_4) (by omega) (by omega) (b) (by omega) (by omega) (e) (by omega) (by omega)) ?_
              rintro u23 v22 ⟨rfl, x24, rfl, hx24a, hx24b⟩
              refine ⟨_, rfl, ?_⟩
              show pw X d gh7 218 55 [some (.ref 141), some (pw_i b), some (pw_i e), some (pw_i wo), some (pw_i k7_4)] [pw_i x24, pw_i 0, .ref 141] _
              refine pw_i2l E (pc' := 56) rfl rfl (by omega) (by omega) ?_
              obtain ⟨f25l, f25h, -⟩ := pw_obj (c := 125) I7 rfl
              refine pw_call (m' := 220) (As := [.ref 141, pw_i 0, .long (Int64.ofInt x24)]) (rest := []) (ls'' := [some (.ref 141), some (pw_i 0), some (.long (Int64.ofInt x24)), none]) (Nat.le_trans (by decide) hd) E rfl (fun _ => pw_iV rfl rfl rfl rfl (pw_cellI f25h rfl)) (rfl : pm_ent 220 = some (3, 4, 12, 4, pmc_220)) rfl rfl (cm_220 (pw_dp hd (by decide)) I7 (0) (by omega) (by omega) (Int64.ofInt x24) (by omega) (by omega) (by omega)) ?_
              rintro h26 v27 ⟨h26I, h26E, hq28, rfl⟩
              refine ⟨_, rfl, ?_⟩
              have h26F := E7.tr (h26E.wk (W' := [125]) (by first | rfl | simp))
              show pw X d h26 218 59 [some (.ref 141), some (pw_i b), some (pw_i e), some (pw_i wo), some (pw_i k7_4)] [] _
              refine pw_inc E (pc' := 62) (ls' := [some (.ref 141), some (pw_i b), some (pw_i e), some (pw_i wo), some (pw_i (k7_4 + 1))]) rfl rfl rfl rfl ?_
              refine pw_goto E (pc' := 7) rfl (by decide) ?_
              exact ih7 _ (by omega) (k7_4 + 1) h26 h26I h26F (by omega) (by omega) (by omega) (by omega) (by omega) rfl
            · intro hc29
              change ¬ (pw_g gh7 132 (k7_4.toNat) ≠ (0 : Int)) at hc29
              refine pw_ld E (pc' := 43) (st' := [pw_i 1, .ref 141]) rfl (fun _ => rfl) ?_
              refine pw_goto E (pc' := 47) rfl (by decide) ?_
              refine pw_ld E (pc' := 48) (st' := [.ref 141, pw_i 1, .ref 141]) rfl (fun _ => rfl) ?_
              refine pw_ld E (pc' := 50) (st' := [pw_i k7_4, .ref 141, pw_i 1, .ref 141]) rfl (fun _ => rfl) ?_
              refine pw_ld E (pc' := 51) (st' := [pw_i b, pw_i k7_4, .ref 141, pw_i 1, .ref 141]) rfl (fun _ => rfl) ?_
              refine pw_ld E (pc' := 52) (st' := [pw_i e, pw_i b, pw_i k7_4, .ref 141, pw_i 1, .ref 141]) rfl (fun _ => rfl) ?_
              obtain ⟨f30l, f30h, -⟩ := pw_obj (c := 125) I7 rfl
              refine pw_call (m' := 215) (As := [.ref 141, pw_i k7_4, pw_i b, pw_i e]) (rest := [pw_i 1, .ref 141]) (ls'' := [some (.ref 141), some (pw_i k7_4), some (pw_i b), some (pw_i e)]) (Nat.le_trans (by decide) hd) E rfl (fun _ => pw_iV rfl rfl rfl rfl (pw_cellI f30h rfl)) (rfl : pm_ent 215 = some (4, 4, 12, 0, pmc_215)) rfl rfl (cm_215 (pw_dp hd (by decide)) I7 (k7_4) (by omega) (by omega) (b) (by omega) (by omega) (e) (by omega) (by omega)) ?_
              rintro u32 v31 ⟨rfl, x33, rfl, hx33a, hx33b⟩
              refine ⟨_, rfl, ?_⟩
              show pw X d gh7 218 55 [some (.ref 141), some (pw_i b), some (pw_i e), some (pw_i wo), some (pw_i k7_4)] [pw_i x33, pw_i 1, .ref 141] _
              refine pw_i2l E (pc' := 56) rfl rfl (by omega) (by omega) ?_
              obtain ⟨f34l, f34h, -⟩ := pw_obj (c := 125) I7 rfl
              refine pw_call (m' := 220) (As := [.ref 141, pw_i 1, .long (Int64.ofInt x33)]) (rest := []) (ls'' := [some (.ref 141), some (pw_i 1), some (.long (Int64.ofInt x33)), none]) (Nat.le_trans (by decide) hd) E rfl (fun _ => pw_iV rfl rfl rfl rfl (pw_cellI f34h rfl)) (rfl : pm_ent 220 = some (3, 4, 12, 4, pmc_220)) rfl rfl (cm_220 (pw_dp hd (by decide)) I7 (1) (by omega) (by omega) (Int64.ofInt x33) (by omega) (by omega) (by omega)) ?_
              rintro h35 v36 ⟨h35I, h35E, hq37, rfl⟩
              refine ⟨_, rfl, ?_⟩
              have h35F := E7.tr (h35E.wk (W' := [125]) (by first | rfl | simp))
              show pw X d h35 218 59 [some (.ref 141), some (pw_i b), some (pw_i e), some (pw_i wo), some (pw_i k7_4)] [] _
              refine pw_inc E (pc' := 62) (ls' := [some (.ref 141), some (pw_i b), some (pw_i e), some (pw_i wo), some (pw_i (k7_4 + 1))]) rfl rfl rfl rfl ?_
              refine pw_goto E (pc' := 7) rfl (by decide) ?_
              exact ih7 _ (by omega) (k7_4 + 1) h35 h35I h35F (by omega) (by omega) (by omega) (by omega) (by omega) rfl
  exact L7 _ (0) h2 h2I h2F (by omega) (by omega) (by omega) (by omega) (by omega) rfl
set_option maxHeartbeats 4000000 in
theorem cm_227 {X : List (Nat × List Value)} {d : Nat} {h : pm_H} (hd : 3 ≤ d) (I : pw_I h) (k : Int) (hk1 : 0 ≤ k) (hk2 : k ≤ 23) (b : Int) (hb1 : 0 ≤ b) (hb2 : b ≤ 11) (e : Int) (he1 : 0 ≤ e) (he2 : e ≤ 11) (sg : Int) (hsg1 : (-2147483648) ≤ sg) (hsg2 : sg ≤ 2147483647) : pw X d h 227 0 [some (.ref 141), some (pw_i k), some (pw_i b), some (pw_i e), some (pw_i sg), none] [] (fun h' v => h = h' ∧ ∃ a : Int, v = .inl (some (pw_i a)) ∧ (-2147483648) ≤ a ∧ a ≤ 2147483647) := by
  have E : pm_ent 227 = some (5, 6, 12, 0, pmc_227) := rfl
  refine pw_ld E (pc' := 1) (st' := [pw_i 0]) rfl (fun _ => rfl) ?_
  refine pw_ist E (pc' := 3) (ls' := [some (.ref 141), some (pw_i k), some (pw_i b), some (pw_i e), some (pw_i sg), some (pw_i 0)]) rfl rfl rfl rfl ?_
  refine pw_ld E (pc' := 4) (st' := [.ref 141]) rfl (fun _ => rfl) ?_
  refine pw_getR (b := 154) I E (c := 125) (k := 18) (pc' := 7) rfl rfl rfl rfl rfl rfl rfl ?_
  refine pw_bip E (pc' := 9) rfl rfl (by decide) ?_
  refine pw_ld E (pc' := 10) (st' := [pw_i k, pw_i 12, .ref 154]) rfl (fun _ => rfl) ?_
  refine pw_mul E (pc' := 11) rfl rfl ?_
  refine pw_ld E (pc' := 12) (st' := [pw_i e, pw_i (12 * k), .ref 154]) rfl (fun _ => rfl) ?_
  refine pw_add E (pc' := 13) rfl rfl ?_
  refine pw_ald2 I E (c := 138) (pc' := 14) rfl rfl rfl (by decide) rfl (by decide) (by omega) (by omega) rfl (fun hf1a hf1b => ?_)
  refine pw_if E (pc' := 43) rfl (by decide) (by omega) (by omega) ?_ ?_
  · intro hc2
    change pw_g h 138 (((12 * k) + e).toNat) ≠ (0 : Int) at hc2
    refine pw_ld E (pc' := 45) (st' := [pw_i 0]) rfl (fun _ => rfl) ?_
    refine pw_ld E (pc' := 46) (st' := [.ref 141, pw_i 0]) rfl (fun _ => rfl) ?_
    refine pw_ld E (pc' := 47) (st' := [pw_i k, .ref 141, pw_i 0]) rfl (fun _ => rfl) ?_
    refine pw_ld E (pc' := 48) (st' := [pw_i e, pw_i k, .ref 141, pw_i 0]) rfl (fun _ => rfl) ?_
    obtain ⟨f3l, f3h, -⟩ := pw_obj (c := 125) I rfl
    refine pw_call (m' := 210) (As := [.ref 141, pw_i k, pw_i e]) (rest := [pw_i 0]) (ls'' := [some (.ref 141), some (pw_i k), some (pw_i e)]) (Nat.le_trans (by decide) hd) E rfl (fun _ => pw_iV rfl rfl rfl rfl (pw_cellI f3h rfl)) (rfl : pm_ent 210 = some (3, 3, 12, 0, pmc_210)) rfl rfl (cm_210 (pw_dp hd (by decide)) I (k) (by omega) (by omega) (e) (by omega) (by omega)) ?_
    rintro u5 v4 ⟨rfl, x6, rfl, hx6a, hx6b⟩
    refine ⟨_, rfl, ?_⟩
    show pw X d h 227 51 [some (.ref 141), some (pw_i k), some (pw_i b), some (pw_i e), some (pw_i sg), some (pw_i 0)] [pw_i x6, pw_i 0] _
    refine pw_add E (pc' := 52) rfl rfl ?_
    refine pw_ist E (pc' := 54) (ls' := [some (.ref 141), some (pw_i k), some (pw_i b), some (pw_i e), some (pw_i sg), some (pw_i (0 + x6))]) rfl rfl rfl rfl ?_
    refine pw_ld E (pc' := 55) (st' := [.ref 141]) rfl (fun _ => rfl) ?_
    refine pw_getR (b := 154) I E (c := 125) (k := 18) (pc' := 58) rfl rfl rfl rfl rfl rfl rfl ?_
    refine pw_bip E (pc' := 60) rfl rfl (by decide) ?_
    refine pw_ld E (pc' := 61) (st' := [pw_i k, pw_i 12, .ref 154]) rfl (fun _ => rfl) ?_
    refine pw_mul E (pc' := 62) rfl rfl ?_
    refine pw_ld E (pc' := 63) (st' := [pw_i b, pw_i (12 * k), .ref 154]) rfl (fun _ => rfl) ?_
    refine pw_add E (pc' := 64) rfl rfl ?_
    refine pw_ald2 I E (c := 138) (pc' := 65) rfl rfl rfl (by decide) rfl (by decide) (by omega) (by omega) rfl (fun hf7a hf7b => ?_)
    refine pw_if E (pc' := 94) rfl (by decide) (by omega) (by omega) ?_ ?_
    · intro hc8
      change pw_g h 138 (((12 * k) + b).toNat) ≠ (0 : Int) at hc8
      refine pw_ld E (pc' := 96) (st' := [pw_i (0 + x6)]) rfl (fun _ => rfl) ?_
      refine pw_ld E (pc' := 97) (st' := [.ref 141, pw_i (0 + x6)]) rfl (fun _ => rfl) ?_
      refine pw_ld E (pc' := 98) (st' := [pw_i k, .ref 141, pw_i (0 + x6)]) rfl (fun _ => rfl) ?_
      refine pw_ld E (pc' := 99) (st' := [pw_i b, pw_i k, .ref 141, pw_i (0 + x6)]) rfl (fun _ => rfl) ?_
      obtain ⟨f9l, f9h, -⟩ := pw_obj (c := 125) I rfl
      refine pw_call (m' := 210) (As := [.ref 141, pw_i k, pw_i b]) (rest := [pw_i (0 + x6)]) (ls'' := [some (.ref 141), some (pw_i k), some (pw_i b)]) (Nat.le_trans (by decide) hd) E rfl (fun _ => pw_iV rfl rfl rfl rfl (pw_cellI f9h rfl)) (rfl : pm_ent 210 = some (3, 3, 12, 0, pmc_210)) rfl rfl (cm_210 (pw_dp hd (by decide)) I (k) (by omega) (by omega) (b) (by omega) (by omega)) ?_
      rintro u11 v10 ⟨rfl, x12, rfl, hx12a, hx12b⟩
      refine ⟨_, rfl, ?_⟩
      show pw X d h 227 102 [some (.ref 141), some (pw_i k), some (pw_i b), some (pw_i e), some (pw_i sg), some (pw_i (0 + x6))] [pw_i x12, pw_i (0 + x6)] _
      refine pw_sub E (pc' := 103) rfl rfl ?_
      refine pw_nm (fun x13 hx13a hx13b => ?_)
      refine pw_ist E (pc' := 105) (ls' := [some (.ref 141), some (pw_i k), some (pw_i b), some (pw_i e), some (pw_i sg), some (pw_i x13)]) rfl rfl rfl rfl ?_
      refine pw_ld E (pc' := 107) (st' := [pw_i x13]) rfl (fun _ => rfl) ?_
      refine pw_iret E rfl ?_
      exact ⟨rfl, ⟨_, rfl, by omega, by omega⟩⟩
    · intro hc14
      change ¬ (pw_g h 138 (((12 * k) + b).toNat) ≠ (0 : Int)) at hc14
      refine pw_ld E (pc' := 70) (st' := [pw_i (0 + x6)]) rfl (fun _ => rfl) ?_
      refine pw_ld E (pc' := 72) (st' := [pw_i sg, pw_i (0 + x6)]) rfl (fun _ => rfl) ?_
      refine pw_if E (pc' := 79) rfl (by decide) (by omega) (by omega) ?_ ?_
      · intro hc15
        change sg ≤ (0 : Int) at hc15
        refine pw_bip E (pc' := 81) rfl rfl (by decide) ?_
        refine pw_ld E (pc' := 82) (st' := [.ref 141, pw_i 10, pw_i (0 + x6)]) rfl (fun _ => rfl) ?_
        refine pw_getR (b := 150) I E (c := 125) (k := 13) (pc' := 85) rfl rfl rfl rfl rfl rfl rfl ?_
        refine pw_ld E (pc' := 86) (st' := [pw_i k, .ref 150, pw_i 10, pw_i (0 + x6)]) rfl (fun _ => rfl) ?_
        refine pw_ald2 I E (c := 134) (pc' := 87) rfl rfl rfl (by decide) rfl (by decide) (by omega) (by omega) rfl (fun hf16a hf16b => ?_)
        refine pw_mul E (pc' := 88) rfl rfl ?_
        refine pw_sub E (pc' := 89) rfl rfl ?_
        refine pw_nm (fun x17 hx17a hx17b => ?_)
        refine pw_ist E (pc' := 91) (ls' := [some (.ref 141), some (pw_i k), some (pw_i b), some (pw_i e), some (pw_i sg), some (pw_i x17)]) rfl rfl rfl rfl ?_
        refine pw_goto E (pc' := 105) rfl (by decide) ?_
        refine pw_ld E (pc' := 107) (st' := [pw_i x17]) rfl (fun _ => rfl) ?_
        refine pw_iret E rfl ?_
        exact ⟨rfl, ⟨_, rfl, by omega, by omega⟩⟩
      · intro hc18
        change ¬ (sg ≤ (0 : Int)) at hc18
        refine pw_ld E (pc' := 76) (st' := [pw_i 0, pw_i (0 + x6)]) rfl (fun _ => rfl) ?_
        refine pw_goto E (pc' := 88) rfl (by decide) ?_
        refine pw_sub E (pc' := 89) rfl rfl ?_
        refine pw_ist E (pc' := 91) (ls' := [some (.ref 141), some (pw_i k), some (pw_i b), some (pw_i e), some (pw_i sg), some (pw_i ((0 + x6) - 0))]) rfl rfl rfl rfl ?_
        refine pw_goto E (pc' := 105) rfl (by decide) ?_
        refine pw_ld E (pc' := 107) (st' := [pw_i ((0 + x6) - 0)]) rfl (fun _ => rfl) ?_
        refine pw_iret E rfl ?_
        exact ⟨rfl, ⟨_, rfl, by omega, by omega⟩⟩
  · intro hc19
    change ¬ (pw_g h 138 (((12 * k) + e).toNat) ≠ (0 : Int)) at hc19
    refine pw_ld E (pc' := 19) (st' := [pw_i 0]) rfl (fun _ => rfl) ?_
    refine pw_ld E (pc' := 21) (st' := [pw_i sg, pw_i 0]) rfl (fun _ => rfl) ?_
    refine pw_if E (pc' := 36) rfl (by decide) (by omega) (by omega) ?_ ?_
    · intro hc20
      change sg ≤ (0 : Int) at hc20
      refine pw_ld E (pc' := 37) (st' := [pw_i 0, pw_i 0]) rfl (fun _ => rfl) ?_
      refine pw_add E (pc' := 38) rfl rfl ?_
      refine pw_ist E (pc' := 40) (ls' := [some (.ref 141), some (pw_i k), some (pw_i b), some (pw_i e), some (pw_i sg), some (pw_i (0 + 0))]) rfl rfl rfl rfl ?_
      refine pw_goto E (pc' := 54) rfl (by decide) ?_
      refine pw_ld E (pc' := 55) (st' := [.ref 141]) rfl (fun _ => rfl) ?_
      refine pw_getR (b := 154) I E (c := 125) (k := 18) (pc' := 58) rfl rfl rfl rfl rfl rfl rfl ?_
      refine pw_bip E (pc' := 60) rfl rfl (by decide) ?_
      refine pw_ld E (pc' := 61) (st' := [pw_i k, pw_i 12, .ref 154]) rfl (fun _ => rfl) ?_
      refine pw_mul E (pc' := 62) rfl rfl ?_
      refine pw_ld E (pc' := 63) (st' := [pw_i b, pw_i (12 * k), .ref 154]) rfl (fun _ => rfl) ?_
      refine pw_add E (pc' := 64) rfl rfl ?_
      refine pw_ald2 I E (c := 138) (pc' := 65) rfl rfl rfl (by decide) rfl (by decide) (by omega) (by omega) rfl (fun hf21a hf21b => ?_)
      refine pw_if E (pc' := 94) rfl (by decide) (by omega) (by omega) ?_ ?_
      · intro hc22
        change pw_g h 138 (((12 * k) + b).toNat) ≠ (0 : Int) at hc22
        refine pw_ld E (pc' := 96) (st' := [pw_i (0 + 0)]) rfl (fun _ => rfl) ?_
        refine pw_ld E (pc' := 97) (st' := [.ref 141, pw_i (0 + 0)]) rfl (fun _ => rfl) ?_
        refine pw_ld E (pc' := 98) (st' := [pw_i k, .ref 141, pw_i (0 + 0)]) rfl (fun _ => rfl) ?_
        refine pw_ld E (pc' := 99) (st' := [pw_i b, pw_i k, .ref 141, pw_i (0 + 0)]) rfl (fun _ => rfl) ?_
        obtain ⟨f23l, f23h, -⟩ := pw_obj (c := 125) I rfl
        refine pw_call (m' := 210) (As := [.ref 141, pw_i k, pw_i b]) (rest := [pw_i (0 + 0)]) (ls'' := [some (.ref 141), some (pw_i k), some (pw_i b)]) (Nat.le_trans (by decide) hd) E rfl (fun _ => pw_iV rfl rfl rfl rfl (pw_cellI f23h rfl)) (rfl : pm_ent 210 = some (3, 3, 12, 0, pmc_210)) rfl rfl (cm_210 (pw_dp hd (by decide)) I (k) (by omega) (by omega) (b) (by omega) (by omega)) ?_
        rintro u25 v24 ⟨rfl, x26, rfl, hx26a, hx26b⟩
        refine ⟨_, rfl, ?_⟩
        show pw X d h 227 102 [some (.ref 141), some (pw_i k), some (pw_i b), some (pw_i e), some (pw_i sg), some (pw_i (0 + 0))] [pw_i x26, pw_i (0 + 0)] _
        refine pw_sub E (pc' := 103) rfl rfl ?_
        refine pw_nm (fun x27 hx27a hx27b => ?_)
        refine pw_ist E (pc' := 105) (ls' := [some (.ref 141), some (pw_i k), some (pw_i b), some (pw_i e), some (pw_i sg), some (pw_i x27)]) rfl rfl rfl rfl ?_
        refine pw_ld E (pc' := 107) (st' := [pw_i x27]) rfl (fun _ => rfl) ?_
        refine pw_iret E rfl ?_
        exact ⟨rfl, ⟨_, rfl, by omega, by omega⟩⟩
      · intro hc28
        change ¬ (pw_g h 138 (((12 * k) + b).toNat) ≠ (0 : Int)) at hc28
        refine pw_ld E (pc' := 70) (st' := [pw_i (0 + 0)]) rfl (fun _ => rfl) ?_
        refine pw_ld E (pc' := 72) (st' := [pw_i sg, pw_i (0 + 0)]) rfl (fun _ => rfl) ?_
        refine pw_if E (pc' := 79) rfl (by decide) (by omega) (by omega) ?_ ?_
        · intro hc29
          change sg ≤ (0 : Int) at hc29
          refine pw_bip E (pc' := 81) rfl rfl (by decide) ?_
          refine pw_ld E (pc' := 82) (st' := [.ref 141, pw_i 10, pw_i (0 + 0)]) rfl (fun _ => rfl) ?_
          refine pw_getR (b := 150) I E (c := 125) (k := 13) (pc' := 85) rfl rfl rfl rfl rfl rfl rfl ?_
          refine pw_ld E (pc' := 86) (st' := [pw_i k, .ref 150, pw_i 10, pw_i (0 + 0)]) rfl (fun _ => rfl) ?_
          refine pw_ald2 I E (c := 134) (pc' := 87) rfl rfl rfl (by decide) rfl (by decide) (by omega) (by omega) rfl (fun hf30a hf30b => ?_)
          refine pw_mul E (pc' := 88) rfl rfl ?_
          refine pw_sub E (pc' := 89) rfl rfl ?_
          refine pw_ist E (pc' := 91) (ls' := [some (.ref 141), some (pw_i k), some (pw_i b), some (pw_i e), some (pw_i sg), some (pw_i ((0 + 0) - (10 * (pw_g h 134 (k.toNat)))))]) rfl rfl rfl rfl ?_
          refine pw_goto E (pc' := 105) rfl (by decide) ?_
          refine pw_ld E (pc' := 107) (st' := [pw_i ((0 + 0) - (10 * (pw_g h 134 (k.toNat))))]) rfl (fun _ => rfl) ?_
          refine pw_iret E rfl ?_
          exact ⟨rfl, ⟨_, rfl, by omega, by omega⟩⟩
        · intro hc31
          change ¬ (sg ≤ (0 : Int)) at hc31
          exfalso; omega
    · intro hc32
      change ¬ (sg ≤ (0 : Int)) at hc32
      refine pw_bip E (pc' := 26) rfl rfl (by decide) ?_
      refine pw_ld E (pc' := 27) (st' := [.ref 141, pw_i 10, pw_i 0]) rfl (fun _ => rfl) ?_
      refine pw_getR (b := 150) I E (c := 125) (k := 13) (pc' := 30) rfl rfl rfl rfl rfl rfl rfl ?_
      refine pw_ld E (pc' := 31) (st' := [pw_i k, .ref 150, pw_i 10, pw_i 0]) rfl (fun _ => rfl) ?_
      refine pw_ald2 I E (c := 134) (pc' := 32) rfl rfl rfl (by decide) rfl (by decide) (by omega) (by omega) rfl (fun hf33a hf33b => ?_)
      refine pw_mul E (pc' := 33) rfl rfl ?_
      refine pw_goto E (pc' := 37) rfl (by decide) ?_
      refine pw_add E (pc' := 38) rfl rfl ?_
      refine pw_ist E (pc' := 40) (ls' := [some (.ref 141), some (pw_i k), some (pw_i b), some (pw_i e), some (pw_i sg), some (pw_i (0 + (10 * (pw_g h 134 (k.toNat)))))]) rfl rfl rfl rfl ?_
      refine pw_goto E (pc' := 54) rfl (by decide) ?_
      refine pw_ld E (pc' := 55) (st' := [.ref 141]) rfl (fun _ => rfl) ?_
      refine pw_getR (b := 154) I E (c := 125) (k := 18) (pc' := 58) rfl rfl rfl rfl rfl rfl rfl ?_
      refine pw_bip E (pc' := 60) rfl rfl (by decide) ?_
      refine pw_ld E (pc' := 61) (st' := [pw_i k, pw_i 12, .ref 154]) rfl (fun _ => rfl) ?_
      refine pw_mul E (pc' := 62) rfl rfl ?_
      refine pw_ld E (pc' := 63) (st' := [pw_i b, pw_i (12 * k), .ref 154]) rfl (fun _ => rfl) ?_
      refine pw_add E (pc' := 64) rfl rfl ?_
      refine pw_ald2 I E (c := 138) (pc' := 65) rfl rfl rfl (by decide) rfl (by decide) (by omega) (by omega) rfl (fun hf34a hf34b => ?_)
      refine pw_if E (pc' := 94) rfl (by decide) (by omega) (by omega) ?_ ?_
      · intro hc35
        change pw_g h 138 (((12 * k) + b).toNat) ≠ (0 : Int) at hc35
        refine pw_ld E (pc' := 96) (st' := [pw_i (0 + (10 * (pw_g h 134 (k.toNat))))]) rfl (fun _ => rfl) ?_
        refine pw_ld E (pc' := 97) (st' := [.ref 141, pw_i (0 + (10 * (pw_g h 134 (k.toNat))))]) rfl (fun _ => rfl) ?_
        refine pw_ld E (pc' := 98) (st' := [pw_i k, .ref 141, pw_i (0 + (10 * (pw_g h 134 (k.toNat))))]) rfl (fun _ => rfl) ?_
        refine pw_ld E (pc' := 99) (st' := [pw_i b, pw_i k, .ref 141, pw_i (0 + (10 * (pw_g h 134 (k.toNat))))]) rfl (fun _ => rfl) ?_
        obtain ⟨f36l, f36h, -⟩ := pw_obj (c := 125) I rfl
        refine pw_call (m' := 210) (As := [.ref 141, pw_i k, pw_i b]) (rest := [pw_i (0 + (10 * (pw_g h 134 (k.toNat))))]) (ls'' := [some (.ref 141), some (pw_i k), some (pw_i b)]) (Nat.le_trans (by decide) hd) E rfl (fun _ => pw_iV rfl rfl rfl rfl (pw_cellI f36h rfl)) (rfl : pm_ent 210 = some (3, 3, 12, 0, pmc_210)) rfl rfl (cm_210 (pw_dp hd (by decide)) I (k) (by omega) (by omega) (b) (by omega) (by omega)) ?_
        rintro u38 v37 ⟨rfl, x39, rfl, hx39a, hx39b⟩
        refine ⟨_, rfl, ?_⟩
        show pw X d h 227 102 [some (.ref 141), some (pw_i k), some (pw_i b), some (pw_i e), some (pw_i sg), some (pw_i (0 + (10 * (pw_g h 134 (k.toNat)))))] [pw_i x39, pw_i (0 + (10 * (pw_g h 134 (k.toNat))))] _
        refine pw_sub E (pc' := 103) rfl rfl ?_
        refine pw_nm (fun x40 hx40a hx40b => ?_)
        refine pw_ist E (pc' := 105) (ls' := [some (.ref 141), some (pw_i k), some (pw_i b), some (pw_i e), some (pw_i sg), some (pw_i x40)]) rfl rfl rfl rfl ?_
        refine pw_ld E (pc' := 107) (st' := [pw_i x40]) rfl (fun _ => rfl) ?_
        refine pw_iret E rfl ?_
        exact ⟨rfl, ⟨_, rfl, by omega, by omega⟩⟩
      · intro hc41
        change ¬ (pw_g h 138 (((12 * k) + b).toNat) ≠ (0 : Int)) at hc41
        refine pw_ld E (pc' := 70) (st' := [pw_i (0 + (10 * (pw_g h 134 (k.toNat))))]) rfl (fun _ => rfl) ?_
        refine pw_ld E (pc' := 72) (st' := [pw_i sg, pw_i (0 + (10 * (pw_g h 134 (k.toNat))))]) rfl (fun _ => rfl) ?_
        refine pw_if E (pc' := 79) rfl (by decide) (by omega) (by omega) ?_ ?_
        · intro hc42
          change sg ≤ (0 : Int) at hc42
          exfalso; omega
        · intro hc43
          change ¬ (sg ≤ (0 : Int)) at hc43
          refine pw_ld E (pc' := 76) (st' := [pw_i 0, pw_i (0 + (10 * (pw_g h 134 (k.toNat))))]) rfl (fun _ => rfl) ?_
          refine pw_goto E (pc' := 88) rfl (by decide) ?_
          refine pw_sub E (pc' := 89) rfl rfl ?_
          refine pw_ist E (pc' := 91) (ls' := [some (.ref 141), some (pw_i k), some (pw_i b), some (pw_i e), some (pw_i sg), some (pw_i ((0 + (10 * (pw_g h 134 (k.toNat)))) - 0))]) rfl rfl rfl rfl ?_
          refine pw_goto E (pc' := 105) rfl (by decide) ?_
          refine pw_ld E (pc' := 107) (st' := [pw_i ((0 + (10 * (pw_g h 134 (k.toNat)))) - 0)]) rfl (fun _ => rfl) ?_
          refine pw_iret E rfl ?_
          exact ⟨rfl, ⟨_, rfl, by omega, by omega⟩⟩
set_option maxHeartbeats 4000000 in
theorem cm_226 {X : List (Nat × List Value)} {d : Nat} {h : pm_H} (hd : 4 ≤ d) (I : pw_I h) (b : Int) (hb1 : 0 ≤ b) (hb2 : b ≤ 11) (e : Int) (he1 : 0 ≤ e) (he2 : e ≤ 11) (sg : Int) (hsg1 : (-2147483648) ≤ sg) (hsg2 : sg ≤ 2147483647) : pw X d h 226 0 [some (.ref 141), some (pw_i b), some (pw_i e), some (pw_i sg), none] [] (fun h' v => pw_I h' ∧ pw_E [125] h h' ∧ ∃ a : Int, v = .inl (some (pw_i a)) ∧ 0 ≤ a ∧ a ≤ 1 ∧ ((a = 1 ∧ 1 ≤ pw_gm h' 125 25 ∧ pw_gm h' 125 25 ≤ 576) ∨ a = 0)) := by
  have E : pm_ent 226 = some (4, 5, 12, 1, pmc_226) := rfl
  have E0 : pw_E [125] h h := pw_E.rf _ _
  refine pw_ld E (pc' := 1) (st' := [.ref 141]) rfl (fun _ => rfl) ?_
  obtain ⟨f1l, f1h, -⟩ := pw_obj (c := 125) I rfl
  refine pw_call (m' := 219) (As := [.ref 141]) (rest := []) (ls'' := [some (.ref 141)]) (Nat.le_trans (by decide) hd) E rfl (fun _ => pw_iV rfl rfl rfl rfl (pw_cellI f1h rfl)) (rfl : pm_ent 219 = some (1, 1, 12, 4, pmc_219)) rfl rfl (cm_219 (pw_dp hd (by decide)) I ) ?_
  rintro h2 v3 ⟨h2I, h2E, hq4, rfl⟩
  refine ⟨_, rfl, ?_⟩
  have h2F := E0.tr (h2E.wk (W' := [125]) (by first | rfl | simp))
  show pw X d h2 226 4 [some (.ref 141), some (pw_i b), some (pw_i e), some (pw_i sg), none] [] _
  refine pw_ld E (pc' := 5) (st' := [pw_i 0]) rfl (fun _ => rfl) ?_
  refine pw_ist E (pc' := 7) (ls' := [some (.ref 141), some (pw_i b), some (pw_i e), some (pw_i sg), some (pw_i 0)]) rfl rfl rfl rfl ?_
  have L7 : ∀ (n7 : Nat) (k7_4 : Int) (gh7 : pm_H), pw_I gh7 → pw_E [125] h gh7 → 0 ≤ k7_4 → k7_4 ≤ 24 → pw_gm gh7 125 27 + pw_gm gh7 125 29 ≤ k7_4 → 0 ≤ pw_gm gh7 125 27 → 0 ≤ pw_gm gh7 125 29 → (24 - k7_4).toNat = n7 → pw X d gh7 226 7 [some (.ref 141), some (pw_i b), some (pw_i e), some (pw_i sg), some (pw_i k7_4)] [] (fun h' v => pw_I h' ∧ pw_E [125] h h' ∧ ∃ a : Int, v = .inl (some (pw_i a)) ∧ 0 ≤ a ∧ a ≤ 1 ∧ ((a = 1 ∧ 1 ≤ pw_gm h' 125 25 ∧ pw_gm h' 125 25 ≤ 576) ∨ a = 0)) := by
    intro n7
    induction n7 using Nat.strongRecOn with
    | ind n7 ih7 =>
      intro k7_4 gh7 I7 E7 k7_4a k7_4b hx7_0 hx7_1 hx7_2 hm7
      refine pw_ld E (pc' := 9) (st' := [pw_i k7_4]) rfl (fun _ => rfl) ?_
      refine pw_bip E (pc' := 11) rfl rfl (by decide) ?_
      refine pw_if2 E (pc' := 74) rfl (by decide) (by omega) (by omega) (by decide) (by decide) ?_ ?_
      · intro hc5
        change (24 : Int) ≤ k7_4 at hc5
        refine pw_ld E (pc' := 75) (st' := [.ref 141]) rfl (fun _ => rfl) ?_
        obtain ⟨f6l, f6h, -⟩ := pw_obj (c := 125) I7 rfl
        refine pw_call (m' := 221) (As := [.ref 141]) (rest := []) (ls'' := [some (.ref 141)]) (Nat.le_trans (by decide) hd) E rfl (fun _ => pw_iV rfl rfl rfl rfl (pw_cellI f6h rfl)) (rfl : pm_ent 221 = some (1, 1, 12, 1, pmc_221)) rfl rfl (cm_221 (pw_dp hd (by decide)) I7 ) ?_
        rintro h7 v8 ⟨h7I, h7E, x9, rfl, hx9a, hx9b, hx9r⟩
        refine ⟨_, rfl, ?_⟩
        have h7F := E7.tr (h7E.wk (W' := [125]) (by first | rfl | simp))
        show pw X d h7 226 78 [some (.ref 141), some (pw_i b), some (pw_i e), some (pw_i sg), some (pw_i k7_4)] [pw_i x9] _
        change (x9 = 1 ∧ 1 ≤ pw_gm h7 125 25 ∧ pw_gm h7 125 25 ≤ 576) ∨ x9 = 0 at hx9r
        refine pw_zret E rfl (by omega) ?_
        exact ⟨h7I, h7F, ⟨_, rfl, by omega, by omega, by omega⟩⟩
      · intro hc10
        change ¬ ((24 : Int) ≤ k7_4) at hc10
        refine pw_ld E (pc' := 15) (st' := [.ref 141]) rfl (fun _ => rfl) ?_
        refine pw_getR (b := 147) I7 E (c := 125) (k := 10) (pc' := 18) rfl rfl rfl rfl rfl rfl rfl ?_
        refine pw_ld E (pc' := 20) (st' := [pw_i k7_4, .ref 147]) rfl (fun _ => rfl) ?_
        refine pw_ald2 I7 E (c := 131) (pc' := 21) rfl rfl rfl (by decide) rfl (by decide) (by omega) (by omega) rfl (fun hf11a hf11b => ?_)
        refine pw_if E (pc' := 68) rfl (by decide) (by omega) (by omega) ?_ ?_
        · intro hc12
          change pw_g gh7 131 (k7_4.toNat) = (0 : Int) at hc12
          refine pw_inc E (pc' := 71) (ls' := [some (.ref 141), some (pw_i b), some (pw_i e), some (pw_i sg), some (pw_i (k7_4 + 1))]) rfl rfl rfl rfl ?_
          refine pw_goto E (pc' := 7) rfl (by decide) ?_
          exact ih7 _ (by omega) (k7_4 + 1) gh7 I7 E7 (by omega) (by omega) (by omega) (by omega) (by omega) rfl
        · intro hc13
          change ¬ (pw_g gh7 131 (k7_4.toNat) = (0 : Int)) at hc13
          refine pw_ld E (pc' := 25) (st' := [.ref 141]) rfl (fun _ => rfl) ?_
          refine pw_ld E (pc' := 26) (st' := [.ref 141, .ref 141]) rfl (fun _ => rfl) ?_
          refine pw_getR (b := 148) I7 E (c := 125) (k := 11) (pc' := 29) rfl rfl rfl rfl rfl rfl rfl ?_
          refine pw_ld E (pc' := 31) (st' := [pw_i k7_4, .ref 148, .ref 141]) rfl (fun _ => rfl) ?_
          refine pw_ald2 I7 E (c := 132) (pc' := 32) rfl rfl rfl (by decide) rfl (by decide) (by omega) (by omega) rfl (fun hf14a hf14b => ?_)
          refine pw_if E (pc' := 39) rfl (by decide) (by omega) (by omega) ?_ ?_
          · intro hc15
            change pw_g gh7 132 (k7_4.toNat) ≠ (0 : Int) at hc15
            refine pw_ld E (pc' := 40) (st' := [pw_i 0, .ref 141]) rfl (fun _ => rfl) ?_
            refine pw_ld E (pc' := 41) (st' := [.ref 141, pw_i 0, .ref 141]) rfl (fun _ => rfl) ?_
            refine pw_ld E (pc' := 43) (st' := [pw_i k7_4, .ref 141, pw_i 0, .ref 141]) rfl (fun _ => rfl) ?_
            refine pw_ld E (pc' := 44) (st' := [pw_i b, pw_i k7_4, .ref 141, pw_i 0, .ref 141]) rfl (fun _ => rfl) ?_
            refine pw_ld E (pc' := 45) (st' := [pw_i e, pw_i b, pw_i k7_4, .ref 141, pw_i 0, .ref 141]) rfl (fun _ => rfl) ?_
            refine pw_ld E (pc' := 46) (st' := [.ref 141, pw_i e, pw_i b, pw_i k7_4, .ref 141, pw_i 0, .ref 141]) rfl (fun _ => rfl) ?_
            refine pw_getR (b := 148) I7 E (c := 125) (k := 11) (pc' := 49) rfl rfl rfl rfl rfl rfl rfl ?_
            refine pw_ld E (pc' := 51) (st' := [pw_i k7_4, .ref 148, pw_i e, pw_i b, pw_i k7_4, .ref 141, pw_i 0, .ref 141]) rfl (fun _ => rfl) ?_
            refine pw_ald2 I7 E (c := 132) (pc' := 52) rfl rfl rfl (by decide) rfl (by decide) (by omega) (by omega) rfl (fun hf16a hf16b => ?_)
            refine pw_if E (pc' := 59) rfl (by decide) (by omega) (by omega) ?_ ?_
            · intro hc17
              change pw_g gh7 132 (k7_4.toNat) ≠ (0 : Int) at hc17
              refine pw_ld E (pc' := 60) (st' := [pw_i sg, pw_i e, pw_i b, pw_i k7_4, .ref 141, pw_i 0, .ref 141]) rfl (fun _ => rfl) ?_
              refine pw_ineg E (pc' := 61) rfl rfl ?_
              refine pw_nm (fun x18 hx18a hx18b => ?_)
              obtain ⟨f19l, f19h, -⟩ := pw_obj (c := 125) I7 rfl
              refine pw_call (m' := 227) (As := [.ref 141, pw_i k7_4, pw_i b, pw_i e, pw_i x18]) (rest := [pw_i 0, .ref 141]) (ls'' := [some (.ref 141), some (pw_i k7_4), some (pw_i b), some (pw_i e), some (pw_i x18), none]) (Nat.le_trans (by decide) hd) E rfl (fun _ => pw_iV rfl rfl rfl rfl (pw_cellI f19h rfl)) (rfl : pm_ent 227 = some (5, 6, 12, 0, pmc_227)) rfl rfl (cm_227 (pw_dp hd (by decide)) I7 (k7_4) (by omega) (by omega) (b) (by omega) (by omega) (e) (by omega) (by omega) (x18) (by omega) (by omega)) ?_
              rintro u21 v20 ⟨rfl, x22, rfl, hx22a, hx22b⟩
              refine ⟨_, rfl, ?_⟩
              show pw X d gh7 226 64 [some (.ref 141), some (pw_i b), some (pw_i e), some (pw_i sg), some (pw_i k7_4)] [pw_i x22, pw_i 0, .ref 141] _
              refine pw_i2l E (pc' := 65) rfl rfl (by omega) (by omega) ?_
              obtain ⟨f23l, f23h, -⟩ := pw_obj (c := 125) I7 rfl
              refine pw_call (m' := 220) (As := [.ref 141, pw_i 0, .long (Int64.ofInt x22)]) (rest := []) (ls'' := [some (.ref 141), some (pw_i 0), some (.long (Int64.ofInt x22)), none]) (Nat.le_trans (by decide) hd) E rfl (fun _ => pw_iV rfl rfl rfl rfl (pw_cellI f23h rfl)) (rfl : pm_ent 220 = some (3, 4, 12, 4, pmc_220)) rfl rfl (cm_220 (pw_dp hd (by decide)) I7 (0) (by omega) (by omega) (Int64.ofInt x22) (by omega) (by omega) (by omega)) ?_
              rintro h24 v25 ⟨h24I, h24E, hq26, rfl⟩
              refine ⟨_, rfl, ?_⟩
              have h24F := E7.tr (h24E.wk (W' := [125]) (by first | rfl | simp))
              show pw X d h24 226 68 [some (.ref 141), some (pw_i b), some (pw_i e), some (pw_i sg), some (pw_i k7_4)] [] _
              refine pw_inc E (pc' := 71) (ls' := [some (.ref 141), some (pw_i b), some (pw_i e), some (pw_i sg), some (pw_i (k7_4 + 1))]) rfl rfl rfl rfl ?_
              refine pw_goto E (pc' := 7) rfl (by decide) ?_
              exact ih7 _ (by omega) (k7_4 + 1) h24 h24I h24F (by omega) (by omega) (by omega) (by omega) (by omega) rfl
            · intro hc27
              change ¬ (pw_g gh7 132 (k7_4.toNat) ≠ (0 : Int)) at hc27
              exfalso; omega
          · intro hc28
            change ¬ (pw_g gh7 132 (k7_4.toNat) ≠ (0 : Int)) at hc28
            refine pw_ld E (pc' := 36) (st' := [pw_i 1, .ref 141]) rfl (fun _ => rfl) ?_
            refine pw_goto E (pc' := 40) rfl (by decide) ?_
            refine pw_ld E (pc' := 41) (st' := [.ref 141, pw_i 1, .ref 141]) rfl (fun _ => rfl) ?_
            refine pw_ld E (pc' := 43) (st' := [pw_i k7_4, .ref 141, pw_i 1, .ref 141]) rfl (fun _ => rfl) ?_
            refine pw_ld E (pc' := 44) (st' := [pw_i b, pw_i k7_4, .ref 141, pw_i 1, .ref 141]) rfl (fun _ => rfl) ?_
            refine pw_ld E (pc' := 45) (st' := [pw_i e, pw_i b, pw_i k7_4, .ref 141, pw_i 1, .ref 141]) rfl (fun _ => rfl) ?_
            refine pw_ld E (pc' := 46) (st' := [.ref 141, pw_i e, pw_i b, pw_i k7_4, .ref 141, pw_i 1, .ref 141]) rfl (fun _ => rfl) ?_
            refine pw_getR (b := 148) I7 E (c := 125) (k := 11) (pc' := 49) rfl rfl rfl rfl rfl rfl rfl ?_
            refine pw_ld E (pc' := 51) (st' := [pw_i k7_4, .ref 148, pw_i e, pw_i b, pw_i k7_4, .ref 141, pw_i 1, .ref 141]) rfl (fun _ => rfl) ?_
            refine pw_ald2 I7 E (c := 132) (pc' := 52) rfl rfl rfl (by decide) rfl (by decide) (by omega) (by omega) rfl (fun hf29a hf29b => ?_)
            refine pw_if E (pc' := 59) rfl (by decide) (by omega) (by omega) ?_ ?_
            · intro hc30
              change pw_g gh7 132 (k7_4.toNat) ≠ (0 : Int) at hc30
              exfalso; omega
            · intro hc31
              change ¬ (pw_g gh7 132 (k7_4.toNat) ≠ (0 : Int)) at hc31
              refine pw_ld E (pc' := 56) (st' := [pw_i sg, pw_i e, pw_i b, pw_i k7_4, .ref 141, pw_i 1, .ref 141]) rfl (fun _ => rfl) ?_
              refine pw_goto E (pc' := 61) rfl (by decide) ?_
              obtain ⟨f32l, f32h, -⟩ := pw_obj (c := 125) I7 rfl
              refine pw_call (m' := 227) (As := [.ref 141, pw_i k7_4, pw_i b, pw_i e, pw_i sg]) (rest := [pw_i 1, .ref 141]) (ls'' := [some (.ref 141), some (pw_i k7_4), some (pw_i b), some (pw_i e), some (pw_i sg), none]) (Nat.le_trans (by decide) hd) E rfl (fun _ => pw_iV rfl rfl rfl rfl (pw_cellI f32h rfl)) (rfl : pm_ent 227 = some (5, 6, 12, 0, pmc_227)) rfl rfl (cm_227 (pw_dp hd (by decide)) I7 (k7_4) (by omega) (by omega) (b) (by omega) (by omega) (e) (by omega) (by omega) (sg) (by omega) (by omega)) ?_
              rintro u34 v33 ⟨rfl, x35, rfl, hx35a, hx35b⟩
              refine ⟨_, rfl, ?_⟩
              show pw X d gh7 226 64 [some (.ref 141), some (pw_i b), some (pw_i e), some (pw_i sg), some (pw_i k7_4)] [pw_i x35, pw_i 1, .ref 141] _
              refine pw_i2l E (pc' := 65) rfl rfl (by omega) (by omega) ?_
              obtain ⟨f36l, f36h, -⟩ := pw_obj (c := 125) I7 rfl
              refine pw_call (m' := 220) (As := [.ref 141, pw_i 1, .long (Int64.ofInt x35)]) (rest := []) (ls'' := [some (.ref 141), some (pw_i 1), some (.long (Int64.ofInt x35)), none]) (Nat.le_trans (by decide) hd) E rfl (fun _ => pw_iV rfl rfl rfl rfl (pw_cellI f36h rfl)) (rfl : pm_ent 220 = some (3, 4, 12, 4, pmc_220)) rfl rfl (cm_220 (pw_dp hd (by decide)) I7 (1) (by omega) (by omega) (Int64.ofInt x35) (by omega) (by omega) (by omega)) ?_
              rintro h37 v38 ⟨h37I, h37E, hq39, rfl⟩
              refine ⟨_, rfl, ?_⟩
              have h37F := E7.tr (h37E.wk (W' := [125]) (by first | rfl | simp))
              show pw X d h37 226 68 [some (.ref 141), some (pw_i b), some (pw_i e), some (pw_i sg), some (pw_i k7_4)] [] _
              refine pw_inc E (pc' := 71) (ls' := [some (.ref 141), some (pw_i b), some (pw_i e), some (pw_i sg), some (pw_i (k7_4 + 1))]) rfl rfl rfl rfl ?_
              refine pw_goto E (pc' := 7) rfl (by decide) ?_
              exact ih7 _ (by omega) (k7_4 + 1) h37 h37I h37F (by omega) (by omega) (by omega) (by omega) (by omega) rfl
  exact L7 _ (0) h2 h2I h2F (by omega) (by omega) (by omega) (by omega) (by omega) rfl
set_option maxHeartbeats 4000000 in
theorem cm_216 {X : List (Nat × List Value)} {d : Nat} {h : pm_H} (hd : 5 ≤ d) (I : pw_I h) (a0 : Int) (ha01 : (-2147483648) ≤ a0) (ha02 : a0 ≤ 2147483647) (a1 : Int) (ha11 : (-2147483648) ≤ a1) (ha12 : a1 ≤ 2147483647) (a2 : Int) (ha21 : (-2147483648) ≤ a2) (ha22 : a2 ≤ 2147483647) (a3 : Int) (ha31 : (-2147483648) ≤ a3) (ha32 : a3 ≤ 2147483647) : pw X d h 216 0 [some (.ref 141), some (pw_i a0), some (pw_i a1), some (pw_i a2), some (pw_i a3)] [] (fun h' v => pw_I h' ∧ pw_E [125] h h' ∧ ∃ w : Int64, v = .inl (some (.long w))) := by
  have E : pm_ent 216 = some (5, 5, 12, 2, pmc_216) := rfl
  have E0 : pw_E [125] h h := pw_E.rf _ _
  refine pw_ld E (pc' := 1) (st' := [.ref 141]) rfl (fun _ => rfl) ?_
  refine pw_ld E (pc' := 2) (st' := [pw_i a0, .ref 141]) rfl (fun _ => rfl) ?_
  refine pw_ld E (pc' := 3) (st' := [pw_i a1, pw_i a0, .ref 141]) rfl (fun _ => rfl) ?_
  refine pw_call (m' := 213) (As := [pw_i a0, pw_i a1]) (rest := [.ref 141]) (ls'' := [some (pw_i a0), some (pw_i a1)]) (Nat.le_trans (by decide) hd) E rfl (fun _ => pw_iS rfl rfl rfl) (rfl : pm_ent 213 = some (2, 2, 12, 1, pmc_213)) rfl rfl (cm_213 (pw_dp hd (by decide)) I (a0) (by omega) (by omega) (a1) (by omega) (by omega)) ?_
  rintro u2 v1 ⟨rfl, x3, rfl, hx3a, hx3b, hx3r⟩
  refine ⟨_, rfl, ?_⟩
  show pw X d h 216 6 [some (.ref 141), some (pw_i a0), some (pw_i a1), some (pw_i a2), some (pw_i a3)] [pw_i x3, .ref 141] _
  change (x3 = 1 ∧ 0 ≤ a0 ∧ a0 ≤ 11 ∧ 0 ≤ a1 ∧ a1 ≤ 11) ∨ x3 = 0 at hx3r
  rcases (by omega : x3 = 1 ∨ x3 = 0) with hb4 | hb4
  · skip
    refine pw_if E (pc' := 44) rfl (by decide) (by omega) (by omega) ?_ ?_
    · intro hc5
      change x3 = (0 : Int) at hc5
      exfalso; omega
    · intro hc6
      change ¬ (x3 = (0 : Int)) at hc6
      refine pw_ld E (pc' := 10) (st' := [pw_i a2, .ref 141]) rfl (fun _ => rfl) ?_
      refine pw_ld E (pc' := 11) (st' := [pw_i ((-1)), pw_i a2, .ref 141]) rfl (fun _ => rfl) ?_
      refine pw_if2 E (pc' := 22) rfl (by decide) (by omega) (by omega) (by decide) (by decide) ?_ ?_
      · intro hc7
        change a2 = ((-1) : Int) at hc7
        refine pw_ld E (pc' := 24) (st' := [pw_i a3, .ref 141]) rfl (fun _ => rfl) ?_
        refine pw_call (m' := 217) (As := [pw_i a3]) (rest := [.ref 141]) (ls'' := [some (pw_i a3)]) (Nat.le_trans (by decide) hd) E rfl (fun _ => pw_iS rfl rfl rfl) (rfl : pm_ent 217 = some (1, 1, 12, 1, pmc_217)) rfl rfl (cm_217 (pw_dp hd (by decide)) I (a3) (by omega) (by omega)) ?_
        rintro u9 v8 ⟨rfl, x10, rfl, hx10a, hx10b, hx10r⟩
        refine ⟨_, rfl, ?_⟩
        show pw X d h 216 27 [some (.ref 141), some (pw_i a0), some (pw_i a1), some (pw_i a2), some (pw_i a3)] [pw_i x10, .ref 141] _
        change (x10 = 1 ∧ 0 ≤ a3 ∧ a3 ≤ 1) ∨ (x10 = 0 ∧ ¬ (0 ≤ a3 ∧ a3 ≤ 1)) at hx10r
        rcases (by omega : x10 = 1 ∨ x10 = 0) with hb11 | hb11
        · skip
          refine pw_if E (pc' := 44) rfl (by decide) (by omega) (by omega) ?_ ?_
          · intro hc12
            change x10 = (0 : Int) at hc12
            exfalso; omega
          · intro hc13
            change ¬ (x10 = (0 : Int)) at hc13
            refine pw_ld E (pc' := 31) (st' := [.ref 141, .ref 141]) rfl (fun _ => rfl) ?_
            refine pw_ld E (pc' := 32) (st' := [pw_i a0, .ref 141, .ref 141]) rfl (fun _ => rfl) ?_
            refine pw_ld E (pc' := 33) (st' := [pw_i a1, pw_i a0, .ref 141, .ref 141]) rfl (fun _ => rfl) ?_
            refine pw_ld E (pc' := 34) (st' := [pw_i a2, pw_i a1, pw_i a0, .ref 141, .ref 141]) rfl (fun _ => rfl) ?_
            obtain ⟨f14l, f14h, -⟩ := pw_obj (c := 125) I rfl
            refine pw_call (m' := 218) (As := [.ref 141, pw_i a0, pw_i a1, pw_i a2]) (rest := [.ref 141]) (ls'' := [some (.ref 141), some (pw_i a0), some (pw_i a1), some (pw_i a2), none]) (Nat.le_trans (by decide) hd) E rfl (fun _ => pw_iV rfl rfl rfl rfl (pw_cellI f14h rfl)) (rfl : pm_ent 218 = some (4, 5, 12, 1, pmc_218)) rfl rfl (cm_218 (pw_dp hd (by decide)) I (a0) (by omega) (by omega) (a1) (by omega) (by omega) (a2) (by omega) (by omega)) ?_
            rintro h15 v16 ⟨h15I, h15E, x17, rfl, hx17a, hx17b, hx17r⟩
            refine ⟨_, rfl, ?_⟩
            have h15F := E0.tr (h15E.wk (W' := [125]) (by first | rfl | simp))
            show pw X d h15 216 37 [some (.ref 141), some (pw_i a0), some (pw_i a1), some (pw_i a2), some (pw_i a3)] [pw_i x17, .ref 141] _
            change (x17 = 1 ∧ 1 ≤ pw_gm h15 125 25 ∧ pw_gm h15 125 25 ≤ 576) ∨ x17 = 0 at hx17r
            rcases (by omega : x17 = 1 ∨ x17 = 0) with hb18 | hb18
            · skip
              refine pw_if E (pc' := 44) rfl (by decide) (by omega) (by omega) ?_ ?_
              · intro hc19
                change x17 = (0 : Int) at hc19
                exfalso; omega
              · intro hc20
                change ¬ (x17 = (0 : Int)) at hc20
                refine pw_ld E (pc' := 41) (st' := [pw_i 0, .ref 141]) rfl (fun _ => rfl) ?_
                refine pw_goto E (pc' := 45) rfl (by decide) ?_
                refine pw_putI h15I E (c := 125) (k := 0) (pc' := 48) rfl rfl rfl rfl (by omega) (by omega) (by omega) (by omega) rfl rfl ?_
                intro h21I h21E
                generalize h21w : pw_w h15 125 0 (pw_i 0) = h21 at h21I h21E ⊢
                have h21F := h15F.tr (h21E.wk (W' := [125]) (by first | rfl | simp))
                refine pw_ld E (pc' := 49) (st' := [.ref 141]) rfl (fun _ => rfl) ?_
                have he23 : pw_g h21 125 0 = 0 := by rw [← h21w]; exact pw_g_eq (c := 125) (k := 0) h15I rfl rfl (by omega) (by omega)
                refine pw_getI2 h21I E (c := 125) (k := 0) (pc' := 52) rfl rfl rfl rfl rfl rfl (fun hf22a hf22b => ?_)
                refine pw_if E (pc' := 59) rfl (by decide) (by omega) (by omega) ?_ ?_
                · intro hc24
                  change pw_g h21 125 0 ≤ (0 : Int) at hc24
                  refine pw_ld E (pc' := 60) (st' := [.ref 141]) rfl (fun _ => rfl) ?_
                  refine pw_ld E (pc' := 62) (st' := [pw_i a3, .ref 141]) rfl (fun _ => rfl) ?_
                  have he25 : pw_gm h21 125 25 = pw_gm h15 125 25 := by rw [← h21w]; exact pw_gm_ne (by omega)
                  obtain ⟨f26l, f26h, -⟩ := pw_obj (c := 125) h21I rfl
                  refine pw_call (m' := 222) (As := [.ref 141, pw_i a3]) (rest := []) (ls'' := [some (.ref 141), some (pw_i a3), none, none]) (Nat.le_trans (by decide) hd) E rfl (fun _ => pw_iV rfl rfl rfl rfl (pw_cellI f26h rfl)) (rfl : pm_ent 222 = some (2, 4, 12, 2, pmc_222)) rfl rfl (cm_222 (pw_dp hd (by decide)) h21I (a3) (by omega) (by omega) (by omega)) ?_
                  rintro u28 v27 ⟨rfl, w29, rfl⟩
                  refine ⟨_, rfl, ?_⟩
                  show pw X d h21 216 65 [some (.ref 141), some (pw_i a0), some (pw_i a1), some (pw_i a2), some (pw_i a3)] [.long w29] _
                  refine pw_lret E rfl ?_
                  exact ⟨h21I, h21F, ⟨_, rfl⟩⟩
                · intro hc30
                  change ¬ (pw_g h21 125 0 ≤ (0 : Int)) at hc30
                  exfalso; omega
            · skip
              refine pw_if E (pc' := 44) rfl (by decide) (by omega) (by omega) ?_ ?_
              · intro hc32
                change x17 = (0 : Int) at hc32
                refine pw_ld E (pc' := 45) (st' := [pw_i 1, .ref 141]) rfl (fun _ => rfl) ?_
                refine pw_putI h15I E (c := 125) (k := 0) (pc' := 48) rfl rfl rfl rfl (by omega) (by omega) (by omega) (by omega) rfl rfl ?_
                intro h33I h33E
                generalize h33w : pw_w h15 125 0 (pw_i 1) = h33 at h33I h33E ⊢
                have h33F := h15F.tr (h33E.wk (W' := [125]) (by first | rfl | simp))
                refine pw_ld E (pc' := 49) (st' := [.ref 141]) rfl (fun _ => rfl) ?_
                have he35 : pw_g h33 125 0 = 1 := by rw [← h33w]; exact pw_g_eq (c := 125) (k := 0) h15I rfl rfl (by omega) (by omega)
                refine pw_getI2 h33I E (c := 125) (k := 0) (pc' := 52) rfl rfl rfl rfl rfl rfl (fun hf34a hf34b => ?_)
                refine pw_if E (pc' := 59) rfl (by decide) (by omega) (by omega) ?_ ?_
                · intro hc36
                  change pw_g h33 125 0 ≤ (0 : Int) at hc36
                  exfalso; omega
                · intro hc37
                  change ¬ (pw_g h33 125 0 ≤ (0 : Int)) at hc37
                  refine pw_ld E (pc' := 56) (st' := [.long (Int64.ofInt 0)]) rfl (fun _ => rfl) ?_
                  refine pw_goto E (pc' := 65) rfl (by decide) ?_
                  refine pw_lret E rfl ?_
                  exact ⟨h33I, h33F, ⟨_, rfl⟩⟩
              · intro hc38
                change ¬ (x17 = (0 : Int)) at hc38
                exfalso; omega
        · skip
          refine pw_if E (pc' := 44) rfl (by decide) (by omega) (by omega) ?_ ?_
          · intro hc40
            change x10 = (0 : Int) at hc40
            refine pw_ld E (pc' := 45) (st' := [pw_i 1, .ref 141]) rfl (fun _ => rfl) ?_
            refine pw_putI I E (c := 125) (k := 0) (pc' := 48) rfl rfl rfl rfl (by omega) (by omega) (by omega) (by omega) rfl rfl ?_
            intro h41I h41E
            generalize h41w : pw_w h 125 0 (pw_i 1) = h41 at h41I h41E ⊢
            have h41F := E0.tr (h41E.wk (W' := [125]) (by first | rfl | simp))
            refine pw_ld E (pc' := 49) (st' := [.ref 141]) rfl (fun _ => rfl) ?_
            have he43 : pw_g h41 125 0 = 1 := by rw [← h41w]; exact pw_g_eq (c := 125) (k := 0) I rfl rfl (by omega) (by omega)
            refine pw_getI2 h41I E (c := 125) (k := 0) (pc' := 52) rfl rfl rfl rfl rfl rfl (fun hf42a hf42b => ?_)
            refine pw_if E (pc' := 59) rfl (by decide) (by omega) (by omega) ?_ ?_
            · intro hc44
              change pw_g h41 125 0 ≤ (0 : Int) at hc44
              exfalso; omega
            · intro hc45
              change ¬ (pw_g h41 125 0 ≤ (0 : Int)) at hc45
              refine pw_ld E (pc' := 56) (st' := [.long (Int64.ofInt 0)]) rfl (fun _ => rfl) ?_
              refine pw_goto E (pc' := 65) rfl (by decide) ?_
              refine pw_lret E rfl ?_
              exact ⟨h41I, h41F, ⟨_, rfl⟩⟩
          · intro hc46
            change ¬ (x10 = (0 : Int)) at hc46
            exfalso; omega
      · intro hc47
        change ¬ (a2 = ((-1) : Int)) at hc47
        refine pw_ld E (pc' := 15) (st' := [.ref 141, .ref 141]) rfl (fun _ => rfl) ?_
        refine pw_ld E (pc' := 16) (st' := [pw_i a2, .ref 141, .ref 141]) rfl (fun _ => rfl) ?_
        obtain ⟨f48l, f48h, -⟩ := pw_obj (c := 125) I rfl
        refine pw_call (m' := 204) (As := [.ref 141, pw_i a2]) (rest := [.ref 141]) (ls'' := [some (.ref 141), some (pw_i a2)]) (Nat.le_trans (by decide) hd) E rfl (fun _ => pw_iV rfl rfl rfl rfl (pw_cellI f48h rfl)) (rfl : pm_ent 204 = some (2, 2, 12, 1, pmc_204)) rfl rfl (cm_204 (pw_dp hd (by decide)) I (a2) (by omega) (by omega)) ?_
        rintro u50 v49 ⟨rfl, x51, rfl, hx51a, hx51b, hx51r⟩
        refine ⟨_, rfl, ?_⟩
        show pw X d h 216 19 [some (.ref 141), some (pw_i a0), some (pw_i a1), some (pw_i a2), some (pw_i a3)] [pw_i x51, .ref 141] _
        change (x51 = 1 ∧ 0 ≤ a2 ∧ a2 ≤ 23) ∨ x51 = 0 at hx51r
        rcases (by omega : x51 = 1 ∨ x51 = 0) with hb52 | hb52
        · skip
          refine pw_if E (pc' := 44) rfl (by decide) (by omega) (by omega) ?_ ?_
          · intro hc53
            change x51 = (0 : Int) at hc53
            exfalso; omega
          · intro hc54
            change ¬ (x51 = (0 : Int)) at hc54
            refine pw_ld E (pc' := 24) (st' := [pw_i a3, .ref 141]) rfl (fun _ => rfl) ?_
            refine pw_call (m' := 217) (As := [pw_i a3]) (rest := [.ref 141]) (ls'' := [some (pw_i a3)]) (Nat.le_trans (by decide) hd) E rfl (fun _ => pw_iS rfl rfl rfl) (rfl : pm_ent 217 = some (1, 1, 12, 1, pmc_217)) rfl rfl (cm_217 (pw_dp hd (by decide)) I (a3) (by omega) (by omega)) ?_
            rintro u56 v55 ⟨rfl, x57, rfl, hx57a, hx57b, hx57r⟩
            refine ⟨_, rfl, ?_⟩
            show pw X d h 216 27 [some (.ref 141), some (pw_i a0), some (pw_i a1), some (pw_i a2), some (pw_i a3)] [pw_i x57, .ref 141] _
            change (x57 = 1 ∧ 0 ≤ a3 ∧ a3 ≤ 1) ∨ (x57 = 0 ∧ ¬ (0 ≤ a3 ∧ a3 ≤ 1)) at hx57r
            rcases (by omega : x57 = 1 ∨ x57 = 0) with hb58 | hb58
            · skip
              refine pw_if E (pc' := 44) rfl (by decide) (by omega) (by omega) ?_ ?_
              · intro hc59
                change x57 = (0 : Int) at hc59
                exfalso; omega
              · intro hc60
                change ¬ (x57 = (0 : Int)) at hc60
                refine pw_ld E (pc' := 31) (st' := [.ref 141, .ref 141]) rfl (fun _ => rfl) ?_
                refine pw_ld E (pc' := 32) (st' := [pw_i a0, .ref 141, .ref 141]) rfl (fun _ => rfl) ?_
                refine pw_ld E (pc' := 33) (st' := [pw_i a1, pw_i a0, .ref 141, .ref 141]) rfl (fun _ => rfl) ?_
                refine pw_ld E (pc' := 34) (st' := [pw_i a2, pw_i a1, pw_i a0, .ref 141, .ref 141]) rfl (fun _ => rfl) ?_
                obtain ⟨f61l, f61h, -⟩ := pw_obj (c := 125) I rfl
                refine pw_call (m' := 218) (As := [.ref 141, pw_i a0, pw_i a1, pw_i a2]) (rest := [.ref 141]) (ls'' := [some (.ref 141), some (pw_i a0), some (pw_i a1), some (pw_i a2), none]) (Nat.le_trans (by decide) hd) E rfl (fun _ => pw_iV rfl rfl rfl rfl (pw_cellI f61h rfl)) (rfl : pm_ent 218 = some (4, 5, 12, 1, pmc_218)) rfl rfl (cm_218 (pw_dp hd (by decide)) I (a0) (by omega) (by omega) (a1) (by omega) (by omega) (a2) (by omega) (by omega)) ?_
                rintro h62 v63 ⟨h62I, h62E, x64, rfl, hx64a, hx64b, hx64r⟩
                refine ⟨_, rfl, ?_⟩
                have h62F := E0.tr (h62E.wk (W' := [125]) (by first | rfl | simp))
                show pw X d h62 216 37 [some (.ref 141), some (pw_i a0), some (pw_i a1), some (pw_i a2), some (pw_i a3)] [pw_i x64, .ref 141] _
                change (x64 = 1 ∧ 1 ≤ pw_gm h62 125 25 ∧ pw_gm h62 125 25 ≤ 576) ∨ x64 = 0 at hx64r
                rcases (by omega : x64 = 1 ∨ x64 = 0) with hb65 | hb65
                · skip
                  refine pw_if E (pc' := 44) rfl (by decide) (by omega) (by omega) ?_ ?_
                  · intro hc66
                    change x64 = (0 : Int) at hc66
                    exfalso; omega
                  · intro hc67
                    change ¬ (x64 = (0 : Int)) at hc67
                    refine pw_ld E (pc' := 41) (st' := [pw_i 0, .ref 141]) rfl (fun _ => rfl) ?_
                    refine pw_goto E (pc' := 45) rfl (by decide) ?_
                    refine pw_putI h62I E (c := 125) (k := 0) (pc' := 48) rfl rfl rfl rfl (by omega) (by omega) (by omega) (by omega) rfl rfl ?_
                    intro h68I h68E
                    generalize h68w : pw_w h62 125 0 (pw_i 0) = h68 at h68I h68E ⊢
                    have h68F := h62F.tr (h68E.wk (W' := [125]) (by first | rfl | simp))
                    refine pw_ld E (pc' := 49) (st' := [.ref 141]) rfl (fun _ => rfl) ?_
                    have he70 : pw_g h68 125 0 = 0 := by rw [← h68w]; exact pw_g_eq (c := 125) (k := 0) h62I rfl rfl (by omega) (by omega)
                    refine pw_getI2 h68I E (c := 125) (k := 0) (pc' := 52) rfl rfl rfl rfl rfl rfl (fun hf69a hf69b => ?_)
                    refine pw_if E (pc' := 59) rfl (by decide) (by omega) (by omega) ?_ ?_
                    · intro hc71
                      change pw_g h68 125 0 ≤ (0 : Int) at hc71
                      refine pw_ld E (pc' := 60) (st' := [.ref 141]) rfl (fun _ => rfl) ?_
                      refine pw_ld E (pc' := 62) (st' := [pw_i a3, .ref 141]) rfl (fun _ => rfl) ?_
                      have he72 : pw_gm h68 125 25 = pw_gm h62 125 25 := by rw [← h68w]; exact pw_gm_ne (by omega)
                      obtain ⟨f73l, f73h, -⟩ := pw_obj (c := 125) h68I rfl
                      refine pw_call (m' := 222) (As := [.ref 141, pw_i a3]) (rest := []) (ls'' := [some (.ref 141), some (pw_i a3), none, none]) (Nat.le_trans (by decide) hd) E rfl (fun _ => pw_iV rfl rfl rfl rfl (pw_cellI f73h rfl)) (rfl : pm_ent 222 = some (2, 4, 12, 2, pmc_222)) rfl rfl (cm_222 (pw_dp hd (by decide)) h68I (a3) (by omega) (by omega) (by omega)) ?_
                      rintro u75 v74 ⟨rfl, w76, rfl⟩
                      refine ⟨_, rfl, ?_⟩
                      show pw X d h68 216 65 [some (.ref 141), some (pw_i a0), some (pw_i a1), some (pw_i a2), some (pw_i a3)] [.long w76] _
                      refine pw_lret E rfl ?_
                      exact ⟨h68I, h68F, ⟨_, rfl⟩⟩
                    · intro hc77
                      change ¬ (pw_g h68 125 0 ≤ (0 : Int)) at hc77
                      exfalso; omega
                · skip
                  refine pw_if E (pc' := 44) rfl (by decide) (by omega) (by omega) ?_ ?_
                  · intro hc79
                    change x64 = (0 : Int) at hc79
                    refine pw_ld E (pc' := 45) (st' := [pw_i 1, .ref 141]) rfl (fun _ => rfl) ?_
                    refine pw_putI h62I E (c := 125) (k := 0) (pc' := 48) rfl rfl rfl rfl (by omega) (by omega) (by omega) (by omega) rfl rfl ?_
                    intro h80I h80E
                    generalize h80w : pw_w h62 125 0 (pw_i 1) = h80 at h80I h80E ⊢
                    have h80F := h62F.tr (h80E.wk (W' := [125]) (by first | rfl | simp))
                    refine pw_ld E (pc' := 49) (st' := [.ref 141]) rfl (fun _ => rfl) ?_
                    have he82 : pw_g h80 125 0 = 1 := by rw [← h80w]; exact pw_g_eq (c := 125) (k := 0) h62I rfl rfl (by omega) (by omega)
                    refine pw_getI2 h80I E (c := 125) (k := 0) (pc' := 52) rfl rfl rfl rfl rfl rfl (fun hf81a hf81b => ?_)
                    refine pw_if E (pc' := 59) rfl (by decide) (by omega) (by omega) ?_ ?_
                    · intro hc83
                      change pw_g h80 125 0 ≤ (0 : Int) at hc83
                      exfalso; omega
                    · intro hc84
                      change ¬ (pw_g h80 125 0 ≤ (0 : Int)) at hc84
                      refine pw_ld E (pc' := 56) (st' := [.long (Int64.ofInt 0)]) rfl (fun _ => rfl) ?_
                      refine pw_goto E (pc' := 65) rfl (by decide) ?_
                      refine pw_lret E rfl ?_
                      exact ⟨h80I, h80F, ⟨_, rfl⟩⟩
                  · intro hc85
                    change ¬ (x64 = (0 : Int)) at hc85
                    exfalso; omega
            · skip
              refine pw_if E (pc' := 44) rfl (by decide) (by omega) (by omega) ?_ ?_
              · intro hc87
                change x57 = (0 : Int) at hc87
                refine pw_ld E (pc' := 45) (st' := [pw_i 1, .ref 141]) rfl (fun _ => rfl) ?_
                refine pw_putI I E (c := 125) (k := 0) (pc' := 48) rfl rfl rfl rfl (by omega) (by omega) (by omega) (by omega) rfl rfl ?_
                intro h88I h88E
                generalize h88w : pw_w h 125 0 (pw_i 1) = h88 at h88I h88E ⊢
                have h88F := E0.tr (h88E.wk (W' := [125]) (by first | rfl | simp))
                refine pw_ld E (pc' := 49) (st' := [.ref 141]) rfl (fun _ => rfl) ?_
                have he90 : pw_g h88 125 0 = 1 := by rw [← h88w]; exact pw_g_eq (c := 125) (k := 0) I rfl rfl (by omega) (by omega)
                refine pw_getI2 h88I E (c := 125) (k := 0) (pc' := 52) rfl rfl rfl rfl rfl rfl (fun hf89a hf89b => ?_)
                refine pw_if E (pc' := 59) rfl (by decide) (by omega) (by omega) ?_ ?_
                · intro hc91
                  change pw_g h88 125 0 ≤ (0 : Int) at hc91
                  exfalso; omega
                · intro hc92
                  change ¬ (pw_g h88 125 0 ≤ (0 : Int)) at hc92
                  refine pw_ld E (pc' := 56) (st' := [.long (Int64.ofInt 0)]) rfl (fun _ => rfl) ?_
                  refine pw_goto E (pc' := 65) rfl (by decide) ?_
                  refine pw_lret E rfl ?_
                  exact ⟨h88I, h88F, ⟨_, rfl⟩⟩
              · intro hc93
                change ¬ (x57 = (0 : Int)) at hc93
                exfalso; omega
        · skip
          refine pw_if E (pc' := 44) rfl (by decide) (by omega) (by omega) ?_ ?_
          · intro hc95
            change x51 = (0 : Int) at hc95
            refine pw_ld E (pc' := 45) (st' := [pw_i 1, .ref 141]) rfl (fun _ => rfl) ?_
            refine pw_putI I E (c := 125) (k := 0) (pc' := 48) rfl rfl rfl rfl (by omega) (by omega) (by omega) (by omega) rfl rfl ?_
            intro h96I h96E
            generalize h96w : pw_w h 125 0 (pw_i 1) = h96 at h96I h96E ⊢
            have h96F := E0.tr (h96E.wk (W' := [125]) (by first | rfl | simp))
            refine pw_ld E (pc' := 49) (st' := [.ref 141]) rfl (fun _ => rfl) ?_
            have he98 : pw_g h96 125 0 = 1 := by rw [← h96w]; exact pw_g_eq (c := 125) (k := 0) I rfl rfl (by omega) (by omega)
            refine pw_getI2 h96I E (c := 125) (k := 0) (pc' := 52) rfl rfl rfl rfl rfl rfl (fun hf97a hf97b => ?_)
            refine pw_if E (pc' := 59) rfl (by decide) (by omega) (by omega) ?_ ?_
            · intro hc99
              change pw_g h96 125 0 ≤ (0 : Int) at hc99
              exfalso; omega
            · intro hc100
              change ¬ (pw_g h96 125 0 ≤ (0 : Int)) at hc100
              refine pw_ld E (pc' := 56) (st' := [.long (Int64.ofInt 0)]) rfl (fun _ => rfl) ?_
              refine pw_goto E (pc' := 65) rfl (by decide) ?_
              refine pw_lret E rfl ?_
              exact ⟨h96I, h96F, ⟨_, rfl⟩⟩
          · intro hc101
            change ¬ (x51 = (0 : Int)) at hc101
            exfalso; omega
  · skip
    refine pw_if E (pc' := 44) rfl (by decide) (by omega) (by omega) ?_ ?_
    · intro hc103
      change x3 = (0 : Int) at hc103
      refine pw_ld E (pc' := 45) (st' := [pw_i 1, .ref 141]) rfl (fun _ => rfl) ?_
      refine pw_putI I E (c := 125) (k := 0) (pc' := 48) rfl rfl rfl rfl (by omega) (by omega) (by omega) (by omega) rfl rfl ?_
      intro h104I h104E
      generalize h104w : pw_w h 125 0 (pw_i 1) = h104 at h104I h104E ⊢
      have h104F := E0.tr (h104E.wk (W' := [125]) (by first | rfl | simp))
      refine pw_ld E (pc' := 49) (st' := [.ref 141]) rfl (fun _ => rfl) ?_
      have he106 : pw_g h104 125 0 = 1 := by rw [← h104w]; exact pw_g_eq (c := 125) (k := 0) I rfl rfl (by omega) (by omega)
      refine pw_getI2 h104I E (c := 125) (k := 0) (pc' := 52) rfl rfl rfl rfl rfl rfl (fun hf105a hf105b => ?_)
      refine pw_if E (pc' := 59) rfl (by decide) (by omega) (by omega) ?_ ?_
      · intro hc107
        change pw_g h104 125 0 ≤ (0 : Int) at hc107
        exfalso; omega
      · intro hc108
        change ¬ (pw_g h104 125 0 ≤ (0 : Int)) at hc108
        refine pw_ld E (pc' := 56) (st' := [.long (Int64.ofInt 0)]) rfl (fun _ => rfl) ?_
        refine pw_goto E (pc' := 65) rfl (by decide) ?_
        refine pw_lret E rfl ?_
        exact ⟨h104I, h104F, ⟨_, rfl⟩⟩
    · intro hc109
      change ¬ (x3 = (0 : Int)) at hc109
      exfalso; omega
set_option maxHeartbeats 4000000 in
theorem cm_224 {X : List (Nat × List Value)} {d : Nat} {h : pm_H} (hd : 5 ≤ d) (I : pw_I h) (a0 : Int) (ha01 : (-2147483648) ≤ a0) (ha02 : a0 ≤ 2147483647) (a1 : Int) (ha11 : (-2147483648) ≤ a1) (ha12 : a1 ≤ 2147483647) (a2 : Int) (ha21 : (-2147483648) ≤ a2) (ha22 : a2 ≤ 2147483647) (a3 : Int) (ha31 : (-2147483648) ≤ a3) (ha32 : a3 ≤ 2147483647) : pw X d h 224 0 [some (.ref 141), some (pw_i a0), some (pw_i a1), some (pw_i a2), some (pw_i a3), none, none, none, none] [] (fun h' v => pw_I h' ∧ pw_E [125] h h' ∧ ∃ w : Int64, v = .inl (some (.long w))) := by
  have E : pm_ent 224 = some (5, 9, 12, 2, pmc_224) := rfl
  have E0 : pw_E [125] h h := pw_E.rf _ _
  refine pw_ld E (pc' := 1) (st' := [.ref 141]) rfl (fun _ => rfl) ?_
  refine pw_ld E (pc' := 2) (st' := [pw_i a0, .ref 141]) rfl (fun _ => rfl) ?_
  refine pw_ld E (pc' := 3) (st' := [pw_i a1, pw_i a0, .ref 141]) rfl (fun _ => rfl) ?_
  refine pw_call (m' := 213) (As := [pw_i a0, pw_i a1]) (rest := [.ref 141]) (ls'' := [some (pw_i a0), some (pw_i a1)]) (Nat.le_trans (by decide) hd) E rfl (fun _ => pw_iS rfl rfl rfl) (rfl : pm_ent 213 = some (2, 2, 12, 1, pmc_213)) rfl rfl (cm_213 (pw_dp hd (by decide)) I (a0) (by omega) (by omega) (a1) (by omega) (by omega)) ?_
  rintro u2 v1 ⟨rfl, x3, rfl, hx3a, hx3b, hx3r⟩
  refine ⟨_, rfl, ?_⟩
  show pw X d h 224 6 [some (.ref 141), some (pw_i a0), some (pw_i a1), some (pw_i a2), some (pw_i a3), none, none, none, none] [pw_i x3, .ref 141] _
  change (x3 = 1 ∧ 0 ≤ a0 ∧ a0 ≤ 11 ∧ 0 ≤ a1 ∧ a1 ≤ 11) ∨ x3 = 0 at hx3r
  rcases (by omega : x3 = 1 ∨ x3 = 0) with hb4 | hb4
  · skip
    refine pw_if E (pc' := 49) rfl (by decide) (by omega) (by omega) ?_ ?_
    · intro hc5
      change x3 = (0 : Int) at hc5
      exfalso; omega
    · intro hc6
      change ¬ (x3 = (0 : Int)) at hc6
      refine pw_ld E (pc' := 10) (st' := [.ref 141, .ref 141]) rfl (fun _ => rfl) ?_
      refine pw_ld E (pc' := 11) (st' := [pw_i a2, .ref 141, .ref 141]) rfl (fun _ => rfl) ?_
      obtain ⟨f7l, f7h, -⟩ := pw_obj (c := 125) I rfl
      refine pw_call (m' := 204) (As := [.ref 141, pw_i a2]) (rest := [.ref 141]) (ls'' := [some (.ref 141), some (pw_i a2)]) (Nat.le_trans (by decide) hd) E rfl (fun _ => pw_iV rfl rfl rfl rfl (pw_cellI f7h rfl)) (rfl : pm_ent 204 = some (2, 2, 12, 1, pmc_204)) rfl rfl (cm_204 (pw_dp hd (by decide)) I (a2) (by omega) (by omega)) ?_
      rintro u9 v8 ⟨rfl, x10, rfl, hx10a, hx10b, hx10r⟩
      refine ⟨_, rfl, ?_⟩
      show pw X d h 224 14 [some (.ref 141), some (pw_i a0), some (pw_i a1), some (pw_i a2), some (pw_i a3), none, none, none, none] [pw_i x10, .ref 141] _
      change (x10 = 1 ∧ 0 ≤ a2 ∧ a2 ≤ 23) ∨ x10 = 0 at hx10r
      rcases (by omega : x10 = 1 ∨ x10 = 0) with hb11 | hb11
      · skip
        refine pw_if E (pc' := 49) rfl (by decide) (by omega) (by omega) ?_ ?_
        · intro hc12
          change x10 = (0 : Int) at hc12
          exfalso; omega
        · intro hc13
          change ¬ (x10 = (0 : Int)) at hc13
          refine pw_ld E (pc' := 18) (st' := [.ref 141, .ref 141]) rfl (fun _ => rfl) ?_
          refine pw_ld E (pc' := 19) (st' := [pw_i a2, .ref 141, .ref 141]) rfl (fun _ => rfl) ?_
          refine pw_ld E (pc' := 20) (st' := [pw_i a0, pw_i a2, .ref 141, .ref 141]) rfl (fun _ => rfl) ?_
          refine pw_ld E (pc' := 21) (st' := [pw_i a1, pw_i a0, pw_i a2, .ref 141, .ref 141]) rfl (fun _ => rfl) ?_
          obtain ⟨f14l, f14h, -⟩ := pw_obj (c := 125) I rfl
          refine pw_call (m' := 214) (As := [.ref 141, pw_i a2, pw_i a0, pw_i a1]) (rest := [.ref 141]) (ls'' := [some (.ref 141), some (pw_i a2), some (pw_i a0), some (pw_i a1)]) (Nat.le_trans (by decide) hd) E rfl (fun _ => pw_iV rfl rfl rfl rfl (pw_cellI f14h rfl)) (rfl : pm_ent 214 = some (4, 4, 12, 1, pmc_214)) rfl rfl (cm_214 (pw_dp hd (by decide)) I (a2) (by omega) (by omega) (a0) (by omega) (by omega) (a1) (by omega) (by omega)) ?_
          rintro u16 v15 ⟨rfl, x17, rfl, hx17a, hx17b⟩
          refine ⟨_, rfl, ?_⟩
          show pw X d h 224 24 [some (.ref 141), some (pw_i a0), some (pw_i a1), some (pw_i a2), some (pw_i a3), none, none, none, none] [pw_i x17, .ref 141] _
          refine pw_if E (pc' := 49) rfl (by decide) (by omega) (by omega) ?_ ?_
          · intro hc18
            change x17 = (0 : Int) at hc18
            refine pw_ld E (pc' := 50) (st' := [pw_i 1, .ref 141]) rfl (fun _ => rfl) ?_
            refine pw_putI I E (c := 125) (k := 0) (pc' := 53) rfl rfl rfl rfl (by omega) (by omega) (by omega) (by omega) rfl rfl ?_
            intro h19I h19E
            generalize h19w : pw_w h 125 0 (pw_i 1) = h19 at h19I h19E ⊢
            have h19F := E0.tr (h19E.wk (W' := [125]) (by first | rfl | simp))
            refine pw_ld E (pc' := 54) (st' := [.ref 141]) rfl (fun _ => rfl) ?_
            refine pw_getL h19I E (c := 125) (k := 24) (pc' := 57) rfl rfl rfl rfl rfl rfl ?_
            refine pw_lst E (pc' := 59) (ls' := [some (.ref 141), some (pw_i a0), some (pw_i a1), some (pw_i a2), some (pw_i a3), some (.long (pw_gl h19 125 24)), none, none, none]) rfl rfl rfl rfl ?_
            refine pw_ld E (pc' := 60) (st' := [.ref 141]) rfl (fun _ => rfl) ?_
            refine pw_getM h19I E (c := 125) (k := 25) (pc' := 63) rfl rfl rfl rfl rfl rfl (fun hf20a hf20b => ?_)
            refine pw_lst E (pc' := 65) (ls' := [some (.ref 141), some (pw_i a0), some (pw_i a1), some (pw_i a2), some (pw_i a3), some (.long (pw_gl h19 125 24)), none, some (.long (Int64.ofInt (pw_gm h19 125 25))), none]) rfl rfl rfl rfl ?_
            refine pw_ld E (pc' := 66) (st' := [.ref 141]) rfl (fun _ => rfl) ?_
            refine pw_ld E (pc' := 67) (st' := [.ref 141, .ref 141]) rfl (fun _ => rfl) ?_
            have he22 : pw_g h19 125 0 = 1 := by rw [← h19w]; exact pw_g_eq (c := 125) (k := 0) I rfl rfl (by omega) (by omega)
            refine pw_getI2 h19I E (c := 125) (k := 0) (pc' := 70) rfl rfl rfl rfl rfl rfl (fun hf21a hf21b => ?_)
            refine pw_if E (pc' := 83) rfl (by decide) (by omega) (by omega) ?_ ?_
            · intro hc23
              change (0 : Int) < pw_g h19 125 0 at hc23
              refine pw_ld E (pc' := 84) (st' := [pw_i 1, .ref 141]) rfl (fun _ => rfl) ?_
              refine pw_goto E (pc' := 88) rfl (by decide) ?_
              refine pw_putI h19I E (c := 125) (k := 0) (pc' := 91) rfl rfl rfl rfl (by omega) (by omega) (by omega) (by omega) rfl rfl ?_
              intro h24I h24E
              generalize h24w : pw_w h19 125 0 (pw_i 1) = h24 at h24I h24E ⊢
              have h24F := h19F.tr (h24E.wk (W' := [125]) (by first | rfl | simp))
              refine pw_ld E (pc' := 92) (st' := [.ref 141]) rfl (fun _ => rfl) ?_
              have he26 : pw_g h24 125 0 = 1 := by rw [← h24w]; exact pw_g_eq (c := 125) (k := 0) h19I rfl rfl (by omega) (by omega)
              refine pw_getI2 h24I E (c := 125) (k := 0) (pc' := 95) rfl rfl rfl rfl rfl rfl (fun hf25a hf25b => ?_)
              refine pw_if E (pc' := 100) rfl (by decide) (by omega) (by omega) ?_ ?_
              · intro hc27
                change pw_g h24 125 0 ≤ (0 : Int) at hc27
                exfalso; omega
              · intro hc28
                change ¬ (pw_g h24 125 0 ≤ (0 : Int)) at hc28
                refine pw_ld E (pc' := 99) (st' := [.long (Int64.ofInt 0)]) rfl (fun _ => rfl) ?_
                refine pw_lret E rfl ?_
                exact ⟨h24I, h24F, ⟨_, rfl⟩⟩
            · intro hc29
              change ¬ ((0 : Int) < pw_g h19 125 0) at hc29
              exfalso; omega
          · intro hc30
            change ¬ (x17 = (0 : Int)) at hc30
            refine pw_ld E (pc' := 29) (st' := [pw_i a3, .ref 141]) rfl (fun _ => rfl) ?_
            refine pw_call (m' := 217) (As := [pw_i a3]) (rest := [.ref 141]) (ls'' := [some (pw_i a3)]) (Nat.le_trans (by decide) hd) E rfl (fun _ => pw_iS rfl rfl rfl) (rfl : pm_ent 217 = some (1, 1, 12, 1, pmc_217)) rfl rfl (cm_217 (pw_dp hd (by decide)) I (a3) (by omega) (by omega)) ?_
            rintro u32 v31 ⟨rfl, x33, rfl, hx33a, hx33b, hx33r⟩
            refine ⟨_, rfl, ?_⟩
            show pw X d h 224 32 [some (.ref 141), some (pw_i a0), some (pw_i a1), some (pw_i a2), some (pw_i a3), none, none, none, none] [pw_i x33, .ref 141] _
            change (x33 = 1 ∧ 0 ≤ a3 ∧ a3 ≤ 1) ∨ (x33 = 0 ∧ ¬ (0 ≤ a3 ∧ a3 ≤ 1)) at hx33r
            rcases (by omega : x33 = 1 ∨ x33 = 0) with hb34 | hb34
            · skip
              refine pw_if E (pc' := 49) rfl (by decide) (by omega) (by omega) ?_ ?_
              · intro hc35
                change x33 = (0 : Int) at hc35
                exfalso; omega
              · intro hc36
                change ¬ (x33 = (0 : Int)) at hc36
                refine pw_ld E (pc' := 36) (st' := [.ref 141, .ref 141]) rfl (fun _ => rfl) ?_
                refine pw_ld E (pc' := 37) (st' := [pw_i a0, .ref 141, .ref 141]) rfl (fun _ => rfl) ?_
                refine pw_ld E (pc' := 38) (st' := [pw_i a1, pw_i a0, .ref 141, .ref 141]) rfl (fun _ => rfl) ?_
                refine pw_ld E (pc' := 39) (st' := [pw_i ((-1)), pw_i a1, pw_i a0, .ref 141, .ref 141]) rfl (fun _ => rfl) ?_
                obtain ⟨f37l, f37h, -⟩ := pw_obj (c := 125) I rfl
                refine pw_call (m' := 218) (As := [.ref 141, pw_i a0, pw_i a1, pw_i ((-1))]) (rest := [.ref 141]) (ls'' := [some (.ref 141), some (pw_i a0), some (pw_i a1), some (pw_i ((-1))), none]) (Nat.le_trans (by decide) hd) E rfl (fun _ => pw_iV rfl rfl rfl rfl (pw_cellI f37h rfl)) (rfl : pm_ent 218 = some (4, 5, 12, 1, pmc_218)) rfl rfl (cm_218 (pw_dp hd (by decide)) I (a0) (by omega) (by omega) (a1) (by omega) (by omega) ((-1)) (by omega) (by omega)) ?_
                rintro h38 v39 ⟨h38I, h38E, x40, rfl, hx40a, hx40b, hx40r⟩
                refine ⟨_, rfl, ?_⟩
                have h38F := E0.tr (h38E.wk (W' := [125]) (by first | rfl | simp))
                show pw X d h38 224 42 [some (.ref 141), some (pw_i a0), some (pw_i a1), some (pw_i a2), some (pw_i a3), none, none, none, none] [pw_i x40, .ref 141] _
                change (x40 = 1 ∧ 1 ≤ pw_gm h38 125 25 ∧ pw_gm h38 125 25 ≤ 576) ∨ x40 = 0 at hx40r
                rcases (by omega : x40 = 1 ∨ x40 = 0) with hb41 | hb41
                · skip
                  refine pw_if E (pc' := 49) rfl (by decide) (by omega) (by omega) ?_ ?_
                  · intro hc42
                    change x40 = (0 : Int) at hc42
                    exfalso; omega
                  · intro hc43
                    change ¬ (x40 = (0 : Int)) at hc43
                    refine pw_ld E (pc' := 46) (st' := [pw_i 0, .ref 141]) rfl (fun _ => rfl) ?_
                    refine pw_goto E (pc' := 50) rfl (by decide) ?_
                    refine pw_putI h38I E (c := 125) (k := 0) (pc' := 53) rfl rfl rfl rfl (by omega) (by omega) (by omega) (by omega) rfl rfl ?_
                    intro h44I h44E
                    generalize h44w : pw_w h38 125 0 (pw_i 0) = h44 at h44I h44E ⊢
                    have h44F := h38F.tr (h44E.wk (W' := [125]) (by first | rfl | simp))
                    refine pw_ld E (pc' := 54) (st' := [.ref 141]) rfl (fun _ => rfl) ?_
                    refine pw_getL h44I E (c := 125) (k := 24) (pc' := 57) rfl rfl rfl rfl rfl rfl ?_
                    refine pw_lst E (pc' := 59) (ls' := [some (.ref 141), some (pw_i a0), some (pw_i a1), some (pw_i a2), some (pw_i a3), some (.long (pw_gl h44 125 24)), none, none, none]) rfl rfl rfl rfl ?_
                    refine pw_ld E (pc' := 60) (st' := [.ref 141]) rfl (fun _ => rfl) ?_
                    have he46 : pw_gm h44 125 25 = pw_gm h38 125 25 := by rw [← h44w]; exact pw_gm_ne (by omega)
                    refine pw_getM h44I E (c := 125) (k := 25) (pc' := 63) rfl rfl rfl rfl rfl rfl (fun hf45a hf45b => ?_)
                    refine pw_lst E (pc' := 65) (ls' := [some (.ref 141), some (pw_i a0), some (pw_i a1), some (pw_i a2), some (pw_i a3), some (.long (pw_gl h44 125 24)), none, some (.long (Int64.ofInt (pw_gm h44 125 25))), none]) rfl rfl rfl rfl ?_
                    refine pw_ld E (pc' := 66) (st' := [.ref 141]) rfl (fun _ => rfl) ?_
                    refine pw_ld E (pc' := 67) (st' := [.ref 141, .ref 141]) rfl (fun _ => rfl) ?_
                    have he48 : pw_g h44 125 0 = 0 := by rw [← h44w]; exact pw_g_eq (c := 125) (k := 0) h38I rfl rfl (by omega) (by omega)
                    refine pw_getI2 h44I E (c := 125) (k := 0) (pc' := 70) rfl rfl rfl rfl rfl rfl (fun hf47a hf47b => ?_)
                    refine pw_if E (pc' := 83) rfl (by decide) (by omega) (by omega) ?_ ?_
                    · intro hc49
                      change (0 : Int) < pw_g h44 125 0 at hc49
                      exfalso; omega
                    · intro hc50
                      change ¬ ((0 : Int) < pw_g h44 125 0) at hc50
                      refine pw_ld E (pc' := 74) (st' := [.ref 141, .ref 141]) rfl (fun _ => rfl) ?_
                      refine pw_ld E (pc' := 75) (st' := [pw_i a0, .ref 141, .ref 141]) rfl (fun _ => rfl) ?_
                      refine pw_ld E (pc' := 76) (st' := [pw_i a1, pw_i a0, .ref 141, .ref 141]) rfl (fun _ => rfl) ?_
                      refine pw_ld E (pc' := 77) (st' := [pw_i a2, pw_i a1, pw_i a0, .ref 141, .ref 141]) rfl (fun _ => rfl) ?_
                      obtain ⟨f51l, f51h, -⟩ := pw_obj (c := 125) h44I rfl
                      refine pw_call (m' := 218) (As := [.ref 141, pw_i a0, pw_i a1, pw_i a2]) (rest := [.ref 141]) (ls'' := [some (.ref 141), some (pw_i a0), some (pw_i a1), some (pw_i a2), none]) (Nat.le_trans (by decide) hd) E rfl (fun _ => pw_iV rfl rfl rfl rfl (pw_cellI f51h rfl)) (rfl : pm_ent 218 = some (4, 5, 12, 1, pmc_218)) rfl rfl (cm_218 (pw_dp hd (by decide)) h44I (a0) (by omega) (by omega) (a1) (by omega) (by omega) (a2) (by omega) (by omega)) ?_
                      rintro h52 v53 ⟨h52I, h52E, x54, rfl, hx54a, hx54b, hx54r⟩
                      refine ⟨_, rfl, ?_⟩
                      have h52F := h44F.tr (h52E.wk (W' := [125]) (by first | rfl | simp))
                      show pw X d h52 224 80 [some (.ref 141), some (pw_i a0), some (pw_i a1), some (pw_i a2), some (pw_i a3), some (.long (pw_gl h44 125 24)), none, some (.long (Int64.ofInt (pw_gm h44 125 25))), none] [pw_i x54, .ref 141] _
                      change (x54 = 1 ∧ 1 ≤ pw_gm h52 125 25 ∧ pw_gm h52 125 25 ≤ 576) ∨ x54 = 0 at hx54r
                      rcases (by omega : x54 = 1 ∨ x54 = 0) with hb55 | hb55
                      · skip
                        refine pw_if E (pc' := 87) rfl (by decide) (by omega) (by omega) ?_ ?_
                        · intro hc56
                          change x54 ≠ (0 : Int) at hc56
                          refine pw_ld E (pc' := 88) (st' := [pw_i 0, .ref 141]) rfl (fun _ => rfl) ?_
                          refine pw_putI h52I E (c := 125) (k := 0) (pc' := 91) rfl rfl rfl rfl (by omega) (by omega) (by omega) (by omega) rfl rfl ?_
                          intro h57I h57E
                          generalize h57w : pw_w h52 125 0 (pw_i 0) = h57 at h57I h57E ⊢
                          have h57F := h52F.tr (h57E.wk (W' := [125]) (by first | rfl | simp))
                          refine pw_ld E (pc' := 92) (st' := [.ref 141]) rfl (fun _ => rfl) ?_
                          have he59 : pw_g h57 125 0 = 0 := by rw [← h57w]; exact pw_g_eq (c := 125) (k := 0) h52I rfl rfl (by omega) (by omega)
                          refine pw_getI2 h57I E (c := 125) (k := 0) (pc' := 95) rfl rfl rfl rfl rfl rfl (fun hf58a hf58b => ?_)
                          refine pw_if E (pc' := 100) rfl (by decide) (by omega) (by omega) ?_ ?_
                          · intro hc60
                            change pw_g h57 125 0 ≤ (0 : Int) at hc60
                            refine pw_ld E (pc' := 101) (st' := [.ref 141]) rfl (fun _ => rfl) ?_
                            refine pw_ld E (pc' := 103) (st' := [.long (pw_gl h44 125 24), .ref 141]) rfl (fun _ => rfl) ?_
                            refine pw_ld E (pc' := 104) (st' := [.ref 141, .long (pw_gl h44 125 24), .ref 141]) rfl (fun _ => rfl) ?_
                            have he62 : pw_gm h57 125 25 = pw_gm h52 125 25 := by rw [← h57w]; exact pw_gm_ne (by omega)
                            refine pw_getM h57I E (c := 125) (k := 25) (pc' := 107) rfl rfl rfl rfl rfl rfl (fun hf61a hf61b => ?_)
                            refine pw_ld E (pc' := 108) (st' := [.long ((pw_gl h44 125 24) * (Int64.ofInt (pw_gm h57 125 25))), .ref 141]) rfl (fun _ => rfl) ?_
                            refine pw_ld E (pc' := 109) (st' := [.ref 141, .long ((pw_gl h44 125 24) * (Int64.ofInt (pw_gm h57 125 25))), .ref 141]) rfl (fun _ => rfl) ?_
                            refine pw_getL h57I E (c := 125) (k := 24) (pc' := 112) rfl rfl rfl rfl rfl rfl ?_
                            refine pw_ld E (pc' := 114) (st' := [.long (Int64.ofInt (pw_gm h44 125 25)), .long (pw_gl h57 125 24), .long ((pw_gl h44 125 24) * (Int64.ofInt (pw_gm h57 125 25))), .ref 141]) rfl (fun _ => rfl) ?_
                            refine pw_ld E (pc' := 115) (st' := [.long ((pw_gl h57 125 24) * (Int64.ofInt (pw_gm h44 125 25))), .long ((pw_gl h44 125 24) * (Int64.ofInt (pw_gm h57 125 25))), .ref 141]) rfl (fun _ => rfl) ?_
                            refine pw_ld E (pc' := 116) (st' := [.long (((pw_gl h44 125 24) * (Int64.ofInt (pw_gm h57 125 25))) - ((pw_gl h57 125 24) * (Int64.ofInt (pw_gm h44 125 25)))), .ref 141]) rfl (fun _ => rfl) ?_
                            refine pw_putL h57I E (c := 125) (k := 24) (pc' := 119) rfl rfl rfl rfl rfl rfl ?_
                            intro h63I h63E
                            generalize h63w : pw_w h57 125 24 (.long (((pw_gl h44 125 24) * (Int64.ofInt (pw_gm h57 125 25))) - ((pw_gl h57 125 24) * (Int64.ofInt (pw_gm h44 125 25))))) = h63 at h63I h63E ⊢
                            have h63F := h57F.tr (h63E.wk (W' := [125]) (by first | rfl | simp))
                            refine pw_ld E (pc' := 120) (st' := [.ref 141]) rfl (fun _ => rfl) ?_
                            refine pw_ld E (pc' := 122) (st' := [.long (Int64.ofInt (pw_gm h44 125 25)), .ref 141]) rfl (fun _ => rfl) ?_
                            refine pw_ld E (pc' := 123) (st' := [.ref 141, .long (Int64.ofInt (pw_gm h44 125 25)), .ref 141]) rfl (fun _ => rfl) ?_
                            have he65 : pw_gm h63 125 25 = pw_gm h57 125 25 := by rw [← h63w]; exact pw_gm_ne (by omega)
                            refine pw_getM h63I E (c := 125) (k := 25) (pc' := 126) rfl rfl rfl rfl rfl rfl (fun hf64a hf64b => ?_)
                            have hm66 := pw_mulB (a := pw_gm h44 125 25) (b := pw_gm h63 125 25) (A := 576) (B := 576) (by omega) (by omega) (by omega) (by omega)
                            refine pw_lmul E (pc' := 127) rfl rfl ?_
                            refine pw_putM h63I E (c := 125) (k := 25) (pc' := 130) rfl rfl rfl rfl (by omega) (by omega) (by omega) (by omega) rfl rfl ?_
                            intro h67I h67E
                            generalize h67w : pw_w h63 125 25 (.long (Int64.ofInt ((pw_gm h44 125 25) * (pw_gm h63 125 25)))) = h67 at h67I h67E ⊢
                            have h67F := h63F.tr (h67E.wk (W' := [125]) (by first | rfl | simp))
                            refine pw_ld E (pc' := 131) (st' := [.ref 141]) rfl (fun _ => rfl) ?_
                            refine pw_ld E (pc' := 133) (st' := [pw_i a3, .ref 141]) rfl (fun _ => rfl) ?_
                            have he68 : pw_gm h67 125 25 = (pw_gm h44 125 25) * (pw_gm h63 125 25) := by rw [← h67w]; exact pw_gm_eq (c := 125) (k := 25) h63I rfl rfl (by omega) (by omega)
                            obtain ⟨f69l, f69h, -⟩ := pw_obj (c := 125) h67I rfl
                            refine pw_call (m' := 222) (As := [.ref 141, pw_i a3]) (rest := []) (ls'' := [some (.ref 141), some (pw_i a3), none, none]) (Nat.le_trans (by decide) hd) E rfl (fun _ => pw_iV rfl rfl rfl rfl (pw_cellI f69h rfl)) (rfl : pm_ent 222 = some (2, 4, 12, 2, pmc_222)) rfl rfl (cm_222 (pw_dp hd (by decide)) h67I (a3) (by omega) (by omega) (by omega)) ?_
                            rintro u71 v70 ⟨rfl, w72, rfl⟩
                            refine ⟨_, rfl, ?_⟩
                            show pw X d h67 224 136 [some (.ref 141), some (pw_i a0), some (pw_i a1), some (pw_i a2), some (pw_i a3), some (.long (pw_gl h44 125 24)), none, some (.long (Int64.ofInt (pw_gm h44 125 25))), none] [.long w72] _
                            refine pw_lret E rfl ?_
                            exact ⟨h67I, h67F, ⟨_, rfl⟩⟩
                          · intro hc73
                            change ¬ (pw_g h57 125 0 ≤ (0 : Int)) at hc73
                            exfalso; omega
                        · intro hc74
                          change ¬ (x54 ≠ (0 : Int)) at hc74
                          exfalso; omega
                      · skip
                        refine pw_if E (pc' := 87) rfl (by decide) (by omega) (by omega) ?_ ?_
                        · intro hc76
                          change x54 ≠ (0 : Int) at hc76
                          exfalso; omega
                        · intro hc77
                          change ¬ (x54 ≠ (0 : Int)) at hc77
                          refine pw_ld E (pc' := 84) (st' := [pw_i 1, .ref 141]) rfl (fun _ => rfl) ?_
                          refine pw_goto E (pc' := 88) rfl (by decide) ?_
                          refine pw_putI h52I E (c := 125) (k := 0) (pc' := 91) rfl rfl rfl rfl (by omega) (by omega) (by omega) (by omega) rfl rfl ?_
                          intro h78I h78E
                          generalize h78w : pw_w h52 125 0 (pw_i 1) = h78 at h78I h78E ⊢
                          have h78F := h52F.tr (h78E.wk (W' := [125]) (by first | rfl | simp))
                          refine pw_ld E (pc' := 92) (st' := [.ref 141]) rfl (fun _ => rfl) ?_
                          have he80 : pw_g h78 125 0 = 1 := by rw [← h78w]; exact pw_g_eq (c := 125) (k := 0) h52I rfl rfl (by omega) (by omega)
                          refine pw_getI2 h78I E (c := 125) (k := 0) (pc' := 95) rfl rfl rfl rfl rfl rfl (fun hf79a hf79b => ?_)
                          refine pw_if E (pc' := 100) rfl (by decide) (by omega) (by omega) ?_ ?_
                          · intro hc81
                            change pw_g h78 125 0 ≤ (0 : Int) at hc81
                            exfalso; omega
                          · intro hc82
                            change ¬ (pw_g h78 125 0 ≤ (0 : Int)) at hc82
                            refine pw_ld E (pc' := 99) (st' := [.long (Int64.ofInt 0)]) rfl (fun _ => rfl) ?_
                            refine pw_lret E rfl ?_
                            exact ⟨h78I, h78F, ⟨_, rfl⟩⟩
                · skip
                  refine pw_if E (pc' := 49) rfl (by decide) (by omega) (by omega) ?_ ?_
                  · intro hc84
                    change x40 = (0 : Int) at hc84
                    refine pw_ld E (pc' := 50) (st' := [pw_i 1, .ref 141]) rfl (fun _ => rfl) ?_
                    refine pw_putI h38I E (c := 125) (k := 0) (pc' := 53) rfl rfl rfl rfl (by omega) (by omega) (by omega) (by omega) rfl rfl ?_
                    intro h85I h85E
                    generalize h85w : pw_w h38 125 0 (pw_i 1) = h85 at h85I h85E ⊢
                    have h85F := h38F.tr (h85E.wk (W' := [125]) (by first | rfl | simp))
                    refine pw_ld E (pc' := 54) (st' := [.ref 141]) rfl (fun _ => rfl) ?_
                    refine pw_getL h85I E (c := 125) (k := 24) (pc' := 57) rfl rfl rfl rfl rfl rfl ?_
                    refine pw_lst E (pc' := 59) (ls' := [some (.ref 141), some (pw_i a0), some (pw_i a1), some (pw_i a2), some (pw_i a3), some (.long (pw_gl h85 125 24)), none, none, none]) rfl rfl rfl rfl ?_
                    refine pw_ld E (pc' := 60) (st' := [.ref 141]) rfl (fun _ => rfl) ?_
                    have he87 : pw_gm h85 125 25 = pw_gm h38 125 25 := by rw [← h85w]; exact pw_gm_ne (by omega)
                    refine pw_getM h85I E (c := 125) (k := 25) (pc' := 63) rfl rfl rfl rfl rfl rfl (fun hf86a hf86b => ?_)
                    refine pw_lst E (pc' := 65) (ls' := [some (.ref 141), some (pw_i a0), some (pw_i a1), some (pw_i a2), some (pw_i a3), some (.long (pw_gl h85 125 24)), none, some (.long (Int64.ofInt (pw_gm h85 125 25))), none]) rfl rfl rfl rfl ?_
                    refine pw_ld E (pc' := 66) (st' := [.ref 141]) rfl (fun _ => rfl) ?_
                    refine pw_ld E (pc' := 67) (st' := [.ref 141, .ref 141]) rfl (fun _ => rfl) ?_
                    have he89 : pw_g h85 125 0 = 1 := by rw [← h85w]; exact pw_g_eq (c := 125) (k := 0) h38I rfl rfl (by omega) (by omega)
                    refine pw_getI2 h85I E (c := 125) (k := 0) (pc' := 70) rfl rfl rfl rfl rfl rfl (fun hf88a hf88b => ?_)
                    refine pw_if E (pc' := 83) rfl (by decide) (by omega) (by omega) ?_ ?_
                    · intro hc90
                      change (0 : Int) < pw_g h85 125 0 at hc90
                      refine pw_ld E (pc' := 84) (st' := [pw_i 1, .ref 141]) rfl (fun _ => rfl) ?_
                      refine pw_goto E (pc' := 88) rfl (by decide) ?_
                      refine pw_putI h85I E (c := 125) (k := 0) (pc' := 91) rfl rfl rfl rfl (by omega) (by omega) (by omega) (by omega) rfl rfl ?_
                      intro h91I h91E
                      generalize h91w : pw_w h85 125 0 (pw_i 1) = h91 at h91I h91E ⊢
                      have h91F := h85F.tr (h91E.wk (W' := [125]) (by first | rfl | simp))
                      refine pw_ld E (pc' := 92) (st' := [.ref 141]) rfl (fun _ => rfl) ?_
                      have he93 : pw_g h91 125 0 = 1 := by rw [← h91w]; exact pw_g_eq (c := 125) (k := 0) h85I rfl rfl (by omega) (by omega)
                      refine pw_getI2 h91I E (c := 125) (k := 0) (pc' := 95) rfl rfl rfl rfl rfl rfl (fun hf92a hf92b => ?_)
                      refine pw_if E (pc' := 100) rfl (by decide) (by omega) (by omega) ?_ ?_
                      · intro hc94
                        change pw_g h91 125 0 ≤ (0 : Int) at hc94
                        exfalso; omega
                      · intro hc95
                        change ¬ (pw_g h91 125 0 ≤ (0 : Int)) at hc95
                        refine pw_ld E (pc' := 99) (st' := [.long (Int64.ofInt 0)]) rfl (fun _ => rfl) ?_
                        refine pw_lret E rfl ?_
                        exact ⟨h91I, h91F, ⟨_, rfl⟩⟩
                    · intro hc96
                      change ¬ ((0 : Int) < pw_g h85 125 0) at hc96
                      exfalso; omega
                  · intro hc97
                    change ¬ (x40 = (0 : Int)) at hc97
                    exfalso; omega
            · skip
              refine pw_if E (pc' := 49) rfl (by decide) (by omega) (by omega) ?_ ?_
              · intro hc99
                change x33 = (0 : Int) at hc99
                refine pw_ld E (pc' := 50) (st' := [pw_i 1, .ref 141]) rfl (fun _ => rfl) ?_
                refine pw_putI I E (c := 125) (k := 0) (pc' := 53) rfl rfl rfl rfl (by omega) (by omega) (by omega) (by omega) rfl rfl ?_
                intro h100I h100E
                generalize h100w : pw_w h 125 0 (pw_i 1) = h100 at h100I h100E ⊢
                have h100F := E0.tr (h100E.wk (W' := [125]) (by first | rfl | simp))
                refine pw_ld E (pc' := 54) (st' := [.ref 141]) rfl (fun _ => rfl) ?_
                refine pw_getL h100I E (c := 125) (k := 24) (pc' := 57) rfl rfl rfl rfl rfl rfl ?_
                refine pw_lst E (pc' := 59) (ls' := [some (.ref 141), some (pw_i a0), some (pw_i a1), some (pw_i a2), some (pw_i a3), some (.long (pw_gl h100 125 24)), none, none, none]) rfl rfl rfl rfl ?_
                refine pw_ld E (pc' := 60) (st' := [.ref 141]) rfl (fun _ => rfl) ?_
                refine pw_getM h100I E (c := 125) (k := 25) (pc' := 63) rfl rfl rfl rfl rfl rfl (fun hf101a hf101b => ?_)
                refine pw_lst E (pc' := 65) (ls' := [some (.ref 141), some (pw_i a0), some (pw_i a1), some (pw_i a2), some (pw_i a3), some (.long (pw_gl h100 125 24)), none, some (.long (Int64.ofInt (pw_gm h100 125 25))), none]) rfl rfl rfl rfl ?_
                refine pw_ld E (pc' := 66) (st' := [.ref 141]) rfl (fun _ => rfl) ?_
                refine pw_ld E (pc' := 67) (st' := [.ref 141, .ref 141]) rfl (fun _ => rfl) ?_
                have he103 : pw_g h100 125 0 = 1 := by rw [← h100w]; exact pw_g_eq (c := 125) (k := 0) I rfl rfl (by omega) (by omega)
                refine pw_getI2 h100I E (c := 125) (k := 0) (pc' := 70) rfl rfl rfl rfl rfl rfl (fun hf102a hf102b => ?_)
                refine pw_if E (pc' := 83) rfl (by decide) (by omega) (by omega) ?_ ?_
                · intro hc104
                  change (0 : Int) < pw_g h100 125 0 at hc104
                  refine pw_ld E (pc' := 84) (st' := [pw_i 1, .ref 141]) rfl (fun _ => rfl) ?_
                  refine pw_goto E (pc' := 88) rfl (by decide) ?_
                  refine pw_putI h100I E (c := 125) (k := 0) (pc' := 91) rfl rfl rfl rfl (by omega) (by omega) (by omega) (by omega) rfl rfl ?_
                  intro h105I h105E
                  generalize h105w : pw_w h100 125 0 (pw_i 1) = h105 at h105I h105E ⊢
                  have h105F := h100F.tr (h105E.wk (W' := [125]) (by first | rfl | simp))
                  refine pw_ld E (pc' := 92) (st' := [.ref 141]) rfl (fun _ => rfl) ?_
                  have he107 : pw_g h105 125 0 = 1 := by rw [← h105w]; exact pw_g_eq (c := 125) (k := 0) h100I rfl rfl (by omega) (by omega)
                  refine pw_getI2 h105I E (c := 125) (k := 0) (pc' := 95) rfl rfl rfl rfl rfl rfl (fun hf106a hf106b => ?_)
                  refine pw_if E (pc' := 100) rfl (by decide) (by omega) (by omega) ?_ ?_
                  · intro hc108
                    change pw_g h105 125 0 ≤ (0 : Int) at hc108
                    exfalso; omega
                  · intro hc109
                    change ¬ (pw_g h105 125 0 ≤ (0 : Int)) at hc109
                    refine pw_ld E (pc' := 99) (st' := [.long (Int64.ofInt 0)]) rfl (fun _ => rfl) ?_
                    refine pw_lret E rfl ?_
                    exact ⟨h105I, h105F, ⟨_, rfl⟩⟩
                · intro hc110
                  change ¬ ((0 : Int) < pw_g h100 125 0) at hc110
                  exfalso; omega
              · intro hc111
                change ¬ (x33 = (0 : Int)) at hc111
                exfalso; omega
      · skip
        refine pw_if E (pc' := 49) rfl (by decide) (by omega) (by omega) ?_ ?_
        · intro hc113
          change x10 = (0 : Int) at hc113
          refine pw_ld E (pc' := 50) (st' := [pw_i 1, .ref 141]) rfl (fun _ => rfl) ?_
          refine pw_putI I E (c := 125) (k := 0) (pc' := 53) rfl rfl rfl rfl (by omega) (by omega) (by omega) (by omega) rfl rfl ?_
          intro h114I h114E
          generalize h114w : pw_w h 125 0 (pw_i 1) = h114 at h114I h114E ⊢
          have h114F := E0.tr (h114E.wk (W' := [125]) (by first | rfl | simp))
          refine pw_ld E (pc' := 54) (st' := [.ref 141]) rfl (fun _ => rfl) ?_
          refine pw_getL h114I E (c := 125) (k := 24) (pc' := 57) rfl rfl rfl rfl rfl rfl ?_
          refine pw_lst E (pc' := 59) (ls' := [some (.ref 141), some (pw_i a0), some (pw_i a1), some (pw_i a2), some (pw_i a3), some (.long (pw_gl h114 125 24)), none, none, none]) rfl rfl rfl rfl ?_
          refine pw_ld E (pc' := 60) (st' := [.ref 141]) rfl (fun _ => rfl) ?_
          refine pw_getM h114I E (c := 125) (k := 25) (pc' := 63) rfl rfl rfl rfl rfl rfl (fun hf115a hf115b => ?_)
          refine pw_lst E (pc' := 65) (ls' := [some (.ref 141), some (pw_i a0), some (pw_i a1), some (pw_i a2), some (pw_i a3), some (.long (pw_gl h114 125 24)), none, some (.long (Int64.ofInt (pw_gm h114 125 25))), none]) rfl rfl rfl rfl ?_
          refine pw_ld E (pc' := 66) (st' := [.ref 141]) rfl (fun _ => rfl) ?_
          refine pw_ld E (pc' := 67) (st' := [.ref 141, .ref 141]) rfl (fun _ => rfl) ?_
          have he117 : pw_g h114 125 0 = 1 := by rw [← h114w]; exact pw_g_eq (c := 125) (k := 0) I rfl rfl (by omega) (by omega)
          refine pw_getI2 h114I E (c := 125) (k := 0) (pc' := 70) rfl rfl rfl rfl rfl rfl (fun hf116a hf116b => ?_)
          refine pw_if E (pc' := 83) rfl (by decide) (by omega) (by omega) ?_ ?_
          · intro hc118
            change (0 : Int) < pw_g h114 125 0 at hc118
            refine pw_ld E (pc' := 84) (st' := [pw_i 1, .ref 141]) rfl (fun _ => rfl) ?_
            refine pw_goto E (pc' := 88) rfl (by decide) ?_
            refine pw_putI h114I E (c := 125) (k := 0) (pc' := 91) rfl rfl rfl rfl (by omega) (by omega) (by omega) (by omega) rfl rfl ?_
            intro h119I h119E
            generalize h119w : pw_w h114 125 0 (pw_i 1) = h119 at h119I h119E ⊢
            have h119F := h114F.tr (h119E.wk (W' := [125]) (by first | rfl | simp))
            refine pw_ld E (pc' := 92) (st' := [.ref 141]) rfl (fun _ => rfl) ?_
            have he121 : pw_g h119 125 0 = 1 := by rw [← h119w]; exact pw_g_eq (c := 125) (k := 0) h114I rfl rfl (by omega) (by omega)
            refine pw_getI2 h119I E (c := 125) (k := 0) (pc' := 95) rfl rfl rfl rfl rfl rfl (fun hf120a hf120b => ?_)
            refine pw_if E (pc' := 100) rfl (by decide) (by omega) (by omega) ?_ ?_
            · intro hc122
              change pw_g h119 125 0 ≤ (0 : Int) at hc122
              exfalso; omega
            · intro hc123
              change ¬ (pw_g h119 125 0 ≤ (0 : Int)) at hc123
              refine pw_ld E (pc' := 99) (st' := [.long (Int64.ofInt 0)]) rfl (fun _ => rfl) ?_
              refine pw_lret E rfl ?_
              exact ⟨h119I, h119F, ⟨_, rfl⟩⟩
          · intro hc124
            change ¬ ((0 : Int) < pw_g h114 125 0) at hc124
            exfalso; omega
        · intro hc125
          change ¬ (x10 = (0 : Int)) at hc125
          exfalso; omega
  · skip
    refine pw_if E (pc' := 49) rfl (by decide) (by omega) (by omega) ?_ ?_
    · intro hc127
      change x3 = (0 : Int) at hc127
      refine pw_ld E (pc' := 50) (st' := [pw_i 1, .ref 141]) rfl (fun _ => rfl) ?_
      refine pw_putI I E (c := 125) (k := 0) (pc' := 53) rfl rfl rfl rfl (by omega) (by omega) (by omega) (by omega) rfl rfl ?_
      intro h128I h128E
      generalize h128w : pw_w h 125 0 (pw_i 1) = h128 at h128I h128E ⊢
      have h128F := E0.tr (h128E.wk (W' := [125]) (by first | rfl | simp))
      refine pw_ld E (pc' := 54) (st' := [.ref 141]) rfl (fun _ => rfl) ?_
      refine pw_getL h128I E (c := 125) (k := 24) (pc' := 57) rfl rfl rfl rfl rfl rfl ?_
      refine pw_lst E (pc' := 59) (ls' := [some (.ref 141), some (pw_i a0), some (pw_i a1), some (pw_i a2), some (pw_i a3), some (.long (pw_gl h128 125 24)), none, none, none]) rfl rfl rfl rfl ?_
      refine pw_ld E (pc' := 60) (st' := [.ref 141]) rfl (fun _ => rfl) ?_
      refine pw_getM h128I E (c := 125) (k := 25) (pc' := 63) rfl rfl rfl rfl rfl rfl (fun hf129a hf129b => ?_)
      refine pw_lst E (pc' := 65) (ls' := [some (.ref 141), some (pw_i a0), some (pw_i a1), some (pw_i a2), some (pw_i a3), some (.long (pw_gl h128 125 24)), none, some (.long (Int64.ofInt (pw_gm h128 125 25))), none]) rfl rfl rfl rfl ?_
      refine pw_ld E (pc' := 66) (st' := [.ref 141]) rfl (fun _ => rfl) ?_
      refine pw_ld E (pc' := 67) (st' := [.ref 141, .ref 141]) rfl (fun _ => rfl) ?_
      have he131 : pw_g h128 125 0 = 1 := by rw [← h128w]; exact pw_g_eq (c := 125) (k := 0) I rfl rfl (by omega) (by omega)
      refine pw_getI2 h128I E (c := 125) (k := 0) (pc' := 70) rfl rfl rfl rfl rfl rfl (fun hf130a hf130b => ?_)
      refine pw_if E (pc' := 83) rfl (by decide) (by omega) (by omega) ?_ ?_
      · intro hc132
        change (0 : Int) < pw_g h128 125 0 at hc132
        refine pw_ld E (pc' := 84) (st' := [pw_i 1, .ref 141]) rfl (fun _ => rfl) ?_
        refine pw_goto E (pc' := 88) rfl (by decide) ?_
        refine pw_putI h128I E (c := 125) (k := 0) (pc' := 91) rfl rfl rfl rfl (by omega) (by omega) (by omega) (by omega) rfl rfl ?_
        intro h133I h133E
        generalize h133w : pw_w h128 125 0 (pw_i 1) = h133 at h133I h133E ⊢
        have h133F := h128F.tr (h133E.wk (W' := [125]) (by first | rfl | simp))
        refine pw_ld E (pc' := 92) (st' := [.ref 141]) rfl (fun _ => rfl) ?_
        have he135 : pw_g h133 125 0 = 1 := by rw [← h133w]; exact pw_g_eq (c := 125) (k := 0) h128I rfl rfl (by omega) (by omega)
        refine pw_getI2 h133I E (c := 125) (k := 0) (pc' := 95) rfl rfl rfl rfl rfl rfl (fun hf134a hf134b => ?_)
        refine pw_if E (pc' := 100) rfl (by decide) (by omega) (by omega) ?_ ?_
        · intro hc136
          change pw_g h133 125 0 ≤ (0 : Int) at hc136
          exfalso; omega
        · intro hc137
          change ¬ (pw_g h133 125 0 ≤ (0 : Int)) at hc137
          refine pw_ld E (pc' := 99) (st' := [.long (Int64.ofInt 0)]) rfl (fun _ => rfl) ?_
          refine pw_lret E rfl ?_
          exact ⟨h133I, h133F, ⟨_, rfl⟩⟩
      · intro hc138
        change ¬ ((0 : Int) < pw_g h128 125 0) at hc138
        exfalso; omega
    · intro hc139
      change ¬ (x3 = (0 : Int)) at hc139
      exfalso; omega
set_option maxHeartbeats 4000000 in
theorem cm_225 {X : List (Nat × List Value)} {d : Nat} {h : pm_H} (hd : 5 ≤ d) (I : pw_I h) (a0 : Int) (ha01 : (-2147483648) ≤ a0) (ha02 : a0 ≤ 2147483647) (a1 : Int) (ha11 : (-2147483648) ≤ a1) (ha12 : a1 ≤ 2147483647) (a2 : Int) (ha21 : (-2147483648) ≤ a2) (ha22 : a2 ≤ 2147483647) : pw X d h 225 0 [some (.ref 141), some (pw_i a0), some (pw_i a1), some (pw_i a2)] [] (fun h' v => pw_I h' ∧ pw_E [125] h h' ∧ ∃ w : Int64, v = .inl (some (.long w))) := by
  have E : pm_ent 225 = some (4, 4, 12, 2, pmc_225) := rfl
  have E0 : pw_E [125] h h := pw_E.rf _ _
  refine pw_ld E (pc' := 1) (st' := [.ref 141]) rfl (fun _ => rfl) ?_
  refine pw_ld E (pc' := 2) (st' := [pw_i a0, .ref 141]) rfl (fun _ => rfl) ?_
  refine pw_ld E (pc' := 3) (st' := [pw_i a1, pw_i a0, .ref 141]) rfl (fun _ => rfl) ?_
  refine pw_call (m' := 213) (As := [pw_i a0, pw_i a1]) (rest := [.ref 141]) (ls'' := [some (pw_i a0), some (pw_i a1)]) (Nat.le_trans (by decide) hd) E rfl (fun _ => pw_iS rfl rfl rfl) (rfl : pm_ent 213 = some (2, 2, 12, 1, pmc_213)) rfl rfl (cm_213 (pw_dp hd (by decide)) I (a0) (by omega) (by omega) (a1) (by omega) (by omega)) ?_
  rintro u2 v1 ⟨rfl, x3, rfl, hx3a, hx3b, hx3r⟩
  refine ⟨_, rfl, ?_⟩
  show pw X d h 225 6 [some (.ref 141), some (pw_i a0), some (pw_i a1), some (pw_i a2)] [pw_i x3, .ref 141] _
  change (x3 = 1 ∧ 0 ≤ a0 ∧ a0 ≤ 11 ∧ 0 ≤ a1 ∧ a1 ≤ 11) ∨ x3 = 0 at hx3r
  rcases (by omega : x3 = 1 ∨ x3 = 0) with hb4 | hb4
  · skip
    refine pw_if E (pc' := 41) rfl (by decide) (by omega) (by omega) ?_ ?_
    · intro hc5
      change x3 = (0 : Int) at hc5
      exfalso; omega
    · intro hc6
      change ¬ (x3 = (0 : Int)) at hc6
      refine pw_ld E (pc' := 10) (st' := [pw_i a2, .ref 141]) rfl (fun _ => rfl) ?_
      refine pw_ld E (pc' := 11) (st' := [pw_i 0, pw_i a2, .ref 141]) rfl (fun _ => rfl) ?_
      refine pw_ld E (pc' := 12) (st' := [pw_i 3, pw_i 0, pw_i a2, .ref 141]) rfl (fun _ => rfl) ?_
      refine pw_call (m' := 202) (As := [pw_i a2, pw_i 0, pw_i 3]) (rest := [.ref 141]) (ls'' := [some (pw_i a2), some (pw_i 0), some (pw_i 3)]) (Nat.le_trans (by decide) hd) E rfl (fun _ => pw_iS rfl rfl rfl) (rfl : pm_ent 202 = some (3, 3, 12, 1, pmc_202)) rfl rfl (cm_202 (pw_dp hd (by decide)) I (a2) (by omega) (by omega) (0) (by omega) (by omega) (3) (by omega) (by omega)) ?_
      rintro u8 v7 ⟨rfl, x9, rfl, hx9a, hx9b, hx9r⟩
      refine ⟨_, rfl, ?_⟩
      show pw X d h 225 15 [some (.ref 141), some (pw_i a0), some (pw_i a1), some (pw_i a2)] [pw_i x9, .ref 141] _
      change (x9 = 1 ∧ 0 ≤ a2 ∧ a2 ≤ 3) ∨ (x9 = 0 ∧ ¬ (0 ≤ a2 ∧ a2 ≤ 3)) at hx9r
      rcases (by omega : x9 = 1 ∨ x9 = 0) with hb10 | hb10
      · skip
        refine pw_if E (pc' := 41) rfl (by decide) (by omega) (by omega) ?_ ?_
        · intro hc11
          change x9 = (0 : Int) at hc11
          exfalso; omega
        · intro hc12
          change ¬ (x9 = (0 : Int)) at hc12
          refine pw_ld E (pc' := 19) (st' := [.ref 141, .ref 141]) rfl (fun _ => rfl) ?_
          refine pw_ld E (pc' := 20) (st' := [pw_i a0, .ref 141, .ref 141]) rfl (fun _ => rfl) ?_
          refine pw_ld E (pc' := 21) (st' := [pw_i a1, pw_i a0, .ref 141, .ref 141]) rfl (fun _ => rfl) ?_
          refine pw_ld E (pc' := 22) (st' := [pw_i a2, pw_i a1, pw_i a0, .ref 141, .ref 141]) rfl (fun _ => rfl) ?_
          refine pw_ld E (pc' := 23) (st' := [pw_i 2, pw_i a2, pw_i a1, pw_i a0, .ref 141, .ref 141]) rfl (fun _ => rfl) ?_
          refine pw_if2 E (pc' := 30) rfl (by decide) (by omega) (by omega) (by decide) (by decide) ?_ ?_
          · intro hc13
            change (2 : Int) ≤ a2 at hc13
            refine pw_ld E (pc' := 31) (st' := [pw_i 1, pw_i a1, pw_i a0, .ref 141, .ref 141]) rfl (fun _ => rfl) ?_
            obtain ⟨f14l, f14h, -⟩ := pw_obj (c := 125) I rfl
            refine pw_call (m' := 226) (As := [.ref 141, pw_i a0, pw_i a1, pw_i 1]) (rest := [.ref 141]) (ls'' := [some (.ref 141), some (pw_i a0), some (pw_i a1), some (pw_i 1), none]) (Nat.le_trans (by decide) hd) E rfl (fun _ => pw_iV rfl rfl rfl rfl (pw_cellI f14h rfl)) (rfl : pm_ent 226 = some (4, 5, 12, 1, pmc_226)) rfl rfl (cm_226 (pw_dp hd (by decide)) I (a0) (by omega) (by omega) (a1) (by omega) (by omega) (1) (by omega) (by omega)) ?_
            rintro h15 v16 ⟨h15I, h15E, x17, rfl, hx17a, hx17b, hx17r⟩
            refine ⟨_, rfl, ?_⟩
            have h15F := E0.tr (h15E.wk (W' := [125]) (by first | rfl | simp))
            show pw X d h15 225 34 [some (.ref 141), some (pw_i a0), some (pw_i a1), some (pw_i a2)] [pw_i x17, .ref 141] _
            change (x17 = 1 ∧ 1 ≤ pw_gm h15 125 25 ∧ pw_gm h15 125 25 ≤ 576) ∨ x17 = 0 at hx17r
            rcases (by omega : x17 = 1 ∨ x17 = 0) with hb18 | hb18
            · skip
              refine pw_if E (pc' := 41) rfl (by decide) (by omega) (by omega) ?_ ?_
              · intro hc19
                change x17 = (0 : Int) at hc19
                exfalso; omega
              · intro hc20
                change ¬ (x17 = (0 : Int)) at hc20
                refine pw_ld E (pc' := 38) (st' := [pw_i 0, .ref 141]) rfl (fun _ => rfl) ?_
                refine pw_goto E (pc' := 42) rfl (by decide) ?_
                refine pw_putI h15I E (c := 125) (k := 0) (pc' := 45) rfl rfl rfl rfl (by omega) (by omega) (by omega) (by omega) rfl rfl ?_
                intro h21I h21E
                generalize h21w : pw_w h15 125 0 (pw_i 0) = h21 at h21I h21E ⊢
                have h21F := h15F.tr (h21E.wk (W' := [125]) (by first | rfl | simp))
                refine pw_ld E (pc' := 46) (st' := [.ref 141]) rfl (fun _ => rfl) ?_
                have he23 : pw_g h21 125 0 = 0 := by rw [← h21w]; exact pw_g_eq (c := 125) (k := 0) h15I rfl rfl (by omega) (by omega)
                refine pw_getI2 h21I E (c := 125) (k := 0) (pc' := 49) rfl rfl rfl rfl rfl rfl (fun hf22a hf22b => ?_)
                refine pw_if E (pc' := 56) rfl (by decide) (by omega) (by omega) ?_ ?_
                · intro hc24
                  change pw_g h21 125 0 ≤ (0 : Int) at hc24
                  refine pw_ld E (pc' := 57) (st' := [.ref 141]) rfl (fun _ => rfl) ?_
                  refine pw_ld E (pc' := 58) (st' := [pw_i a2, .ref 141]) rfl (fun _ => rfl) ?_
                  refine pw_ld E (pc' := 59) (st' := [pw_i 2, pw_i a2, .ref 141]) rfl (fun _ => rfl) ?_
                  refine pw_rem E (pc' := 60) rfl rfl (by omega) (by omega) (by decide) (by decide) ?_
                  have he25 : pw_gm h21 125 25 = pw_gm h15 125 25 := by rw [← h21w]; exact pw_gm_ne (by omega)
                  obtain ⟨f26l, f26h, -⟩ := pw_obj (c := 125) h21I rfl
                  refine pw_call (m' := 222) (As := [.ref 141, pw_i (a2 % 2)]) (rest := []) (ls'' := [some (.ref 141), some (pw_i (a2 % 2)), none, none]) (Nat.le_trans (by decide) hd) E rfl (fun _ => pw_iV rfl rfl rfl rfl (pw_cellI f26h rfl)) (rfl : pm_ent 222 = some (2, 4, 12, 2, pmc_222)) rfl rfl (cm_222 (pw_dp hd (by decide)) h21I (a2 % 2) (by omega) (by omega) (by omega)) ?_
                  rintro u28 v27 ⟨rfl, w29, rfl⟩
                  refine ⟨_, rfl, ?_⟩
                  show pw X d h21 225 63 [some (.ref 141), some (pw_i a0), some (pw_i a1), some (pw_i a2)] [.long w29] _
                  refine pw_lret E rfl ?_
                  exact ⟨h21I, h21F, ⟨_, rfl⟩⟩
                · intro hc30
                  change ¬ (pw_g h21 125 0 ≤ (0 : Int)) at hc30
                  exfalso; omega
            · skip
              refine pw_if E (pc' := 41) rfl (by decide) (by omega) (by omega) ?_ ?_
              · intro hc32
                change x17 = (0 : Int) at hc32
                refine pw_ld E (pc' := 42) (st' := [pw_i 1, .ref 141]) rfl (fun _ => rfl) ?_
                refine pw_putI h15I E (c := 125) (k := 0) (pc' := 45) rfl rfl rfl rfl (by omega) (by omega) (by omega) (by omega) rfl rfl ?_
                intro h33I h33E
                generalize h33w : pw_w h15 125 0 (pw_i 1) = h33 at h33I h33E ⊢
                have h33F := h15F.tr (h33E.wk (W' := [125]) (by first | rfl | simp))
                refine pw_ld E (pc' := 46) (st' := [.ref 141]) rfl (fun _ => rfl) ?_
                have he35 : pw_g h33 125 0 = 1 := by rw [← h33w]; exact pw_g_eq (c := 125) (k := 0) h15I rfl rfl (by omega) (by omega)
                refine pw_getI2 h33I E (c := 125) (k := 0) (pc' := 49) rfl rfl rfl rfl rfl rfl (fun hf34a hf34b => ?_)
                refine pw_if E (pc' := 56) rfl (by decide) (by omega) (by omega) ?_ ?_
                · intro hc36
                  change pw_g h33 125 0 ≤ (0 : Int) at hc36
                  exfalso; omega
                · intro hc37
                  change ¬ (pw_g h33 125 0 ≤ (0 : Int)) at hc37
                  refine pw_ld E (pc' := 53) (st' := [.long (Int64.ofInt 0)]) rfl (fun _ => rfl) ?_
                  refine pw_goto E (pc' := 63) rfl (by decide) ?_
                  refine pw_lret E rfl ?_
                  exact ⟨h33I, h33F, ⟨_, rfl⟩⟩
              · intro hc38
                change ¬ (x17 = (0 : Int)) at hc38
                exfalso; omega
          · intro hc39
            change ¬ ((2 : Int) ≤ a2) at hc39
            refine pw_ld E (pc' := 27) (st' := [pw_i ((-1)), pw_i a1, pw_i a0, .ref 141, .ref 141]) rfl (fun _ => rfl) ?_
            refine pw_goto E (pc' := 31) rfl (by decide) ?_
            obtain ⟨f40l, f40h, -⟩ := pw_obj (c := 125) I rfl
            refine pw_call (m' := 226) (As := [.ref 141, pw_i a0, pw_i a1, pw_i ((-1))]) (rest := [.ref 141]) (ls'' := [some (.ref 141), some (pw_i a0), some (pw_i a1), some (pw_i ((-1))), none]) (Nat.le_trans (by decide) hd) E rfl (fun _ => pw_iV rfl rfl rfl rfl (pw_cellI f40h rfl)) (rfl : pm_ent 226 = some (4, 5, 12, 1, pmc_226)) rfl rfl (cm_226 (pw_dp hd (by decide)) I (a0) (by omega) (by omega) (a1) (by omega) (by omega) ((-1)) (by omega) (by omega)) ?_
            rintro h41 v42 ⟨h41I, h41E, x43, rfl, hx43a, hx43b, hx43r⟩
            refine ⟨_, rfl, ?_⟩
            have h41F := E0.tr (h41E.wk (W' := [125]) (by first | rfl | simp))
            show pw X d h41 225 34 [some (.ref 141), some (pw_i a0), some (pw_i a1), some (pw_i a2)] [pw_i x43, .ref 141] _
            change (x43 = 1 ∧ 1 ≤ pw_gm h41 125 25 ∧ pw_gm h41 125 25 ≤ 576) ∨ x43 = 0 at hx43r
            rcases (by omega : x43 = 1 ∨ x43 = 0) with hb44 | hb44
            · skip
              refine pw_if E (pc' := 41) rfl (by decide) (by omega) (by omega) ?_ ?_
              · intro hc45
                change x43 = (0 : Int) at hc45
                exfalso; omega
              · intro hc46
                change ¬ (x43 = (0 : Int)) at hc46
                refine pw_ld E (pc' := 38) (st' := [pw_i 0, .ref 141]) rfl (fun _ => rfl) ?_
                refine pw_goto E (pc' := 42) rfl (by decide) ?_
                refine pw_putI h41I E (c := 125) (k := 0) (pc' := 45) rfl rfl rfl rfl (by omega) (by omega) (by omega) (by omega) rfl rfl ?_
                intro h47I h47E
                generalize h47w : pw_w h41 125 0 (pw_i 0) = h47 at h47I h47E ⊢
                have h47F := h41F.tr (h47E.wk (W' := [125]) (by first | rfl | simp))
                refine pw_ld E (pc' := 46) (st' := [.ref 141]) rfl (fun _ => rfl) ?_
                have he49 : pw_g h47 125 0 = 0 := by rw [← h47w]; exact pw_g_eq (c := 125) (k := 0) h41I rfl rfl (by omega) (by omega)
                refine pw_getI2 h47I E (c := 125) (k := 0) (pc' := 49) rfl rfl rfl rfl rfl rfl (fun hf48a hf48b => ?_)
                refine pw_if E (pc' := 56) rfl (by decide) (by omega) (by omega) ?_ ?_
                · intro hc50
                  change pw_g h47 125 0 ≤ (0 : Int) at hc50
                  refine pw_ld E (pc' := 57) (st' := [.ref 141]) rfl (fun _ => rfl) ?_
                  refine pw_ld E (pc' := 58) (st' := [pw_i a2, .ref 141]) rfl (fun _ => rfl) ?_
                  refine pw_ld E (pc' := 59) (st' := [pw_i 2, pw_i a2, .ref 141]) rfl (fun _ => rfl) ?_
                  refine pw_rem E (pc' := 60) rfl rfl (by omega) (by omega) (by decide) (by decide) ?_
                  have he51 : pw_gm h47 125 25 = pw_gm h41 125 25 := by rw [← h47w]; exact pw_gm_ne (by omega)
                  obtain ⟨f52l, f52h, -⟩ := pw_obj (c := 125) h47I rfl
                  refine pw_call (m' := 222) (As := [.ref 141, pw_i (a2 % 2)]) (rest := []) (ls'' := [some (.ref 141), some (pw_i (a2 % 2)), none, none]) (Nat.le_trans (by decide) hd) E rfl (fun _ => pw_iV rfl rfl rfl rfl (pw_cellI f52h rfl)) (rfl : pm_ent 222 = some (2, 4, 12, 2, pmc_222)) rfl rfl (cm_222 (pw_dp hd (by decide)) h47I (a2 % 2) (by omega) (by omega) (by omega)) ?_
                  rintro u54 v53 ⟨rfl, w55, rfl⟩
                  refine ⟨_, rfl, ?_⟩
                  show pw X d h47 225 63 [some (.ref 141), some (pw_i a0), some (pw_i a1), some (pw_i a2)] [.long w55] _
                  refine pw_lret E rfl ?_
                  exact ⟨h47I, h47F, ⟨_, rfl⟩⟩
                · intro hc56
                  change ¬ (pw_g h47 125 0 ≤ (0 : Int)) at hc56
                  exfalso; omega
            · skip
              refine pw_if E (pc' := 41) rfl (by decide) (by omega) (by omega) ?_ ?_
              · intro hc58
                change x43 = (0 : Int) at hc58
                refine pw_ld E (pc' := 42) (st' := [pw_i 1, .ref 141]) rfl (fun _ => rfl) ?_
                refine pw_putI h41I E (c := 125) (k := 0) (pc' := 45) rfl rfl rfl rfl (by omega) (by omega) (by omega) (by omega) rfl rfl ?_
                intro h59I h59E
                generalize h59w : pw_w h41 125 0 (pw_i 1) = h59 at h59I h59E ⊢
                have h59F := h41F.tr (h59E.wk (W' := [125]) (by first | rfl | simp))
                refine pw_ld E (pc' := 46) (st' := [.ref 141]) rfl (fun _ => rfl) ?_
                have he61 : pw_g h59 125 0 = 1 := by rw [← h59w]; exact pw_g_eq (c := 125) (k := 0) h41I rfl rfl (by omega) (by omega)
                refine pw_getI2 h59I E (c := 125) (k := 0) (pc' := 49) rfl rfl rfl rfl rfl rfl (fun hf60a hf60b => ?_)
                refine pw_if E (pc' := 56) rfl (by decide) (by omega) (by omega) ?_ ?_
                · intro hc62
                  change pw_g h59 125 0 ≤ (0 : Int) at hc62
                  exfalso; omega
                · intro hc63
                  change ¬ (pw_g h59 125 0 ≤ (0 : Int)) at hc63
                  refine pw_ld E (pc' := 53) (st' := [.long (Int64.ofInt 0)]) rfl (fun _ => rfl) ?_
                  refine pw_goto E (pc' := 63) rfl (by decide) ?_
                  refine pw_lret E rfl ?_
                  exact ⟨h59I, h59F, ⟨_, rfl⟩⟩
              · intro hc64
                change ¬ (x43 = (0 : Int)) at hc64
                exfalso; omega
      · skip
        refine pw_if E (pc' := 41) rfl (by decide) (by omega) (by omega) ?_ ?_
        · intro hc66
          change x9 = (0 : Int) at hc66
          refine pw_ld E (pc' := 42) (st' := [pw_i 1, .ref 141]) rfl (fun _ => rfl) ?_
          refine pw_putI I E (c := 125) (k := 0) (pc' := 45) rfl rfl rfl rfl (by omega) (by omega) (by omega) (by omega) rfl rfl ?_
          intro h67I h67E
          generalize h67w : pw_w h 125 0 (pw_i 1) = h67 at h67I h67E ⊢
          have h67F := E0.tr (h67E.wk (W' := [125]) (by first | rfl | simp))
          refine pw_ld E (pc' := 46) (st' := [.ref 141]) rfl (fun _ => rfl) ?_
          have he69 : pw_g h67 125 0 = 1 := by rw [← h67w]; exact pw_g_eq (c := 125) (k := 0) I rfl rfl (by omega) (by omega)
          refine pw_getI2 h67I E (c := 125) (k := 0) (pc' := 49) rfl rfl rfl rfl rfl rfl (fun hf68a hf68b => ?_)
          refine pw_if E (pc' := 56) rfl (by decide) (by omega) (by omega) ?_ ?_
          · intro hc70
            change pw_g h67 125 0 ≤ (0 : Int) at hc70
            exfalso; omega
          · intro hc71
            change ¬ (pw_g h67 125 0 ≤ (0 : Int)) at hc71
            refine pw_ld E (pc' := 53) (st' := [.long (Int64.ofInt 0)]) rfl (fun _ => rfl) ?_
            refine pw_goto E (pc' := 63) rfl (by decide) ?_
            refine pw_lret E rfl ?_
            exact ⟨h67I, h67F, ⟨_, rfl⟩⟩
        · intro hc72
          change ¬ (x9 = (0 : Int)) at hc72
          exfalso; omega
  · skip
    refine pw_if E (pc' := 41) rfl (by decide) (by omega) (by omega) ?_ ?_
    · intro hc74
      change x3 = (0 : Int) at hc74
      refine pw_ld E (pc' := 42) (st' := [pw_i 1, .ref 141]) rfl (fun _ => rfl) ?_
      refine pw_putI I E (c := 125) (k := 0) (pc' := 45) rfl rfl rfl rfl (by omega) (by omega) (by omega) (by omega) rfl rfl ?_
      intro h75I h75E
      generalize h75w : pw_w h 125 0 (pw_i 1) = h75 at h75I h75E ⊢
      have h75F := E0.tr (h75E.wk (W' := [125]) (by first | rfl | simp))
      refine pw_ld E (pc' := 46) (st' := [.ref 141]) rfl (fun _ => rfl) ?_
      have he77 : pw_g h75 125 0 = 1 := by rw [← h75w]; exact pw_g_eq (c := 125) (k := 0) I rfl rfl (by omega) (by omega)
      refine pw_getI2 h75I E (c := 125) (k := 0) (pc' := 49) rfl rfl rfl rfl rfl rfl (fun hf76a hf76b => ?_)
      refine pw_if E (pc' := 56) rfl (by decide) (by omega) (by omega) ?_ ?_
      · intro hc78
        change pw_g h75 125 0 ≤ (0 : Int) at hc78
        exfalso; omega
      · intro hc79
        change ¬ (pw_g h75 125 0 ≤ (0 : Int)) at hc79
        refine pw_ld E (pc' := 53) (st' := [.long (Int64.ofInt 0)]) rfl (fun _ => rfl) ?_
        refine pw_goto E (pc' := 63) rfl (by decide) ?_
        refine pw_lret E rfl ?_
        exact ⟨h75I, h75F, ⟨_, rfl⟩⟩
    · intro hc80
      change ¬ (x3 = (0 : Int)) at hc80
      exfalso; omega
set_option maxHeartbeats 4000000 in
theorem cm_228 {X : List (Nat × List Value)} {d : Nat} {h : pm_H} (hd : 5 ≤ d) (I : pw_I h) (b : Int) (hb1 : (-2147483648) ≤ b) (hb2 : b ≤ 2147483647) (e : Int) (he1 : (-2147483648) ≤ e) (he2 : e ≤ 2147483647) : pw X d h 228 0 [some (.ref 141), some (pw_i b), some (pw_i e), none] [] (fun h' v => pw_I h' ∧ pw_E [125] h h' ∧ ∃ a : Int, v = .inl (some (pw_i a)) ∧ (-2147483648) ≤ a ∧ a ≤ 2147483647) := by
  have E : pm_ent 228 = some (3, 4, 12, 0, pmc_228) := rfl
  have E0 : pw_E [125] h h := pw_E.rf _ _
  refine pw_ld E (pc' := 1) (st' := [.ref 141]) rfl (fun _ => rfl) ?_
  refine pw_ld E (pc' := 2) (st' := [pw_i 0, .ref 141]) rfl (fun _ => rfl) ?_
  refine pw_putI I E (c := 125) (k := 0) (pc' := 5) rfl rfl rfl rfl (by omega) (by omega) (by omega) (by omega) rfl rfl ?_
  intro h1I h1E
  generalize h1w : pw_w h 125 0 (pw_i 0) = h1 at h1I h1E ⊢
  have h1F := E0.tr (h1E.wk (W' := [125]) (by first | rfl | simp))
  refine pw_ld E (pc' := 6) (st' := [pw_i b]) rfl (fun _ => rfl) ?_
  refine pw_ld E (pc' := 7) (st' := [pw_i e, pw_i b]) rfl (fun _ => rfl) ?_
  refine pw_call (m' := 213) (As := [pw_i b, pw_i e]) (rest := []) (ls'' := [some (pw_i b), some (pw_i e)]) (Nat.le_trans (by decide) hd) E rfl (fun _ => pw_iS rfl rfl rfl) (rfl : pm_ent 213 = some (2, 2, 12, 1, pmc_213)) rfl rfl (cm_213 (pw_dp hd (by decide)) h1I (b) (by omega) (by omega) (e) (by omega) (by omega)) ?_
  rintro u3 v2 ⟨rfl, x4, rfl, hx4a, hx4b, hx4r⟩
  refine ⟨_, rfl, ?_⟩
  show pw X d h1 228 10 [some (.ref 141), some (pw_i b), some (pw_i e), none] [pw_i x4] _
  change (x4 = 1 ∧ 0 ≤ b ∧ b ≤ 11 ∧ 0 ≤ e ∧ e ≤ 11) ∨ x4 = 0 at hx4r
  rcases (by omega : x4 = 1 ∨ x4 = 0) with hb5 | hb5
  · skip
    refine pw_if E (pc' := 23) rfl (by decide) (by omega) (by omega) ?_ ?_
    · intro hc6
      change x4 = (0 : Int) at hc6
      exfalso; omega
    · intro hc7
      change ¬ (x4 = (0 : Int)) at hc7
      refine pw_ld E (pc' := 14) (st' := [.ref 141]) rfl (fun _ => rfl) ?_
      refine pw_ld E (pc' := 15) (st' := [pw_i b, .ref 141]) rfl (fun _ => rfl) ?_
      refine pw_ld E (pc' := 16) (st' := [pw_i e, pw_i b, .ref 141]) rfl (fun _ => rfl) ?_
      refine pw_ld E (pc' := 17) (st' := [pw_i ((-1)), pw_i e, pw_i b, .ref 141]) rfl (fun _ => rfl) ?_
      obtain ⟨f8l, f8h, -⟩ := pw_obj (c := 125) h1I rfl
      refine pw_call (m' := 226) (As := [.ref 141, pw_i b, pw_i e, pw_i ((-1))]) (rest := []) (ls'' := [some (.ref 141), some (pw_i b), some (pw_i e), some (pw_i ((-1))), none]) (Nat.le_trans (by decide) hd) E rfl (fun _ => pw_iV rfl rfl rfl rfl (pw_cellI f8h rfl)) (rfl : pm_ent 226 = some (4, 5, 12, 1, pmc_226)) rfl rfl (cm_226 (pw_dp hd (by decide)) h1I (b) (by omega) (by omega) (e) (by omega) (by omega) ((-1)) (by omega) (by omega)) ?_
      rintro h9 v10 ⟨h9I, h9E, x11, rfl, hx11a, hx11b, hx11r⟩
      refine ⟨_, rfl, ?_⟩
      have h9F := h1F.tr (h9E.wk (W' := [125]) (by first | rfl | simp))
      show pw X d h9 228 20 [some (.ref 141), some (pw_i b), some (pw_i e), none] [pw_i x11] _
      change (x11 = 1 ∧ 1 ≤ pw_gm h9 125 25 ∧ pw_gm h9 125 25 ≤ 576) ∨ x11 = 0 at hx11r
      rcases (by omega : x11 = 1 ∨ x11 = 0) with hb12 | hb12
      · skip
        refine pw_if E (pc' := 25) rfl (by decide) (by omega) (by omega) ?_ ?_
        · intro hc13
          change x11 ≠ (0 : Int) at hc13
          refine pw_ld E (pc' := 26) (st' := [.ref 141]) rfl (fun _ => rfl) ?_
          refine pw_getL h9I E (c := 125) (k := 24) (pc' := 29) rfl rfl rfl rfl rfl rfl ?_
          refine pw_ld E (pc' := 30) (st' := [.long (Int64.ofInt 0), .long (pw_gl h9 125 24)]) rfl (fun _ => rfl) ?_
          refine pw_lcmp E (pc' := 31) rfl rfl (fun c14 hc14 => ?_)
          refine pw_if E (pc' := 38) rfl (by decide) (by omega) (by omega) ?_ ?_
          · intro hc15
            change (0 : Int) < c14 at hc15
            refine pw_ld E (pc' := 39) (st' := [pw_i 0]) rfl (fun _ => rfl) ?_
            refine pw_istn E (pc' := 40) (ls' := [some (.ref 141), some (pw_i b), some (pw_i e), some (pw_i 0)]) rfl rfl rfl rfl ?_
            refine pw_ld E (pc' := 41) (st' := [.ref 141]) rfl (fun _ => rfl) ?_
            refine pw_ld E (pc' := 42) (st' := [pw_i b, .ref 141]) rfl (fun _ => rfl) ?_
            refine pw_ld E (pc' := 43) (st' := [pw_i e, pw_i b, .ref 141]) rfl (fun _ => rfl) ?_
            refine pw_ld E (pc' := 44) (st' := [pw_i 1, pw_i e, pw_i b, .ref 141]) rfl (fun _ => rfl) ?_
            obtain ⟨f16l, f16h, -⟩ := pw_obj (c := 125) h9I rfl
            refine pw_call (m' := 226) (As := [.ref 141, pw_i b, pw_i e, pw_i 1]) (rest := []) (ls'' := [some (.ref 141), some (pw_i b), some (pw_i e), some (pw_i 1), none]) (Nat.le_trans (by decide) hd) E rfl (fun _ => pw_iV rfl rfl rfl rfl (pw_cellI f16h rfl)) (rfl : pm_ent 226 = some (4, 5, 12, 1, pmc_226)) rfl rfl (cm_226 (pw_dp hd (by decide)) h9I (b) (by omega) (by omega) (e) (by omega) (by omega) (1) (by omega) (by omega)) ?_
            rintro h17 v18 ⟨h17I, h17E, x19, rfl, hx19a, hx19b, hx19r⟩
            refine ⟨_, rfl, ?_⟩
            have h17F := h9F.tr (h17E.wk (W' := [125]) (by first | rfl | simp))
            show pw X d h17 228 47 [some (.ref 141), some (pw_i b), some (pw_i e), some (pw_i 0)] [pw_i x19] _
            change (x19 = 1 ∧ 1 ≤ pw_gm h17 125 25 ∧ pw_gm h17 125 25 ≤ 576) ∨ x19 = 0 at hx19r
            refine pw_ld E (pc' := 48) (st' := []) rfl (fun _ => rfl) ?_
            refine pw_ld E (pc' := 49) (st' := [pw_i 0]) rfl (fun _ => rfl) ?_
            refine pw_if E (pc' := 65) rfl (by decide) (by decide) (by decide) ?_ ?_
            · intro hc20
              change (0 : Int) = (0 : Int) at hc20
              refine pw_ld E (pc' := 66) (st' := [pw_i 0]) rfl (fun _ => rfl) ?_
              refine pw_iret E rfl ?_
              exact ⟨h17I, h17F, ⟨_, rfl, by omega, by omega⟩⟩
            · intro hc21
              change ¬ ((0 : Int) = (0 : Int)) at hc21
              exfalso; omega
          · intro hc22
            change ¬ ((0 : Int) < c14) at hc22
            refine pw_ld E (pc' := 35) (st' := [pw_i 1]) rfl (fun _ => rfl) ?_
            refine pw_goto E (pc' := 39) rfl (by decide) ?_
            refine pw_istn E (pc' := 40) (ls' := [some (.ref 141), some (pw_i b), some (pw_i e), some (pw_i 1)]) rfl rfl rfl rfl ?_
            refine pw_ld E (pc' := 41) (st' := [.ref 141]) rfl (fun _ => rfl) ?_
            refine pw_ld E (pc' := 42) (st' := [pw_i b, .ref 141]) rfl (fun _ => rfl) ?_
            refine pw_ld E (pc' := 43) (st' := [pw_i e, pw_i b, .ref 141]) rfl (fun _ => rfl) ?_
            refine pw_ld E (pc' := 44) (st' := [pw_i 1, pw_i e, pw_i b, .ref 141]) rfl (fun _ => rfl) ?_
            obtain ⟨f23l, f23h, -⟩ := pw_obj (c := 125) h9I rfl
            refine pw_call (m' := 226) (As := [.ref 141, pw_i b, pw_i e, pw_i 1]) (rest := []) (ls'' := [some (.ref 141), some (pw_i b), some (pw_i e), some (pw_i 1), none]) (Nat.le_trans (by decide) hd) E rfl (fun _ => pw_iV rfl rfl rfl rfl (pw_cellI f23h rfl)) (rfl : pm_ent 226 = some (4, 5, 12, 1, pmc_226)) rfl rfl (cm_226 (pw_dp hd (by decide)) h9I (b) (by omega) (by omega) (e) (by omega) (by omega) (1) (by omega) (by omega)) ?_
            rintro h24 v25 ⟨h24I, h24E, x26, rfl, hx26a, hx26b, hx26r⟩
            refine ⟨_, rfl, ?_⟩
            have h24F := h9F.tr (h24E.wk (W' := [125]) (by first | rfl | simp))
            show pw X d h24 228 47 [some (.ref 141), some (pw_i b), some (pw_i e), some (pw_i 1)] [pw_i x26] _
            change (x26 = 1 ∧ 1 ≤ pw_gm h24 125 25 ∧ pw_gm h24 125 25 ≤ 576) ∨ x26 = 0 at hx26r
            refine pw_ld E (pc' := 48) (st' := []) rfl (fun _ => rfl) ?_
            refine pw_ld E (pc' := 49) (st' := [pw_i 1]) rfl (fun _ => rfl) ?_
            refine pw_if E (pc' := 65) rfl (by decide) (by decide) (by decide) ?_ ?_
            · intro hc27
              change (1 : Int) = (0 : Int) at hc27
              exfalso; omega
            · intro hc28
              change ¬ ((1 : Int) = (0 : Int)) at hc28
              refine pw_ld E (pc' := 53) (st' := [.ref 141]) rfl (fun _ => rfl) ?_
              refine pw_getL h24I E (c := 125) (k := 24) (pc' := 56) rfl rfl rfl rfl rfl rfl ?_
              refine pw_ld E (pc' := 57) (st' := [.long (Int64.ofInt 0), .long (pw_gl h24 125 24)]) rfl (fun _ => rfl) ?_
              refine pw_lcmp E (pc' := 58) rfl rfl (fun c29 hc29 => ?_)
              refine pw_if E (pc' := 65) rfl (by decide) (by omega) (by omega) ?_ ?_
              · intro hc30
                change c29 < (0 : Int) at hc30
                refine pw_ld E (pc' := 66) (st' := [pw_i 0]) rfl (fun _ => rfl) ?_
                refine pw_iret E rfl ?_
                exact ⟨h24I, h24F, ⟨_, rfl, by omega, by omega⟩⟩
              · intro hc31
                change ¬ (c29 < (0 : Int)) at hc31
                refine pw_ld E (pc' := 62) (st' := [pw_i 1]) rfl (fun _ => rfl) ?_
                refine pw_goto E (pc' := 66) rfl (by decide) ?_
                refine pw_iret E rfl ?_
                exact ⟨h24I, h24F, ⟨_, rfl, by omega, by omega⟩⟩
        · intro hc32
          change ¬ (x11 ≠ (0 : Int)) at hc32
          exfalso; omega
      · skip
        refine pw_if E (pc' := 25) rfl (by decide) (by omega) (by omega) ?_ ?_
        · intro hc34
          change x11 ≠ (0 : Int) at hc34
          exfalso; omega
        · intro hc35
          change ¬ (x11 ≠ (0 : Int)) at hc35
          refine pw_ld E (pc' := 24) (st' := [pw_i ((-1))]) rfl (fun _ => rfl) ?_
          refine pw_iret E rfl ?_
          exact ⟨h9I, h9F, ⟨_, rfl, by omega, by omega⟩⟩
  · skip
    refine pw_if E (pc' := 23) rfl (by decide) (by omega) (by omega) ?_ ?_
    · intro hc37
      change x4 = (0 : Int) at hc37
      refine pw_ld E (pc' := 24) (st' := [pw_i ((-1))]) rfl (fun _ => rfl) ?_
      refine pw_iret E rfl ?_
      exact ⟨h1I, h1F, ⟨_, rfl, by omega, by omega⟩⟩
    · intro hc38
      change ¬ (x4 = (0 : Int)) at hc38
      exfalso; omega
set_option maxHeartbeats 4000000 in
theorem cm_229 {X : List (Nat × List Value)} {d : Nat} {h : pm_H} (hd : 5 ≤ d) (I : pw_I h) (b : Int) (hb1 : (-2147483648) ≤ b) (hb2 : b ≤ 2147483647) (e : Int) (he1 : (-2147483648) ≤ e) (he2 : e ≤ 2147483647) : pw X d h 229 0 [some (.ref 141), some (pw_i b), some (pw_i e), none, none, none, none, none, none, none, none, none, none, none] [] (fun h' v => pw_I h' ∧ pw_E [125] h h' ∧ ∃ a : Int, v = .inl (some (pw_i a)) ∧ (-2147483648) ≤ a ∧ a ≤ 2147483647) := by
  have E : pm_ent 229 = some (3, 14, 12, 0, pmc_229) := rfl
  have E0 : pw_E [125] h h := pw_E.rf _ _
  refine pw_ld E (pc' := 1) (st' := [.ref 141]) rfl (fun _ => rfl) ?_
  refine pw_ld E (pc' := 2) (st' := [pw_i 0, .ref 141]) rfl (fun _ => rfl) ?_
  refine pw_putI I E (c := 125) (k := 0) (pc' := 5) rfl rfl rfl rfl (by omega) (by omega) (by omega) (by omega) rfl rfl ?_
  intro h1I h1E
  generalize h1w : pw_w h 125 0 (pw_i 0) = h1 at h1I h1E ⊢
  have h1F := E0.tr (h1E.wk (W' := [125]) (by first | rfl | simp))
  refine pw_ld E (pc' := 6) (st' := [pw_i b]) rfl (fun _ => rfl) ?_
  refine pw_ld E (pc' := 7) (st' := [pw_i e, pw_i b]) rfl (fun _ => rfl) ?_
  refine pw_call (m' := 213) (As := [pw_i b, pw_i e]) (rest := []) (ls'' := [some (pw_i b), some (pw_i e)]) (Nat.le_trans (by decide) hd) E rfl (fun _ => pw_iS rfl rfl rfl) (rfl : pm_ent 213 = some (2, 2, 12, 1, pmc_213)) rfl rfl (cm_213 (pw_dp hd (by decide)) h1I (b) (by omega) (by omega) (e) (by omega) (by omega)) ?_
  rintro u3 v2 ⟨rfl, x4, rfl, hx4a, hx4b, hx4r⟩
  refine ⟨_, rfl, ?_⟩
  show pw X d h1 229 10 [some (.ref 141), some (pw_i b), some (pw_i e), none, none, none, none, none, none, none, none, none, none, none] [pw_i x4] _
  change (x4 = 1 ∧ 0 ≤ b ∧ b ≤ 11 ∧ 0 ≤ e ∧ e ≤ 11) ∨ x4 = 0 at hx4r
  rcases (by omega : x4 = 1 ∨ x4 = 0) with hb5 | hb5
  · skip
    refine pw_if E (pc' := 23) rfl (by decide) (by omega) (by omega) ?_ ?_
    · intro hc6
      change x4 = (0 : Int) at hc6
      exfalso; omega
    · intro hc7
      change ¬ (x4 = (0 : Int)) at hc7
      refine pw_ld E (pc' := 14) (st' := [.ref 141]) rfl (fun _ => rfl) ?_
      refine pw_ld E (pc' := 15) (st' := [pw_i b, .ref 141]) rfl (fun _ => rfl) ?_
      refine pw_ld E (pc' := 16) (st' := [pw_i e, pw_i b, .ref 141]) rfl (fun _ => rfl) ?_
      refine pw_ld E (pc' := 17) (st' := [pw_i 1, pw_i e, pw_i b, .ref 141]) rfl (fun _ => rfl) ?_
      obtain ⟨f8l, f8h, -⟩ := pw_obj (c := 125) h1I rfl
      refine pw_call (m' := 226) (As := [.ref 141, pw_i b, pw_i e, pw_i 1]) (rest := []) (ls'' := [some (.ref 141), some (pw_i b), some (pw_i e), some (pw_i 1), none]) (Nat.le_trans (by decide) hd) E rfl (fun _ => pw_iV rfl rfl rfl rfl (pw_cellI f8h rfl)) (rfl : pm_ent 226 = some (4, 5, 12, 1, pmc_226)) rfl rfl (cm_226 (pw_dp hd (by decide)) h1I (b) (by omega) (by omega) (e) (by omega) (by omega) (1) (by omega) (by omega)) ?_
      rintro h9 v10 ⟨h9I, h9E, x11, rfl, hx11a, hx11b, hx11r⟩
      refine ⟨_, rfl, ?_⟩
      have h9F := h1F.tr (h9E.wk (W' := [125]) (by first | rfl | simp))
      show pw X d h9 229 20 [some (.ref 141), some (pw_i b), some (pw_i e), none, none, none, none, none, none, none, none, none, none, none] [pw_i x11] _
      change (x11 = 1 ∧ 1 ≤ pw_gm h9 125 25 ∧ pw_gm h9 125 25 ≤ 576) ∨ x11 = 0 at hx11r
      rcases (by omega : x11 = 1 ∨ x11 = 0) with hb12 | hb12
      · skip
        refine pw_if E (pc' := 25) rfl (by decide) (by omega) (by omega) ?_ ?_
        · intro hc13
          change x11 ≠ (0 : Int) at hc13
          refine pw_ld E (pc' := 26) (st' := [pw_i ((-1))]) rfl (fun _ => rfl) ?_
          refine pw_istn E (pc' := 27) (ls' := [some (.ref 141), some (pw_i b), some (pw_i e), some (pw_i ((-1))), none, none, none, none, none, none, none, none, none, none]) rfl rfl rfl rfl ?_
          refine pw_ld E (pc' := 28) (st' := [.long (Int64.ofInt 0)]) rfl (fun _ => rfl) ?_
          refine pw_lst E (pc' := 30) (ls' := [some (.ref 141), some (pw_i b), some (pw_i e), some (pw_i ((-1))), some (.long (Int64.ofInt 0)), none, none, none, none, none, none, none, none, none]) rfl rfl rfl rfl ?_
          refine pw_ld E (pc' := 31) (st' := [.long (Int64.ofInt 1)]) rfl (fun _ => rfl) ?_
          refine pw_lst E (pc' := 33) (ls' := [some (.ref 141), some (pw_i b), some (pw_i e), some (pw_i ((-1))), some (.long (Int64.ofInt 0)), none, some (.long (Int64.ofInt 1)), none, none, none, none, none, none, none]) rfl rfl rfl rfl ?_
          refine pw_ld E (pc' := 34) (st' := [pw_i 0]) rfl (fun _ => rfl) ?_
          refine pw_ist E (pc' := 36) (ls' := [some (.ref 141), some (pw_i b), some (pw_i e), some (pw_i ((-1))), some (.long (Int64.ofInt 0)), none, some (.long (Int64.ofInt 1)), none, some (pw_i 0), none, none, none, none, none]) rfl rfl rfl rfl ?_
          have L36 : ∀ (n36 : Nat) (k36_3 : Int) (k36_4 : Int64) (k36_6 : Int64) (k36_8 : Int) (k36_9 : Option Value) (k36_10 : Option Value) (k36_12 : Option Value), (-2147483648) ≤ k36_3 → k36_3 ≤ 2147483647 → 0 ≤ k36_8 → k36_8 ≤ 24 → (24 - k36_8).toNat = n36 → pw X d h9 229 36 [some (.ref 141), some (pw_i b), some (pw_i e), some (pw_i k36_3), some (.long k36_4), none, some (.long k36_6), none, some (pw_i k36_8), k36_9, k36_10, none, k36_12, none] [] (fun h' v => pw_I h' ∧ pw_E [125] h h' ∧ ∃ a : Int, v = .inl (some (pw_i a)) ∧ (-2147483648) ≤ a ∧ a ≤ 2147483647) := by
            intro n36
            induction n36 using Nat.strongRecOn with
            | ind n36 ih36 =>
              intro k36_3 k36_4 k36_6 k36_8 k36_9 k36_10 k36_12 k36_3a k36_3b k36_8a k36_8b hm36
              refine pw_ld E (pc' := 38) (st' := [pw_i k36_8]) rfl (fun _ => rfl) ?_
              refine pw_bip E (pc' := 40) rfl rfl (by decide) ?_
              refine pw_if2 E (pc' := 179) rfl (by decide) (by omega) (by omega) (by decide) (by decide) ?_ ?_
              · intro hc14
                change (24 : Int) ≤ k36_8 at hc14
                refine pw_ld E (pc' := 180) (st' := [pw_i k36_3]) rfl (fun _ => rfl) ?_
                refine pw_iret E rfl ?_
                exact ⟨h9I, h9F, ⟨_, rfl, by omega, by omega⟩⟩
              · intro hc15
                change ¬ ((24 : Int) ≤ k36_8) at hc15
                refine pw_ld E (pc' := 44) (st' := [.ref 141]) rfl (fun _ => rfl) ?_
                refine pw_getR (b := 147) h9I E (c := 125) (k := 10) (pc' := 47) rfl rfl rfl rfl rfl rfl rfl ?_
                refine pw_ld E (pc' := 49) (st' := [pw_i k36_8, .ref 147]) rfl (fun _ => rfl) ?_
                refine pw_ald2 h9I E (c := 131) (pc' := 50) rfl rfl rfl (by decide) rfl (by decide) (by omega) (by omega) rfl (fun hf16a hf16b => ?_)
                refine pw_if E (pc' := 173) rfl (by decide) (by omega) (by omega) ?_ ?_
                · intro hc17
                  change pw_g h9 131 (k36_8.toNat) = (0 : Int) at hc17
                  refine pw_inc E (pc' := 176) (ls' := [some (.ref 141), some (pw_i b), some (pw_i e), some (pw_i k36_3), some (.long k36_4), none, some (.long k36_6), none, some (pw_i (k36_8 + 1)), k36_9, k36_10, none, k36_12, none]) rfl rfl rfl rfl ?_
                  refine pw_goto E (pc' := 36) rfl (by decide) ?_
                  exact ih36 _ (by omega) (k36_3) (k36_4) (k36_6) (k36_8 + 1) k36_9 k36_10 k36_12  (by omega) (by omega) (by omega) (by omega)  rfl
                · intro hc18
                  change ¬ (pw_g h9 131 (k36_8.toNat) = (0 : Int)) at hc18
                  refine pw_ld E (pc' := 54) (st' := [.ref 141]) rfl (fun _ => rfl) ?_
                  refine pw_ld E (pc' := 56) (st' := [pw_i k36_8, .ref 141]) rfl (fun _ => rfl) ?_
                  refine pw_ld E (pc' := 57) (st' := [pw_i b, pw_i k36_8, .ref 141]) rfl (fun _ => rfl) ?_
                  refine pw_ld E (pc' := 58) (st' := [pw_i e, pw_i b, pw_i k36_8, .ref 141]) rfl (fun _ => rfl) ?_
                  obtain ⟨f19l, f19h, -⟩ := pw_obj (c := 125) h9I rfl
                  refine pw_call (m' := 214) (As := [.ref 141, pw_i k36_8, pw_i b, pw_i e]) (rest := []) (ls'' := [some (.ref 141), some (pw_i k36_8), some (pw_i b), some (pw_i e)]) (Nat.le_trans (by decide) hd) E rfl (fun _ => pw_iV rfl rfl rfl rfl (pw_cellI f19h rfl)) (rfl : pm_ent 214 = some (4, 4, 12, 1, pmc_214)) rfl rfl (cm_214 (pw_dp hd (by decide)) h9I (k36_8) (by omega) (by omega) (b) (by omega) (by omega) (e) (by omega) (by omega)) ?_
                  rintro u21 v20 ⟨rfl, x22, rfl, hx22a, hx22b⟩
                  refine ⟨_, rfl, ?_⟩
                  show pw X d h9 229 61 [some (.ref 141), some (pw_i b), some (pw_i e), some (pw_i k36_3), some (.long k36_4), none, some (.long k36_6), none, some (pw_i k36_8), k36_9, k36_10, none, k36_12, none] [pw_i x22] _
                  refine pw_if E (pc' := 173) rfl (by decide) (by omega) (by omega) ?_ ?_
                  · intro hc23
                    change x22 ≠ (0 : Int) at hc23
                    refine pw_inc E (pc' := 176) (ls' := [some (.ref 141), some (pw_i b), some (pw_i e), some (pw_i k36_3), some (.long k36_4), none, some (.long k36_6), none, some (pw_i (k36_8 + 1)), k36_9, k36_10, none, k36_12, none]) rfl rfl rfl rfl ?_
                    refine pw_goto E (pc' := 36) rfl (by decide) ?_
                    exact ih36 _ (by omega) (k36_3) (k36_4) (k36_6) (k36_8 + 1) k36_9 k36_10 k36_12  (by omega) (by omega) (by omega) (by omega)  rfl
                  · intro hc24
                    change ¬ (x22 ≠ (0 : Int)) at hc24
                    refine pw_ld E (pc' := 65) (st' := [.ref 141]) rfl (fun _ => rfl) ?_
                    refine pw_getR (b := 154) h9I E (c := 125) (k := 18) (pc' := 68) rfl rfl rfl rfl rfl rfl rfl ?_
                    refine pw_bip E (pc' := 70) rfl rfl (by decide) ?_
                    refine pw_ld E (pc' := 72) (st' := [pw_i k36_8, pw_i 12, .ref 154]) rfl (fun _ => rfl) ?_
                    refine pw_mul E (pc' := 73) rfl rfl ?_
                    refine pw_ld E (pc' := 74) (st' := [pw_i b, pw_i (12 * k36_8), .ref 154]) rfl (fun _ => rfl) ?_
                    refine pw_add E (pc' := 75) rfl rfl ?_
                    refine pw_ald2 h9I E (c := 138) (pc' := 76) rfl rfl rfl (by decide) rfl (by decide) (by omega) (by omega) rfl (fun hf25a hf25b => ?_)
                    refine pw_if E (pc' := 83) rfl (by decide) (by omega) (by omega) ?_ ?_
                    · intro hc26
                      change pw_g h9 138 (((12 * k36_8) + b).toNat) ≠ (0 : Int) at hc26
                      refine pw_ld E (pc' := 84) (st' := [pw_i 0]) rfl (fun _ => rfl) ?_
                      refine pw_ld E (pc' := 85) (st' := [.ref 141, pw_i 0]) rfl (fun _ => rfl) ?_
                      refine pw_getR (b := 154) h9I E (c := 125) (k := 18) (pc' := 88) rfl rfl rfl rfl rfl rfl rfl ?_
                      refine pw_bip E (pc' := 90) rfl rfl (by decide) ?_
                      refine pw_ld E (pc' := 92) (st' := [pw_i k36_8, pw_i 12, .ref 154, pw_i 0]) rfl (fun _ => rfl) ?_
                      refine pw_mul E (pc' := 93) rfl rfl ?_
                      refine pw_ld E (pc' := 94) (st' := [pw_i e, pw_i (12 * k36_8), .ref 154, pw_i 0]) rfl (fun _ => rfl) ?_
                      refine pw_add E (pc' := 95) rfl rfl ?_
                      refine pw_ald2 h9I E (c := 138) (pc' := 96) rfl rfl rfl (by decide) rfl (by decide) (by omega) (by omega) rfl (fun hf27a hf27b => ?_)
                      refine pw_if E (pc' := 103) rfl (by decide) (by omega) (by omega) ?_ ?_
                      · intro hc28
                        change pw_g h9 138 (((12 * k36_8) + e).toNat) ≠ (0 : Int) at hc28
                        refine pw_ld E (pc' := 104) (st' := [pw_i 0, pw_i 0]) rfl (fun _ => rfl) ?_
                        refine pw_add E (pc' := 105) rfl rfl ?_
                        refine pw_ist E (pc' := 107) (ls' := [some (.ref 141), some (pw_i b), some (pw_i e), some (pw_i k36_3), some (.long k36_4), none, some (.long k36_6), none, some (pw_i k36_8), some (pw_i (0 + 0)), k36_10, none, k36_12, none]) rfl rfl rfl rfl ?_
                        refine pw_ld E (pc' := 108) (st' := [.ref 141]) rfl (fun _ => rfl) ?_
                        refine pw_getR (b := 150) h9I E (c := 125) (k := 13) (pc' := 111) rfl rfl rfl rfl rfl rfl rfl ?_
                        refine pw_ld E (pc' := 113) (st' := [pw_i k36_8, .ref 150]) rfl (fun _ => rfl) ?_
                        refine pw_ald2 h9I E (c := 134) (pc' := 114) rfl rfl rfl (by decide) rfl (by decide) (by omega) (by omega) rfl (fun hf29a hf29b => ?_)
                        refine pw_i2l E (pc' := 115) rfl rfl (by omega) (by omega) ?_
                        refine pw_ld E (pc' := 117) (st' := [pw_i (0 + 0), .long (Int64.ofInt (pw_g h9 134 (k36_8.toNat)))]) rfl (fun _ => rfl) ?_
                        refine pw_i2l E (pc' := 118) rfl rfl (by decide) (by decide) ?_
                        refine pw_lmul E (pc' := 119) rfl rfl ?_
                        refine pw_lst E (pc' := 121) (ls' := [some (.ref 141), some (pw_i b), some (pw_i e), some (pw_i k36_3), some (.long k36_4), none, some (.long k36_6), none, some (pw_i k36_8), some (pw_i (0 + 0)), some (.long (Int64.ofInt ((pw_g h9 134 (k36_8.toNat)) * (0 + 0)))), none, k36_12, none]) rfl rfl rfl rfl ?_
                        refine pw_ld E (pc' := 122) (st' := [.ref 141]) rfl (fun _ => rfl) ?_
                        refine pw_getR (b := 148) h9I E (c := 125) (k := 11) (pc' := 125) rfl rfl rfl rfl rfl rfl rfl ?_
                        refine pw_ld E (pc' := 127) (st' := [pw_i k36_8, .ref 148]) rfl (fun _ => rfl) ?_
                        refine pw_ald2 h9I E (c := 132) (pc' := 128) rfl rfl rfl (by decide) rfl (by decide) (by omega) (by omega) rfl (fun hf30a hf30b => ?_)
                        refine pw_if E (pc' := 138) rfl (by decide) (by omega) (by omega) ?_ ?_
                        · intro hc31
                          change pw_g h9 132 (k36_8.toNat) ≠ (0 : Int) at hc31
                          refine pw_ld E (pc' := 139) (st' := [.ref 141]) rfl (fun _ => rfl) ?_
                          refine pw_getM h9I E (c := 125) (k := 29) (pc' := 142) rfl rfl rfl rfl rfl rfl (fun hf32a hf32b => ?_)
                          refine pw_lst E (pc' := 144) (ls' := [some (.ref 141), some (pw_i b), some (pw_i e), some (pw_i k36_3), some (.long k36_4), none, some (.long k36_6), none, some (pw_i k36_8), some (pw_i (0 + 0)), some (.long (Int64.ofInt ((pw_g h9 134 (k36_8.toNat)) * (0 + 0)))), none, some (.long (Int64.ofInt (pw_gm h9 125 29))), none]) rfl rfl rfl rfl ?_
                          refine pw_ld E (pc' := 145) (st' := [pw_i k36_3]) rfl (fun _ => rfl) ?_
                          refine pw_if E (pc' := 162) rfl (by decide) (by omega) (by omega) ?_ ?_
                          · intro hc33
                            change k36_3 < (0 : Int) at hc33
                            refine pw_ld E (pc' := 164) (st' := [pw_i k36_8]) rfl (fun _ => rfl) ?_
                            refine pw_istn E (pc' := 165) (ls' := [some (.ref 141), some (pw_i b), some (pw_i e), some (pw_i k36_8), some (.long k36_4), none, some (.long k36_6), none, some (pw_i k36_8), some (pw_i (0 + 0)), some (.long (Int64.ofInt ((pw_g h9 134 (k36_8.toNat)) * (0 + 0)))), none, some (.long (Int64.ofInt (pw_gm h9 125 29))), none]) rfl rfl rfl rfl ?_
                            refine pw_ld E (pc' := 167) (st' := [.long (Int64.ofInt ((pw_g h9 134 (k36_8.toNat)) * (0 + 0)))]) rfl (fun _ => rfl) ?_
                            refine pw_lst E (pc' := 169) (ls' := [some (.ref 141), some (pw_i b), some (pw_i e), some (pw_i k36_8), some (.long (Int64.ofInt ((pw_g h9 134 (k36_8.toNat)) * (0 + 0)))), none, some (.long k36_6), none, some (pw_i k36_8), some (pw_i (0 + 0)), some (.long (Int64.ofInt ((pw_g h9 134 (k36_8.toNat)) * (0 + 0)))), none, some (.long (Int64.ofInt (pw_gm h9 125 29))), none]) rfl rfl rfl rfl ?_
                            refine pw_ld E (pc' := 171) (st' := [.long (Int64.ofInt (pw_gm h9 125 29))]) rfl (fun _ => rfl) ?_
                            refine pw_lst E (pc' := 173) (ls' := [some (.ref 141), some (pw_i b), some (pw_i e), some (pw_i k36_8), some (.long (Int64.ofInt ((pw_g h9 134 (k36_8.toNat)) * (0 + 0)))), none, some (.long (Int64.ofInt (pw_gm h9 125 29))), none, some (pw_i k36_8), some (pw_i (0 + 0)), some (.long (Int64.ofInt ((pw_g h9 134 (k36_8.toNat)) * (0 + 0)))), none, some (.long (Int64.ofInt (pw_gm h9 125 29))), none]) rfl rfl rfl rfl ?_
                            refine pw_inc E (pc' := 176) (ls' := [some (.ref 141), some (pw_i b), some (pw_i e), some (pw_i k36_8), some (.long (Int64.ofInt ((pw_g h9 134 (k36_8.toNat)) * (0 + 0)))), none, some (.long (Int64.ofInt (pw_gm h9 125 29))), none, some (pw_i (k36_8 + 1)), some (pw_i (0 + 0)), some (.long (Int64.ofInt ((pw_g h9 134 (k36_8.toNat)) * (0 + 0)))), none, some (.long (Int64.ofInt (pw_gm h9 125 29))), none]) rfl rfl rfl rfl ?_
                            refine pw_goto E (pc' := 36) rfl (by decide) ?_
                            exact ih36 _ (by omega) (k36_8) (Int64.ofInt ((pw_g h9 134 (k36_8.toNat)) * (0 + 0))) (Int64.ofInt (pw_gm h9 125 29)) (k36_8 + 1) (some (pw_i (0 + 0))) (some (.long (Int64.ofInt ((pw_g h9 134 (k36_8.toNat)) * (0 + 0))))) (some (.long (Int64.ofInt (pw_gm h9 125 29))))  (by omega) (by omega) (by omega) (by omega)  rfl
                          · intro hc34
                            change ¬ (k36_3 < (0 : Int)) at hc34
                            refine pw_ld E (pc' := 150) (st' := [.long (Int64.ofInt ((pw_g h9 134 (k36_8.toNat)) * (0 + 0)))]) rfl (fun _ => rfl) ?_
                            refine pw_ld E (pc' := 152) (st' := [.long k36_6, .long (Int64.ofInt ((pw_g h9 134 (k36_8.toNat)) * (0 + 0)))]) rfl (fun _ => rfl) ?_
                            refine pw_ld E (pc' := 153) (st' := [.long ((Int64.ofInt ((pw_g h9 134 (k36_8.toNat)) * (0 + 0))) * k36_6)]) rfl (fun _ => rfl) ?_
                            refine pw_ld E (pc' := 155) (st' := [.long k36_4, .long ((Int64.ofInt ((pw_g h9 134 (k36_8.toNat)) * (0 + 0))) * k36_6)]) rfl (fun _ => rfl) ?_
                            refine pw_ld E (pc' := 157) (st' := [.long (Int64.ofInt (pw_gm h9 125 29)), .long k36_4, .long ((Int64.ofInt ((pw_g h9 134 (k36_8.toNat)) * (0 + 0))) * k36_6)]) rfl (fun _ => rfl) ?_
                            refine pw_ld E (pc' := 158) (st' := [.long (k36_4 * (Int64.ofInt (pw_gm h9 125 29))), .long ((Int64.ofInt ((pw_g h9 134 (k36_8.toNat)) * (0 + 0))) * k36_6)]) rfl (fun _ => rfl) ?_
                            refine pw_lcmp E (pc' := 159) rfl rfl (fun c35 hc35 => ?_)
                            refine pw_if E (pc' := 173) rfl (by decide) (by omega) (by omega) ?_ ?_
                            · intro hc36
                              change c35 ≤ (0 : Int) at hc36
                              refine pw_inc E (pc' := 176) (ls' := [some (.ref 141), some (pw_i b), some (pw_i e), some (pw_i k36_3), some (.long k36_4), none, some (.long k36_6), none, some (pw_i (k36_8 + 1)), some (pw_i (0 + 0)), some (.long (Int64.ofInt ((pw_g h9 134 (k36_8.toNat)) * (0 + 0)))), none, some (.long (Int64.ofInt (pw_gm h9 125 29))), none]) rfl rfl rfl rfl ?_
                              refine pw_goto E (pc' := 36) rfl (by decide) ?_
                              exact ih36 _ (by omega) (k36_3) (k36_4) (k36_6) (k36_8 + 1) (some (pw_i (0 + 0))) (some (.long (Int64.ofInt ((pw_g h9 134 (k36_8.toNat)) * (0 + 0))))) (some (.long (Int64.ofInt (pw_gm h9 125 29))))  (by omega) (by omega) (by omega) (by omega)  rfl
                            · intro hc37
                              change ¬ (c35 ≤ (0 : Int)) at hc37
                              refine pw_ld E (pc' := 164) (st' := [pw_i k36_8]) rfl (fun _ => rfl) ?_
                              refine pw_istn E (pc' := 165) (ls' := [some (.ref 141), some (pw_i b), some (pw_i e), some (pw_i k36_8), some (.long k36_4), none, some (.long k36_6), none, some (pw_i k36_8), some (pw_i (0 + 0)), some (.long (Int64.ofInt ((pw_g h9 134 (k36_8.toNat)) * (0 + 0)))), none, some (.long (Int64.ofInt (pw_gm h9 125 29))), none]) rfl rfl rfl rfl ?_
                              refine pw_ld E (pc' := 167) (st' := [.long (Int64.ofInt ((pw_g h9 134 (k36_8.toNat)) * (0 + 0)))]) rfl (fun _ => rfl) ?_
                              refine pw_lst E (pc' := 169) (ls' := [some (.ref 141), some (pw_i b), some (pw_i e), some (pw_i k36_8), some (.long (Int64.ofInt ((pw_g h9 134 (k36_8.toNat)) * (0 + 0)))), none, some (.long k36_6), none, some (pw_i k36_8), some (pw_i (0 + 0)), some (.long (Int64.ofInt ((pw_g h9 134 (k36_8.toNat)) * (0 + 0)))), none, some (.long (Int64.ofInt (pw_gm h9 125 29))), none]) rfl rfl rfl rfl ?_
                              refine pw_ld E (pc' := 171) (st' := [.long (Int64.ofInt (pw_gm h9 125 29))]) rfl (fun _ => rfl) ?_
                              refine pw_lst E (pc' := 173) (ls' := [some (.ref 141), some (pw_i b), some (pw_i e), some (pw_i k36_8), some (.long (Int64.ofInt ((pw_g h9 134 (k36_8.toNat)) * (0 + 0)))), none, some (.long (Int64.ofInt (pw_gm h9 125 29))), none, some (pw_i k36_8), some (pw_i (0 + 0)), some (.long (Int64.ofInt ((pw_g h9 134 (k36_8.toNat)) * (0 + 0)))), none, some (.long (Int64.ofInt (pw_gm h9 125 29))), none]) rfl rfl rfl rfl ?_
                              refine pw_inc E (pc' := 176) (ls' := [some (.ref 141), some (pw_i b), some (pw_i e), some (pw_i k36_8), some (.long (Int64.ofInt ((pw_g h9 134 (k36_8.toNat)) * (0 + 0)))), none, some (.long (Int64.ofInt (pw_gm h9 125 29))), none, some (pw_i (k36_8 + 1)), some (pw_i (0 + 0)), some (.long (Int64.ofInt ((pw_g h9 134 (k36_8.toNat)) * (0 + 0)))), none, some (.long (Int64.ofInt (pw_gm h9 125 29))), none]) rfl rfl rfl rfl ?_
                              refine pw_goto E (pc' := 36) rfl (by decide) ?_
                              exact ih36 _ (by omega) (k36_8) (Int64.ofInt ((pw_g h9 134 (k36_8.toNat)) * (0 + 0))) (Int64.ofInt (pw_gm h9 125 29)) (k36_8 + 1) (some (pw_i (0 + 0))) (some (.long (Int64.ofInt ((pw_g h9 134 (k36_8.toNat)) * (0 + 0))))) (some (.long (Int64.ofInt (pw_gm h9 125 29))))  (by omega) (by omega) (by omega) (by omega)  rfl
                        · intro hc38
                          change ¬ (pw_g h9 132 (k36_8.toNat) ≠ (0 : Int)) at hc38
                          refine pw_ld E (pc' := 132) (st' := [.ref 141]) rfl (fun _ => rfl) ?_
                          refine pw_getM h9I E (c := 125) (k := 27) (pc' := 135) rfl rfl rfl rfl rfl rfl (fun hf39a hf39b => ?_)
                          refine pw_goto E (pc' := 142) rfl (by decide) ?_
                          refine pw_lst E (pc' := 144) (ls' := [some (.ref 141), some (pw_i b), some (pw_i e), some (pw_i k36_3), some (.long k36_4), none, some (.long k36_6), none, some (pw_i k36_8), some (pw_i (0 + 0)), some (.long (Int64.ofInt ((pw_g h9 134 (k36_8.toNat)) * (0 + 0)))), none, some (.long (Int64.ofInt (pw_gm h9 125 27))), none]) rfl rfl rfl rfl ?_
                          refine pw_ld E (pc' := 145) (st' := [pw_i k36_3]) rfl (fun _ => rfl) ?_
                          refine pw_if E (pc' := 162) rfl (by decide) (by omega) (by omega) ?_ ?_
                          · intro hc40
                            change k36_3 < (0 : Int) at hc40
                            refine pw_ld E (pc' := 164) (st' := [pw_i k36_8]) rfl (fun _ => rfl) ?_
                            refine pw_istn E (pc' := 165) (ls' := [some (.ref 141), some (pw_i b), some (pw_i e), some (pw_i k36_8), some (.long k36_4), none, some (.long k36_6), none, some (pw_i k36_8), some (pw_i (0 + 0)), some (.long (Int64.ofInt ((pw_g h9 134 (k36_8.toNat)) * (0 + 0)))), none, some (.long (Int64.ofInt (pw_gm h9 125 27))), none]) rfl rfl rfl rfl ?_
                            refine pw_ld E (pc' := 167) (st' := [.long (Int64.ofInt ((pw_g h9 134 (k36_8.toNat)) * (0 + 0)))]) rfl (fun _ => rfl) ?_
                            refine pw_lst E (pc' := 169) (ls' := [some (.ref 141), some (pw_i b), some (pw_i e), some (pw_i k36_8), some (.long (Int64.ofInt ((pw_g h9 134 (k36_8.toNat)) * (0 + 0)))), none, some (.long k36_6), none, some (pw_i k36_8), some (pw_i (0 + 0)), some (.long (Int64.ofInt ((pw_g h9 134 (k36_8.toNat)) * (0 + 0)))), none, some (.long (Int64.ofInt (pw_gm h9 125 27))), none]) rfl rfl rfl rfl ?_
                            refine pw_ld E (pc' := 171) (st' := [.long (Int64.ofInt (pw_gm h9 125 27))]) rfl (fun _ => rfl) ?_
                            refine pw_lst E (pc' := 173) (ls' := [some (.ref 141), some (pw_i b), some (pw_i e), some (pw_i k36_8), some (.long (Int64.ofInt ((pw_g h9 134 (k36_8.toNat)) * (0 + 0)))), none, some (.long (Int64.ofInt (pw_gm h9 125 27))), none, some (pw_i k36_8), some (pw_i (0 + 0)), some (.long (Int64.ofInt ((pw_g h9 134 (k36_8.toNat)) * (0 + 0)))), none, some (.long (Int64.ofInt (pw_gm h9 125 27))), none]) rfl rfl rfl rfl ?_
                            refine pw_inc E (pc' := 176) (ls' := [some (.ref 141), some (pw_i b), some (pw_i e), some (pw_i k36_8), some (.long (Int64.ofInt ((pw_g h9 134 (k36_8.toNat)) * (0 + 0)))), none, some (.long (Int64.ofInt (pw_gm h9 125 27))), none, some (pw_i (k36_8 + 1)), some (pw_i (0 + 0)), some (.long (Int64.ofInt ((pw_g h9 134 (k36_8.toNat)) * (0 + 0)))), none, some (.long (Int64.ofInt (pw_gm h9 125 27))), none]) rfl rfl rfl rfl ?_
                            refine pw_goto E (pc' := 36) rfl (by decide) ?_
                            exact ih36 _ (by omega) (k36_8) (Int64.ofInt ((pw_g h9 134 (k36_8.toNat)) * (0 + 0))) (Int64.ofInt (pw_gm h9 125 27)) (k36_8 + 1) (some (pw_i (0 + 0))) (some (.long (Int64.ofInt ((pw_g h9 134 (k36_8.toNat)) * (0 + 0))))) (some (.long (Int64.ofInt (pw_gm h9 125 27))))  (by omega) (by omega) (by omega) (by omega)  rfl
                          · intro hc41
                            change ¬ (k36_3 < (0 : Int)) at hc41
                            refine pw_ld E (pc' := 150) (st' := [.long (Int64.ofInt ((pw_g h9 134 (k36_8.toNat)) * (0 + 0)))]) rfl (fun _ => rfl) ?_
                            refine pw_ld E (pc' := 152) (st' := [.long k36_6, .long (Int64.ofInt ((pw_g h9 134 (k36_8.toNat)) * (0 + 0)))]) rfl (fun _ => rfl) ?_
                            refine pw_ld E (pc' := 153) (st' := [.long ((Int64.ofInt ((pw_g h9 134 (k36_8.toNat)) * (0 + 0))) * k36_6)]) rfl (fun _ => rfl) ?_
                            refine pw_ld E (pc' := 155) (st' := [.long k36_4, .long ((Int64.ofInt ((pw_g h9 134 (k36_8.toNat)) * (0 + 0))) * k36_6)]) rfl (fun _ => rfl) ?_
                            refine pw_ld E (pc' := 157) (st' := [.long (Int64.ofInt (pw_gm h9 125 27)), .long k36_4, .long ((Int64.ofInt ((pw_g h9 134 (k36_8.toNat)) * (0 + 0))) * k36_6)]) rfl (fun _ => rfl) ?_
                            refine pw_ld E (pc' := 158) (st' := [.long (k36_4 * (Int64.ofInt (pw_gm h9 125 27))), .long ((Int64.ofInt ((pw_g h9 134 (k36_8.toNat)) * (0 + 0))) * k36_6)]) rfl (fun _ => rfl) ?_
                            refine pw_lcmp E (pc' := 159) rfl rfl (fun c42 hc42 => ?_)
                            refine pw_if E (pc' := 173) rfl (by decide) (by omega) (by omega) ?_ ?_
                            · intro hc43
                              change c42 ≤ (0 : Int) at hc43
                              refine pw_inc E (pc' := 176) (ls' := [some (.ref 141), some (pw_i b), some (pw_i e), some (pw_i k36_3), some (.long k36_4), none, some (.long k36_6), none, some (pw_i (k36_8 + 1)), some (pw_i (0 + 0)), some (.long (Int64.ofInt ((pw_g h9 134 (k36_8.toNat)) * (0 + 0)))), none, some (.long (Int64.ofInt (pw_gm h9 125 27))), none]) rfl rfl rfl rfl ?_
                              refine pw_goto E (pc' := 36) rfl (by decide) ?_
                              exact ih36 _ (by omega) (k36_3) (k36_4) (k36_6) (k36_8 + 1) (some (pw_i (0 + 0))) (some (.long (Int64.ofInt ((pw_g h9 134 (k36_8.toNat)) * (0 + 0))))) (some (.long (Int64.ofInt (pw_gm h9 125 27))))  (by omega) (by omega) (by omega) (by omega)  rfl
                            · intro hc44
                              change ¬ (c42 ≤ (0 : Int)) at hc44
                              refine pw_ld E (pc' := 164) (st' := [pw_i k36_8]) rfl (fun _ => rfl) ?_
                              refine pw_istn E (pc' := 165) (ls' := [some (.ref 141), some (pw_i b), some (pw_i e), some (pw_i k36_8), some (.long k36_4), none, some (.long k36_6), none, some (pw_i k36_8), some (pw_i (0 + 0)), some (.long (Int64.ofInt ((pw_g h9 134 (k36_8.toNat)) * (0 + 0)))), none, some (.long (Int64.ofInt (pw_gm h9 125 27))), none]) rfl rfl rfl rfl ?_
                              refine pw_ld E (pc' := 167) (st' := [.long (Int64.ofInt ((pw_g h9 134 (k36_8.toNat)) * (0 + 0)))]) rfl (fun _ => rfl) ?_
                              refine pw_lst E (pc' := 169) (ls' := [some (.ref 141), some (pw_i b), some (pw_i e), some (pw_i k36_8), some (.long (Int64.ofInt ((pw_g h9 134 (k36_8.toNat)) * (0 + 0)))), none, some (.long k36_6), none, some (pw_i k36_8), some (pw_i (0 + 0)), some (.long (Int64.ofInt ((pw_g h9 134 (k36_8.toNat)) * (0 + 0)))), none, some (.long (Int64.ofInt (pw_gm h9 125 27))), none]) rfl rfl rfl rfl ?_
                              refine pw_ld E (pc' := 171) (st' := [.long (Int64.ofInt (pw_gm h9 125 27))]) rfl (fun _ => rfl) ?_
                              refine pw_lst E (pc' := 173) (ls' := [some (.ref 141), some (pw_i b), some (pw_i e), some (pw_i k36_8), some (.long (Int64.ofInt ((pw_g h9 134 (k36_8.toNat)) * (0 + 0)))), none, some (.long (Int64.ofInt (pw_gm h9 125 27))), none, some (pw_i k36_8), some (pw_i (0 + 0)), some (.long (Int64.ofInt ((pw_g h9 134 (k36_8.toNat)) * (0 + 0)))), none, some (.long (Int64.ofInt (pw_gm h9 125 27))), none]) rfl rfl rfl rfl ?_
                              refine pw_inc E (pc' := 176) (ls' := [some (.ref 141), some (pw_i b), some (pw_i e), some (pw_i k36_8), some (.long (Int64.ofInt ((pw_g h9 134 (k36_8.toNat)) * (0 + 0)))), none, some (.long (Int64.ofInt (pw_gm h9 125 27))), none, some (pw_i (k36_8 + 1)), some (pw_i (0 + 0)), some (.long (Int64.ofInt ((pw_g h9 134 (k36_8.toNat)) * (0 + 0)))), none, some (.long (Int64.ofInt (pw_gm h9 125 27))), none]) rfl rfl rfl rfl ?_
                              refine pw_goto E (pc' := 36) rfl (by decide) ?_
                              exact ih36 _ (by omega) (k36_8) (Int64.ofInt ((pw_g h9 134 (k36_8.toNat)) * (0 + 0))) (Int64.ofInt (pw_gm h9 125 27)) (k36_8 + 1) (some (pw_i (0 + 0))) (some (.long (Int64.ofInt ((pw_g h9 134 (k36_8.toNat)) * (0 + 0))))) (some (.long (Int64.ofInt (pw_gm h9 125 27))))  (by omega) (by omega) (by omega) (by omega)  rfl
                      · intro hc45
                        change ¬ (pw_g h9 138 (((12 * k36_8) + e).toNat) ≠ (0 : Int)) at hc45
                        refine pw_ld E (pc' := 100) (st' := [pw_i 1, pw_i 0]) rfl (fun _ => rfl) ?_
                        refine pw_goto E (pc' := 104) rfl (by decide) ?_
                        refine pw_add E (pc' := 105) rfl rfl ?_
                        refine pw_ist E (pc' := 107) (ls' := [some (.ref 141), some (pw_i b), some (pw_i e), some (pw_i k36_3), some (.long k36_4), none, some (.long k36_6), none, some (pw_i k36_8), some (pw_i (0 + 1)), k36_10, none, k36_12, none]) rfl rfl rfl rfl ?_
                        refine pw_ld E (pc' := 108) (st' := [.ref 141]) rfl (fun _ => rfl) ?_
                        refine pw_getR (b := 150) h9I E (c := 125) (k := 13) (pc' := 111) rfl rfl rfl rfl rfl rfl rfl ?_
                        refine pw_ld E (pc' := 113) (st' := [pw_i k36_8, .ref 150]) rfl (fun _ => rfl) ?_
                        refine pw_ald2 h9I E (c := 134) (pc' := 114) rfl rfl rfl (by decide) rfl (by decide) (by omega) (by omega) rfl (fun hf46a hf46b => ?_)
                        refine pw_i2l E (pc' := 115) rfl rfl (by omega) (by omega) ?_
                        refine pw_ld E (pc' := 117) (st' := [pw_i (0 + 1), .long (Int64.ofInt (pw_g h9 134 (k36_8.toNat)))]) rfl (fun _ => rfl) ?_
                        refine pw_i2l E (pc' := 118) rfl rfl (by decide) (by decide) ?_
                        refine pw_lmul E (pc' := 119) rfl rfl ?_
                        refine pw_lst E (pc' := 121) (ls' := [some (.ref 141), some (pw_i b), some (pw_i e), some (pw_i k36_3), some (.long k36_4), none, some (.long k36_6), none, some (pw_i k36_8), some (pw_i (0 + 1)), some (.long (Int64.ofInt ((pw_g h9 134 (k36_8.toNat)) * (0 + 1)))), none, k36_12, none]) rfl rfl rfl rfl ?_
                        refine pw_ld E (pc' := 122) (st' := [.ref 141]) rfl (fun _ => rfl) ?_
                        refine pw_getR (b := 148) h9I E (c := 125) (k := 11) (pc' := 125) rfl rfl rfl rfl rfl rfl rfl ?_
                        refine pw_ld E (pc' := 127) (st' := [pw_i k36_8, .ref 148]) rfl (fun _ => rfl) ?_
                        refine pw_ald2 h9I E (c := 132) (pc' := 128) rfl rfl rfl (by decide) rfl (by decide) (by omega) (by omega) rfl (fun hf47a hf47b => ?_)
                        refine pw_if E (pc' := 138) rfl (by decide) (by omega) (by omega) ?_ ?_
                        · intro hc48
                          change pw_g h9 132 (k36_8.toNat) ≠ (0 : Int) at hc48
                          refine pw_ld E (pc' := 139) (st' := [.ref 141]) rfl (fun _ => rfl) ?_
                          refine pw_getM h9I E (c := 125) (k := 29) (pc' := 142) rfl rfl rfl rfl rfl rfl (fun hf49a hf49b => ?_)
                          refine pw_lst E (pc' := 144) (ls' := [some (.ref 141), some (pw_i b), some (pw_i e), some (pw_i k36_3), some (.long k36_4), none, some (.long k36_6), none, some (pw_i k36_8), some (pw_i (0 + 1)), some (.long (Int64.ofInt ((pw_g h9 134 (k36_8.toNat)) * (0 + 1)))), none, some (.long (Int64.ofInt (pw_gm h9 125 29))), none]) rfl rfl rfl rfl ?_
                          refine pw_ld E (pc' := 145) (st' := [pw_i k36_3]) rfl (fun _ => rfl) ?_
                          refine pw_if E (pc' := 162) rfl (by decide) (by omega) (by omega) ?_ ?_
                          · intro hc50
                            change k36_3 < (0 : Int) at hc50
                            refine pw_ld E (pc' := 164) (st' := [pw_i k36_8]) rfl (fun _ => rfl) ?_
                            refine pw_istn E (pc' := 165) (ls' := [some (.ref 141), some (pw_i b), some (pw_i e), some (pw_i k36_8), some (.long k36_4), none, some (.long k36_6), none, some (pw_i k36_8), some (pw_i (0 + 1)), some (.long (Int64.ofInt ((pw_g h9 134 (k36_8.toNat)) * (0 + 1)))), none, some (.long (Int64.ofInt (pw_gm h9 125 29))), none]) rfl rfl rfl rfl ?_
                            refine pw_ld E (pc' := 167) (st' := [.long (Int64.ofInt ((pw_g h9 134 (k36_8.toNat)) * (0 + 1)))]) rfl (fun _ => rfl) ?_
                            refine pw_lst E (pc' := 169) (ls' := [some (.ref 141), some (pw_i b), some (pw_i e), some (pw_i k36_8), some (.long (Int64.ofInt ((pw_g h9 134 (k36_8.toNat)) * (0 + 1)))), none, some (.long k36_6), none, some (pw_i k36_8), some (pw_i (0 + 1)), some (.long (Int64.ofInt ((pw_g h9 134 (k36_8.toNat)) * (0 + 1)))), none, some (.long (Int64.ofInt (pw_gm h9 125 29))), none]) rfl rfl rfl rfl ?_
                            refine pw_ld E (pc' := 171) (st' := [.long (Int64.ofInt (pw_gm h9 125 29))]) rfl (fun _ => rfl) ?_
                            refine pw_lst E (pc' := 173) (ls' := [some (.ref 141), some (pw_i b), some (pw_i e), some (pw_i k36_8), some (.long (Int64.ofInt ((pw_g h9 134 (k36_8.toNat)) * (0 + 1)))), none, some (.long (Int64.ofInt (pw_gm h9 125 29))), none, some (pw_i k36_8), some (pw_i (0 + 1)), some (.long (Int64.ofInt ((pw_g h9 134 (k36_8.toNat)) * (0 + 1)))), none, some (.long (Int64.ofInt (pw_gm h9 125 29))), none]) rfl rfl rfl rfl ?_
                            refine pw_inc E (pc' := 176) (ls' := [some (.ref 141), some (pw_i b), some (pw_i e), some (pw_i k36_8), some (.long (Int64.ofInt ((pw_g h9 134 (k36_8.toNat)) * (0 + 1)))), none, some (.long (Int64.ofInt (pw_gm h9 125 29))), none, some (pw_i (k36_8 + 1)), some (pw_i (0 + 1)), some (.long (Int64.ofInt ((pw_g h9 134 (k36_8.toNat)) * (0 + 1)))), none, some (.long (Int64.ofInt (pw_gm h9 125 29))), none]) rfl rfl rfl rfl ?_
                            refine pw_goto E (pc' := 36) rfl (by decide) ?_
                            exact ih36 _ (by omega) (k36_8) (Int64.ofInt ((pw_g h9 134 (k36_8.toNat)) * (0 + 1))) (Int64.ofInt (pw_gm h9 125 29)) (k36_8 + 1) (some (pw_i (0 + 1))) (some (.long (Int64.ofInt ((pw_g h9 134 (k36_8.toNat)) * (0 + 1))))) (some (.long (Int64.ofInt (pw_gm h9 125 29))))  (by omega) (by omega) (by omega) (by omega)  rfl
                          · intro hc51
                            change ¬ (k36_3 < (0 : Int)) at hc51
                            refine pw_ld E (pc' := 150) (st' := [.long (Int64.ofInt ((pw_g h9 134 (k36_8.toNat)) * (0 + 1)))]) rfl (fun _ => rfl) ?_
                            refine pw_ld E (pc' := 152) (st' := [.long k36_6, .long (Int64.ofInt ((pw_g h9 134 (k36_8.toNat)) * (0 + 1)))]) rfl (fun _ => rfl) ?_
                            refine pw_ld E (pc' := 153) (st' := [.long ((Int64.ofInt ((pw_g h9 134 (k36_8.toNat)) * (0 + 1))) * k36_6)]) rfl (fun _ => rfl) ?_
                            refine pw_ld E (pc' := 155) (st' := [.long k36_4, .long ((Int64.ofInt ((pw_g h9 134 (k36_8.toNat)) * (0 + 1))) * k36_6)]) rfl (fun _ => rfl) ?_
                            refine pw_ld E (pc' := 157) (st' := [.long (Int64.ofInt (pw_gm h9 125 29)), .long k36_4, .long ((Int64.ofInt ((pw_g h9 134 (k36_8.toNat)) * (0 + 1))) * k36_6)]) rfl (fun _ => rfl) ?_
                            refine pw_ld E (pc' := 158) (st' := [.long (k36_4 * (Int64.ofInt (pw_gm h9 125 29))), .long ((Int64.ofInt ((pw_g h9 134 (k36_8.toNat)) * (0 + 1))) * k36_6)]) rfl (fun _ => rfl) ?_
                            refine pw_lcmp E (pc' := 159) rfl rfl (fun c52 hc52 => ?_)
                            refine pw_if E (pc' := 173) rfl (by decide) (by omega) (by omega) ?_ ?_
                            · intro hc53
                              change c52 ≤ (0 : Int) at hc53
                              refine pw_inc E (pc' := 176) (ls' := [some (.ref 141), some (pw_i b), some (pw_i e), some (pw_i k36_3), some (.long k36_4), none, some (.long k36_6), none, some (pw_i (k36_8 + 1)), some (pw_i (0 + 1)), some (.long (Int64.ofInt ((pw_g h9 134 (k36_8.toNat)) * (0 + 1)))), none, some (.long (Int64.ofInt (pw_gm h9 125 29))), none]) rfl rfl rfl rfl ?_
                              refine pw_goto E (pc' := 36) rfl (by decide) ?_
                              exact ih36 _ (by omega) (k36_3) (k36_4) (k36_6) (k36_8 + 1) (some (pw_i (0 + 1))) (some (.long (Int64.ofInt ((pw_g h9 134 (k36_8.toNat)) * (0 + 1))))) (some (.long (Int64.ofInt (pw_gm h9 125 29))))  (by omega) (by omega) (by omega) (by omega)  rfl
                            · intro hc54
                              change ¬ (c52 ≤ (0 : Int)) at hc54
                              refine pw_ld E (pc' := 164) (st' := [pw_i k36_8]) rfl (fun _ => rfl) ?_
                              refine pw_istn E (pc' := 165) (ls' := [some (.ref 141), some (pw_i b), some (pw_i e), some (pw_i k36_8), some (.long k36_4), none, some (.long k36_6), none, some (pw_i k36_8), some (pw_i (0 + 1)), some (.long (Int64.ofInt ((pw_g h9 134 (k36_8.toNat)) * (0 + 1)))), none, some (.long (Int64.ofInt (pw_gm h9 125 29))), none]) rfl rfl rfl rfl ?_
                              refine pw_ld E (pc' := 167) (st' := [.long (Int64.ofInt ((pw_g h9 134 (k36_8.toNat)) * (0 + 1)))]) rfl (fun _ => rfl) ?_
                              refine pw_lst E (pc' := 169) (ls' := [some (.ref 141), some (pw_i b), some (pw_i e), some (pw_i k36_8), some (.long (Int64.ofInt ((pw_g h9 134 (k36_8.toNat)) * (0 + 1)))), none, some (.long k36_6), none, some (pw_i k36_8), some (pw_i (0 + 1)), some (.long (Int64.ofInt ((pw_g h9 134 (k36_8.toNat)) * (0 + 1)))), none, some (.long (Int64.ofInt (pw_gm h9 125 29))), none]) rfl rfl rfl rfl ?_
                              refine pw_ld E (pc' := 171) (st' := [.long (Int64.ofInt (pw_gm h9 125 29))]) rfl (fun _ => rfl) ?_
                              refine pw_lst E (pc' := 173) (ls' := [some (.ref 141), some (pw_i b), some (pw_i e), some (pw_i k36_8), some (.long (Int64.ofInt ((pw_g h9 134 (k36_8.toNat)) * (0 + 1)))), none, some (.long (Int64.ofInt (pw_gm h9 125 29))), none, some (pw_i k36_8), some (pw_i (0 + 1)), some (.long (Int64.ofInt ((pw_g h9 134 (k36_8.toNat)) * (0 + 1)))), none, some (.long (Int64.ofInt (pw_gm h9 125 29))), none]) rfl rfl rfl rfl ?_
                              refine pw_inc E (pc' := 176) (ls' := [some (.ref 141), some (pw_i b), some (pw_i e), some (pw_i k36_8), some (.long (Int64.ofInt ((pw_g h9 134 (k36_8.toNat)) * (0 + 1)))), none, some (.long (Int64.ofInt (pw_gm h9 125 29))), none, some (pw_i (k36_8 + 1)), some (pw_i (0 + 1)), some (.long (Int64.ofInt ((pw_g h9 134 (k36_8.toNat)) * (0 + 1)))), none, some (.long (Int64.ofInt (pw_gm h9 125 29))), none]) rfl rfl rfl rfl ?_
                              refine pw_goto E (pc' := 36) rfl (by decide) ?_
                              exact ih36 _ (by omega) (k36_8) (Int64.ofInt ((pw_g h9 134 (k36_8.toNat)) * (0 + 1))) (Int64.ofInt (pw_gm h9 125 29)) (k36_8 + 1) (some (pw_i (0 + 1))) (some (.long (Int64.ofInt ((pw_g h9 134 (k36_8.toNat)) * (0 + 1))))) (some (.long (Int64.ofInt (pw_gm h9 125 29))))  (by omega) (by omega) (by omega) (by omega)  rfl
                        · intro hc55
                          change ¬ (pw_g h9 132 (k36_8.toNat) ≠ (0 : Int)) at hc55
                          refine pw_ld E (pc' := 132) (st' := [.ref 141]) rfl (fun _ => rfl) ?_
                          refine pw_getM h9I E (c := 125) (k := 27) (pc' := 135) rfl rfl rfl rfl rfl rfl (fun hf56a hf56b => ?_)
                          refine pw_goto E (pc' := 142) rfl (by decide) ?_
                          refine pw_lst E (pc' := 144) (ls' := [some (.ref 141), some (pw_i b), some (pw_i e), some (pw_i k36_3), some (.long k36_4), none, some (.long k36_6), none, some (pw_i k36_8), some (pw_i (0 + 1)), some (.long (Int64.ofInt ((pw_g h9 134 (k36_8.toNat)) * (0 + 1)))), none, some (.long (Int64.ofInt (pw_gm h9 125 27))), none]) rfl rfl rfl rfl ?_
                          refine pw_ld E (pc' := 145) (st' := [pw_i k36_3]) rfl (fun _ => rfl) ?_
                          refine pw_if E (pc' := 162) rfl (by decide) (by omega) (by omega) ?_ ?_
                          · intro hc57
                            change k36_3 < (0 : Int) at hc57
                            refine pw_ld E (pc' := 164) (st' := [pw_i k36_8]) rfl (fun _ => rfl) ?_
                            refine pw_istn E (pc' := 165) (ls' := [some (.ref 141), some (pw_i b), some (pw_i e), some (pw_i k36_8), some (.long k36_4), none, some (.long k36_6), none, some (pw_i k36_8), some (pw_i (0 + 1)), some (.long (Int64.ofInt ((pw_g h9 134 (k36_8.toNat)) * (0 + 1)))), none, some (.long (Int64.ofInt (pw_gm h9 125 27))), none]) rfl rfl rfl rfl ?_
                            refine pw_ld E (pc' := 167) (st' := [.long (Int64.ofInt ((pw_g h9 134 (k36_8.toNat)) * (0 + 1)))]) rfl (fun _ => rfl) ?_
                            refine pw_lst E (pc' := 169) (ls' := [some (.ref 141), some (pw_i b), some (pw_i e), some (pw_i k36_8), some (.long (Int64.ofInt ((pw_g h9 134 (k36_8.toNat)) * (0 + 1)))), none, some (.long k36_6), none, some (pw_i k36_8), some (pw_i (0 + 1)), some (.long (Int64.ofInt ((pw_g h9 134 (k36_8.toNat)) * (0 + 1)))), none, some (.long (Int64.ofInt (pw_gm h9 125 27))), none]) rfl rfl rfl rfl ?_
                            refine pw_ld E (pc' := 171) (st' := [.long (Int64.ofInt (pw_gm h9 125 27))]) rfl (fun _ => rfl) ?_
                            refine pw_lst E (pc' := 173) (ls' := [some (.ref 141), some (pw_i b), some (pw_i e), some (pw_i k36_8), some (.long (Int64.ofInt ((pw_g h9 134 (k36_8.toNat)) * (0 + 1)))), none, some (.long (Int64.ofInt (pw_gm h9 125 27))), none, some (pw_i k36_8), some (pw_i (0 + 1)), some (.long (Int64.ofInt ((pw_g h9 134 (k36_8.toNat)) * (0 + 1)))), none, some (.long (Int64.ofInt (pw_gm h9 125 27))), none]) rfl rfl rfl rfl ?_
                            refine pw_inc E (pc' := 176) (ls' := [some (.ref 141), some (pw_i b), some (pw_i e), some (pw_i k36_8), some (.long (Int64.ofInt ((pw_g h9 134 (k36_8.toNat)) * (0 + 1)))), none, some (.long (Int64.ofInt (pw_gm h9 125 27))), none, some (pw_i (k36_8 + 1)), some (pw_i (0 + 1)), some (.long (Int64.ofInt ((pw_g h9 134 (k36_8.toNat)) * (0 + 1)))), none, some (.long (Int64.ofInt (pw_gm h9 125 27))), none]) rfl rfl rfl rfl ?_
                            refine pw_goto E (pc' := 36) rfl (by decide) ?_
                            exact ih36 _ (by omega) (k36_8) (Int64.ofInt ((pw_g h9 134 (k36_8.toNat)) * (0 + 1))) (Int64.ofInt (pw_gm h9 125 27)) (k36_8 + 1) (some (pw_i (0 + 1))) (some (.long (Int64.ofInt ((pw_g h9 134 (k36_8.toNat)) * (0 + 1))))) (some (.long (Int64.ofInt (pw_gm h9 125 27))))  (by omega) (by omega) (by omega) (by omega)  rfl
                          · intro hc58
                            change ¬ (k36_3 < (0 : Int)) at hc58
                            refine pw_ld E (pc' := 150) (st' := [.long (Int64.ofInt ((pw_g h9 134 (k36_8.toNat)) * (0 + 1)))]) rfl (fun _ => rfl) ?_
                            refine pw_ld E (pc' := 152) (st' := [.long k36_6, .long (Int64.ofInt ((pw_g h9 134 (k36_8.toNat)) * (0 + 1)))]) rfl (fun _ => rfl) ?_
                            refine pw_ld E (pc' := 153) (st' := [.long ((Int64.ofInt ((pw_g h9 134 (k36_8.toNat)) * (0 + 1))) * k36_6)]) rfl (fun _ => rfl) ?_
                            refine pw_ld E (pc' := 155) (st' := [.long k36_4, .long ((Int64.ofInt ((pw_g h9 134 (k36_8.toNat)) * (0 + 1))) * k36_6)]) rfl (fun _ => rfl) ?_
                            refine pw_ld E (pc' := 157) (st' := [.long (Int64.ofInt (pw_gm h9 125 27)), .long k36_4, .long ((Int64.ofInt ((pw_g h9 134 (k36_8.toNat)) * (0 + 1))) * k36_6)]) rfl (fun _ => rfl) ?_
                            refine pw_ld E (pc' := 158) (st' := [.long (k36_4 * (Int64.ofInt (pw_gm h9 125 27))), .long ((Int64.ofInt ((pw_g h9 134 (k36_8.toNat)) * (0 + 1))) * k36_6)]) rfl (fun _ => rfl) ?_
                            refine pw_lcmp E (pc' := 159) rfl rfl (fun c59 hc59 => ?_)
                            refine pw_if E (pc' := 173) rfl (by decide) (by omega) (by omega) ?_ ?_
                            · intro hc60
                              change c59 ≤ (0 : Int) at hc60
                              refine pw_inc E (pc' := 176) (ls' := [some (.ref 141), some (pw_i b), some (pw_i e), some (pw_i k36_3), some (.long k36_4), none, some (.long k36_6), none, some (pw_i (k36_8 + 1)), some (pw_i (0 + 1)), some (.long (Int64.ofInt ((pw_g h9 134 (k36_8.toNat)) * (0 + 1)))), none, some (.long (Int64.ofInt (pw_gm h9 125 27))), none]) rfl rfl rfl rfl ?_
                              refine pw_goto E (pc' := 36) rfl (by decide) ?_
                              exact ih36 _ (by omega) (k36_3) (k36_4) (k36_6) (k36_8 + 1) (some (pw_i (0 + 1))) (some (.long (Int64.ofInt ((pw_g h9 134 (k36_8.toNat)) * (0 + 1))))) (some (.long (Int64.ofInt (pw_gm h9 125 27))))  (by omega) (by omega) (by omega) (by omega)  rfl
                            · intro hc61
                              change ¬ (c59 ≤ (0 : Int)) at hc61
                              refine pw_ld E (pc' := 164) (st' := [pw_i k36_8]) rfl (fun _ => rfl) ?_
                              refine pw_istn E (pc' := 165) (ls' := [some (.ref 141), some (pw_i b), some (pw_i e), some (pw_i k36_8), some (.long k36_4), none, some (.long k36_6), none, some (pw_i k36_8), some (pw_i (0 + 1)), some (.long (Int64.ofInt ((pw_g h9 134 (k36_8.toNat)) * (0 + 1)))), none, some (.long (Int64.ofInt (pw_gm h9 125 27))), none]) rfl rfl rfl rfl ?_
                              refine pw_ld E (pc' := 167) (st' := [.long (Int64.ofInt ((pw_g h9 134 (k36_8.toNat)) * (0 + 1)))]) rfl (fun _ => rfl) ?_
                              refine pw_lst E (pc' := 169) (ls' := [some (.ref 141), some (pw_i b), some (pw_i e), some (pw_i k36_8), some (.long (Int64.ofInt ((pw_g h9 134 (k36_8.toNat)) * (0 + 1)))), none, some (.long k36_6), none, some (pw_i k36_8), some (pw_i (0 + 1)), some (.long (Int64.ofInt ((pw_g h9 134 (k36_8.toNat)) * (0 + 1)))), none, some (.long (Int64.ofInt (pw_gm h9 125 27))), none]) rfl rfl rfl rfl ?_
                              refine pw_ld E (pc' := 171) (st' := [.long (Int64.ofInt (pw_gm h9 125 27))]) rfl (fun _ => rfl) ?_
                              refine pw_lst E (pc' := 173) (ls' := [some (.ref 141), some (pw_i b), some (pw_i e), some (pw_i k36_8), some (.long (Int64.ofInt ((pw_g h9 134 (k36_8.toNat)) * (0 + 1)))), none, some (.long (Int64.ofInt (pw_gm h9 125 27))), none, some (pw_i k36_8), some (pw_i (0 + 1)), some (.long (Int64.ofInt ((pw_g h9 134 (k36_8.toNat)) * (0 + 1)))), none, some (.long (Int64.ofInt (pw_gm h9 125 27))), none]) rfl rfl rfl rfl ?_
                              refine pw_inc E (pc' := 176) (ls' := [some (.ref 141), some (pw_i b), some (pw_i e), some (pw_i k36_8), some (.long (Int64.ofInt ((pw_g h9 134 (k36_8.toNat)) * (0 + 1)))), none, some (.long (Int64.ofInt (pw_gm h9 125 27))), none, some (pw_i (k36_8 + 1)), some (pw_i (0 + 1)), some (.long (Int64.ofInt ((pw_g h9 134 (k36_8.toNat)) * (0 + 1)))), none, some (.long (Int64.ofInt (pw_gm h9 125 27))), none]) rfl rfl rfl rfl ?_
                              refine pw_goto E (pc' := 36) rfl (by decide) ?_
                              exact ih36 _ (by omega) (k36_8) (Int64.ofInt ((pw_g h9 134 (k36_8.toNat)) * (0 + 1))) (Int64.ofInt (pw_gm h9 125 27)) (k36_8 + 1) (some (pw_i (0 + 1))) (some (.long (Int64.ofInt ((pw_g h9 134 (k36_8.toNat)) * (0 + 1))))) (some (.long (Int64.ofInt (pw_gm h9 125 27))))  (by omega) (by omega) (by omega) (by omega)  rfl
                    · intro hc62
                      change ¬ (pw_g h9 138 (((12 * k36_8) + b).toNat) ≠ (0 : Int)) at hc62
                      refine pw_ld E (pc' := 80) (st' := [pw_i 1]) rfl (fun _ => rfl) ?_
                      refine pw_goto E (pc' := 84) rfl (by decide) ?_
                      refine pw_ld E (pc' := 85) (st' := [.ref 141, pw_i 1]) rfl (fun _ => rfl) ?_
                      refine pw_getR (b := 154) h9I E (c := 125) (k := 18) (pc' := 88) rfl rfl rfl rfl rfl rfl rfl ?_
                      refine pw_bip E (pc' := 90) rfl rfl (by decide) ?_
                      refine pw_ld E (pc' := 92) (st' := [pw_i k36_8, pw_i 12, .ref 154, pw_i 1]) rfl (fun _ => rfl) ?_
                      refine pw_mul E (pc' := 93) rfl rfl ?_
                      refine pw_ld E (pc' := 94) (st' := [pw_i e, pw_i (12 * k36_8), .ref 154, pw_i 1]) rfl (fun _ => rfl) ?_
                      refine pw_add E (pc' := 95) rfl rfl ?_
                      refine pw_ald2 h9I E (c := 138) (pc' := 96) rfl rfl rfl (by decide) rfl (by decide) (by omega) (by omega) rfl (fun hf63a hf63b => ?_)
                      refine pw_if E (pc' := 103) rfl (by decide) (by omega) (by omega) ?_ ?_
                      · intro hc64
                        change pw_g h9 138 (((12 * k36_8) + e).toNat) ≠ (0 : Int) at hc64
                        refine pw_ld E (pc' := 104) (st' := [pw_i 0, pw_i 1]) rfl (fun _ => rfl) ?_
                        refine pw_add E (pc' := 105) rfl rfl ?_
                        refine pw_ist E (pc' := 107) (ls' := [some (.ref 141), some (pw_i b), some (pw_i e), some (pw_i k36_3), some (.long k36_4), none, some (.long k36_6), none, some (pw_i k36_8), some (pw_i (1 + 0)), k36_10, none, k36_12, none]) rfl rfl rfl rfl ?_
                        refine pw_ld E (pc' := 108) (st' := [.ref 141]) rfl (fun _ => rfl) ?_
                        refine pw_getR (b := 150) h9I E (c := 125) (k := 13) (pc' := 111) rfl rfl rfl rfl rfl rfl rfl ?_
                        refine pw_ld E (pc' := 113) (st' := [pw_i k36_8, .ref 150]) rfl (fun _ => rfl) ?_
                        refine pw_ald2 h9I E (c := 134) (pc' := 114) rfl rfl rfl (by decide) rfl (by decide) (by omega) (by omega) rfl (fun hf65a hf65b => ?_)
                        refine pw_i2l E (pc' := 115) rfl rfl (by omega) (by omega) ?_
                        refine pw_ld E (pc' := 117) (st' := [pw_i (1 + 0), .long (Int64.ofInt (pw_g h9 134 (k36_8.toNat)))]) rfl (fun _ => rfl) ?_
                        refine pw_i2l E (pc' := 118) rfl rfl (by decide) (by decide) ?_
                        refine pw_lmul E (pc' := 119) rfl rfl ?_
                        refine pw_lst E (pc' := 121) (ls' := [some (.ref 141), some (pw_i b), some (pw_i e), some (pw_i k36_3), some (.long k36_4), none, some (.long k36_6), none, some (pw_i k36_8), some (pw_i (1 + 0)), some (.long (Int64.ofInt ((pw_g h9 134 (k36_8.toNat)) * (1 + 0)))), none, k36_12, none]) rfl rfl rfl rfl ?_
                        refine pw_ld E (pc' := 122) (st' := [.ref 141]) rfl (fun _ => rfl) ?_
                        refine pw_getR (b := 148) h9I E (c := 125) (k := 11) (pc' := 125) rfl rfl rfl rfl rfl rfl rfl ?_
                        refine pw_ld E (pc' := 127) (st' := [pw_i k36_8, .ref 148]) rfl (fun _ => rfl) ?_
                        refine pw_ald2 h9I E (c := 132) (pc' := 128) rfl rfl rfl (by decide) rfl (by decide) (by omega) (by omega) rfl (fun hf66a hf66b => ?_)
                        refine pw_if E (pc' := 138) rfl (by decide) (by omega) (by omega) ?_ ?_
                        · intro hc67
                          change pw_g h9 132 (k36_8.toNat) ≠ (0 : Int) at hc67
                          refine pw_ld E (pc' := 139) (st' := [.ref 141]) rfl (fun _ => rfl) ?_
                          refine pw_getM h9I E (c := 125) (k := 29) (pc' := 142) rfl rfl rfl rfl rfl rfl (fun hf68a hf68b => ?_)
                          refine pw_lst E (pc' := 144) (ls' := [some (.ref 141), some (pw_i b), some (pw_i e), some (pw_i k36_3), some (.long k36_4), none, some (.long k36_6), none, some (pw_i k36_8), some (pw_i (1 + 0)), some (.long (Int64.ofInt ((pw_g h9 134 (k36_8.toNat)) * (1 + 0)))), none, some (.long (Int64.ofInt (pw_gm h9 125 29))), none]) rfl rfl rfl rfl ?_
                          refine pw_ld E (pc' := 145) (st' := [pw_i k36_3]) rfl (fun _ => rfl) ?_
                          refine pw_if E (pc' := 162) rfl (by decide) (by omega) (by omega) ?_ ?_
                          · intro hc69
                            change k36_3 < (0 : Int) at hc69
                            refine pw_ld E (pc' := 164) (st' := [pw_i k36_8]) rfl (fun _ => rfl) ?_
                            refine pw_istn E (pc' := 165) (ls' := [some (.ref 141), some (pw_i b), some (pw_i e), some (pw_i k36_8), some (.long k36_4), none, some (.long k36_6), none, some (pw_i k36_8), some (pw_i (1 + 0)), some (.long (Int64.ofInt ((pw_g h9 134 (k36_8.toNat)) * (1 + 0)))), none, some (.long (Int64.ofInt (pw_gm h9 125 29))), none]) rfl rfl rfl rfl ?_
                            refine pw_ld E (pc' := 167) (st' := [.long (Int64.ofInt ((pw_g h9 134 (k36_8.toNat)) * (1 + 0)))]) rfl (fun _ => rfl) ?_
                            refine pw_lst E (pc' := 169) (ls' := [some (.ref 141), some (pw_i b), some (pw_i e), some (pw_i k36_8), some (.long (Int64.ofInt ((pw_g h9 134 (k36_8.toNat)) * (1 + 0)))), none, some (.long k36_6), none, some (pw_i k36_8), some (pw_i (1 + 0)), some (.long (Int64.ofInt ((pw_g h9 134 (k36_8.toNat)) * (1 + 0)))), none, some (.long (Int64.ofInt (pw_gm h9 125 29))), none]) rfl rfl rfl rfl ?_
                            refine pw_ld E (pc' := 171) (st' := [.long (Int64.ofInt (pw_gm h9 125 29))]) rfl (fun _ => rfl) ?_
                            refine pw_lst E (pc' := 173) (ls' := [some (.ref 141), some (pw_i b), some (pw_i e), some (pw_i k36_8), some (.long (Int64.ofInt ((pw_g h9 134 (k36_8.toNat)) * (1 + 0)))), none, some (.long (Int64.ofInt (pw_gm h9 125 29))), none, some (pw_i k36_8), some (pw_i (1 + 0)), some (.long (Int64.ofInt ((pw_g h9 134 (k36_8.toNat)) * (1 + 0)))), none, some (.long (Int64.ofInt (pw_gm h9 125 29))), none]) rfl rfl rfl rfl ?_
                            refine pw_inc E (pc' := 176) (ls' := [some (.ref 141), some (pw_i b), some (pw_i e), some (pw_i k36_8), some (.long (Int64.ofInt ((pw_g h9 134 (k36_8.toNat)) * (1 + 0)))), none, some (.long (Int64.ofInt (pw_gm h9 125 29))), none, some (pw_i (k36_8 + 1)), some (pw_i (1 + 0)), some (.long (Int64.ofInt ((pw_g h9 134 (k36_8.toNat)) * (1 + 0)))), none, some (.long (Int64.ofInt (pw_gm h9 125 29))), none]) rfl rfl rfl rfl ?_
                            refine pw_goto E (pc' := 36) rfl (by decide) ?_
                            exact ih36 _ (by omega) (k36_8) (Int64.ofInt ((pw_g h9 134 (k36_8.toNat)) * (1 + 0))) (Int64.ofInt (pw_gm h9 125 29)) (k36_8 + 1) (some (pw_i (1 + 0))) (some (.long (Int64.ofInt ((pw_g h9 134 (k36_8.toNat)) * (1 + 0))))) (some (.long (Int64.ofInt (pw_gm h9 125 29))))  (by omega) (by omega) (by omega) (by omega)  rfl
                          · intro hc70
                            change ¬ (k36_3 < (0 : Int)) at hc70
                            refine pw_ld E (pc' := 150) (st' := [.long (Int64.ofInt ((pw_g h9 134 (k36_8.toNat)) * (1 + 0)))]) rfl (fun _ => rfl) ?_
                            refine pw_ld E (pc' := 152) (st' := [.long k36_6, .long (Int64.ofInt ((pw_g h9 134 (k36_8.toNat)) * (1 + 0)))]) rfl (fun _ => rfl) ?_
                            refine pw_ld E (pc' := 153) (st' := [.long ((Int64.ofInt ((pw_g h9 134 (k36_8.toNat)) * (1 + 0))) * k36_6)]) rfl (fun _ => rfl) ?_
                            refine pw_ld E (pc' := 155) (st' := [.long k36_4, .long ((Int64.ofInt ((pw_g h9 134 (k36_8.toNat)) * (1 + 0))) * k36_6)]) rfl (fun _ => rfl) ?_
                            refine pw_ld E (pc' := 157) (st' := [.long (Int64.ofInt (pw_gm h9 125 29)), .long k36_4, .long ((Int64.ofInt ((pw_g h9 134 (k36_8.toNat)) * (1 + 0))) * k36_6)]) rfl (fun _ => rfl) ?_
                            refine pw_ld E (pc' := 158) (st' := [.long (k36_4 * (Int64.ofInt (pw_gm h9 125 29))), .long ((Int64.ofInt ((pw_g h9 134 (k36_8.toNat)) * (1 + 0))) * k36_6)]) rfl (fun _ => rfl) ?_
                            refine pw_lcmp E (pc' := 159) rfl rfl (fun c71 hc71 => ?_)
                            refine pw_if E (pc' := 173) rfl (by decide) (by omega) (by omega) ?_ ?_
                            · intro hc72
                              change c71 ≤ (0 : Int) at hc72
                              refine pw_inc E (pc' := 176) (ls' := [some (.ref 141), some (pw_i b), some (pw_i e), some (pw_i k36_3), some (.long k36_4), none, some (.long k36_6), none, some (pw_i (k36_8 + 1)), some (pw_i (1 + 0)), some (.long (Int64.ofInt ((pw_g h9 134 (k36_8.toNat)) * (1 + 0)))), none, some (.long (Int64.ofInt (pw_gm h9 125 29))), none]) rfl rfl rfl rfl ?_
                              refine pw_goto E (pc' := 36) rfl (by decide) ?_
                              exact ih36 _ (by omega) (k36_3) (k36_4) (k36_6) (k36_8 + 1) (some (pw_i (1 + 0))) (some (.long (Int64.ofInt ((pw_g h9 134 (k36_8.toNat)) * (1 + 0))))) (some (.long (Int64.ofInt (pw_gm h9 125 29))))  (by omega) (by omega) (by omega) (by omega)  rfl
                            · intro hc73
                              change ¬ (c71 ≤ (0 : Int)) at hc73
                              refine pw_ld E (pc' := 164) (st' := [pw_i k36_8]) rfl (fun _ => rfl) ?_
                              refine pw_istn E (pc' := 165) (ls' := [some (.ref 141), some (pw_i b), some (pw_i e), some (pw_i k36_8), some (.long k36_4), none, some (.long k36_6), none, some (pw_i k36_8), some (pw_i (1 + 0)), some (.long (Int64.ofInt ((pw_g h9 134 (k36_8.toNat)) * (1 + 0)))), none, some (.long (Int64.ofInt (pw_gm h9 125 29))), none]) rfl rfl rfl rfl ?_
                              refine pw_ld E (pc' := 167) (st' := [.long (Int64.ofInt ((pw_g h9 134 (k36_8.toNat)) * (1 + 0)))]) rfl (fun _ => rfl) ?_
                              refine pw_lst E (pc' := 169) (ls' := [some (.ref 141), some (pw_i b), some (pw_i e), some (pw_i k36_8), some (.long (Int64.ofInt ((pw_g h9 134 (k36_8.toNat)) * (1 + 0)))), none, some (.long k36_6), none, some (pw_i k36_8), some (pw_i (1 + 0)), some (.long (Int64.ofInt ((pw_g h9 134 (k36_8.toNat)) * (1 + 0)))), none, some (.long (Int64.ofInt (pw_gm h9 125 29))), none]) rfl rfl rfl rfl ?_
                              refine pw_ld E (pc' := 171) (st' := [.long (Int64.ofInt (pw_gm h9 125 29))]) rfl (fun _ => rfl) ?_
                              refine pw_lst E (pc' := 173) (ls' := [some (.ref 141), some (pw_i b), some (pw_i e), some (pw_i k36_8), some (.long (Int64.ofInt ((pw_g h9 134 (k36_8.toNat)) * (1 + 0)))), none, some (.long (Int64.ofInt (pw_gm h9 125 29))), none, some (pw_i k36_8), some (pw_i (1 + 0)), some (.long (Int64.ofInt ((pw_g h9 134 (k36_8.toNat)) * (1 + 0)))), none, some (.long (Int64.ofInt (pw_gm h9 125 29))), none]) rfl rfl rfl rfl ?_
                              refine pw_inc E (pc' := 176) (ls' := [some (.ref 141), some (pw_i b), some (pw_i e), some (pw_i k36_8), some (.long (Int64.ofInt ((pw_g h9 134 (k36_8.toNat)) * (1 + 0)))), none, some (.long (Int64.ofInt (pw_gm h9 125 29))), none, some (pw_i (k36_8 + 1)), some (pw_i (1 + 0)), some (.long (Int64.ofInt ((pw_g h9 134 (k36_8.toNat)) * (1 + 0)))), none, some (.long (Int64.ofInt (pw_gm h9 125 29))), none]) rfl rfl rfl rfl ?_
                              refine pw_goto E (pc' := 36) rfl (by decide) ?_
                              exact ih36 _ (by omega) (k36_8) (Int64.ofInt ((pw_g h9 134 (k36_8.toNat)) * (1 + 0))) (Int64.ofInt (pw_gm h9 125 29)) (k36_8 + 1) (some (pw_i (1 + 0))) (some (.long (Int64.ofInt ((pw_g h9 134 (k36_8.toNat)) * (1 + 0))))) (some (.long (Int64.ofInt (pw_gm h9 125 29))))  (by omega) (by omega) (by omega) (by omega)  rfl
                        · intro hc74
                          change ¬ (pw_g h9 132 (k36_8.toNat) ≠ (0 : Int)) at hc74
                          refine pw_ld E (pc' := 132) (st' := [.ref 141]) rfl (fun _ => rfl) ?_
                          refine pw_getM h9I E (c := 125) (k := 27) (pc' := 135) rfl rfl rfl rfl rfl rfl (fun hf75a hf75b => ?_)
                          refine pw_goto E (pc' := 142) rfl (by decide) ?_
                          refine pw_lst E (pc' := 144) (ls' := [some (.ref 141), some (pw_i b), some (pw_i e), some (pw_i k36_3), some (.long k36_4), none, some (.long k36_6), none, some (pw_i k36_8), some (pw_i (1 + 0)), some (.long (Int64.ofInt ((pw_g h9 134 (k36_8.toNat)) * (1 + 0)))), none, some (.long (Int64.ofInt (pw_gm h9 125 27))), none]) rfl rfl rfl rfl ?_
                          refine pw_ld E (pc' := 145) (st' := [pw_i k36_3]) rfl (fun _ => rfl) ?_
                          refine pw_if E (pc' := 162) rfl (by decide) (by omega) (by omega) ?_ ?_
                          · intro hc76
                            change k36_3 < (0 : Int) at hc76
                            refine pw_ld E (pc' := 164) (st' := [pw_i k36_8]) rfl (fun _ => rfl) ?_
                            refine pw_istn E (pc' := 165) (ls' := [some (.ref 141), some (pw_i b), some (pw_i e), some (pw_i k36_8), some (.long k36_4), none, some (.long k36_6), none, some (pw_i k36_8), some (pw_i (1 + 0)), some (.long (Int64.ofInt ((pw_g h9 134 (k36_8.toNat)) * (1 + 0)))), none, some (.long (Int64.ofInt (pw_gm h9 125 27))), none]) rfl rfl rfl rfl ?_
                            refine pw_ld E (pc' := 167) (st' := [.long (Int64.ofInt ((pw_g h9 134 (k36_8.toNat)) * (1 + 0)))]) rfl (fun _ => rfl) ?_
                            refine pw_lst E (pc' := 169) (ls' := [some (.ref 141), some (pw_i b), some (pw_i e), some (pw_i k36_8), some (.long (Int64.ofInt ((pw_g h9 134 (k36_8.toNat)) * (1 + 0)))), none, some (.long k36_6), none, some (pw_i k36_8), some (pw_i (1 + 0)), some (.long (Int64.ofInt ((pw_g h9 134 (k36_8.toNat)) * (1 + 0)))), none, some (.long (Int64.ofInt (pw_gm h9 125 27))), none]) rfl rfl rfl rfl ?_
                            refine pw_ld E (pc' := 171) (st' := [.long (Int64.ofInt (pw_gm h9 125 27))]) rfl (fun _ => rfl) ?_
                            refine pw_lst E (pc' := 173) (ls' := [some (.ref 141), some (pw_i b), some (pw_i e), some (pw_i k36_8), some (.long (Int64.ofInt ((pw_g h9 134 (k36_8.toNat)) * (1 + 0)))), none, some (.long (Int64.ofInt (pw_gm h9 125 27))), none, some (pw_i k36_8), some (pw_i (1 + 0)), some (.long (Int64.ofInt ((pw_g h9 134 (k36_8.toNat)) * (1 + 0)))), none, some (.long (Int64.ofInt (pw_gm h9 125 27))), none]) rfl rfl rfl rfl ?_
                            refine pw_inc E (pc' := 176) (ls' := [some (.ref 141), some (pw_i b), some (pw_i e), some (pw_i k36_8), some (.long (Int64.ofInt ((pw_g h9 134 (k36_8.toNat)) * (1 + 0)))), none, some (.long (Int64.ofInt (pw_gm h9 125 27))), none, some (pw_i (k36_8 + 1)), some (pw_i (1 + 0)), some (.long (Int64.ofInt ((pw_g h9 134 (k36_8.toNat)) * (1 + 0)))), none, some (.long (Int64.ofInt (pw_gm h9 125 27))), none]) rfl rfl rfl rfl ?_
                            refine pw_goto E (pc' := 36) rfl (by decide) ?_
                            exact ih36 _ (by omega) (k36_8) (Int64.ofInt ((pw_g h9 134 (k36_8.toNat)) * (1 + 0))) (Int64.ofInt (pw_gm h9 125 27)) (k36_8 + 1) (some (pw_i (1 + 0))) (some (.long (Int64.ofInt ((pw_g h9 134 (k36_8.toNat)) * (1 + 0))))) (some (.long (Int64.ofInt (pw_gm h9 125 27))))  (by omega) (by omega) (by omega) (by omega)  rfl
                          · intro hc77
                            change ¬ (k36_3 < (0 : Int)) at hc77
                            refine pw_ld E (pc' := 150) (st' := [.long (Int64.ofInt ((pw_g h9 134 (k36_8.toNat)) * (1 + 0)))]) rfl (fun _ => rfl) ?_
                            refine pw_ld E (pc' := 152) (st' := [.long k36_6, .long (Int64.ofInt ((pw_g h9 134 (k36_8.toNat)) * (1 + 0)))]) rfl (fun _ => rfl) ?_
                            refine pw_ld E (pc' := 153) (st' := [.long ((Int64.ofInt ((pw_g h9 134 (k36_8.toNat)) * (1 + 0))) * k36_6)]) rfl (fun _ => rfl) ?_
                            refine pw_ld E (pc' := 155) (st' := [.long k36_4, .long ((Int64.ofInt ((pw_g h9 134 (k36_8.toNat)) * (1 + 0))) * k36_6)]) rfl (fun _ => rfl) ?_
                            refine pw_ld E (pc' := 157) (st' := [.long (Int64.ofInt (pw_gm h9 125 27)), .long k36_4, .long ((Int64.ofInt ((pw_g h9 134 (k36_8.toNat)) * (1 + 0))) * k36_6)]) rfl (fun _ => rfl) ?_
                            refine pw_ld E (pc' := 158) (st' := [.long (k36_4 * (Int64.ofInt (pw_gm h9 125 27))), .long ((Int64.ofInt ((pw_g h9 134 (k36_8.toNat)) * (1 + 0))) * k36_6)]) rfl (fun _ => rfl) ?_
                            refine pw_lcmp E (pc' := 159) rfl rfl (fun c78 hc78 => ?_)
                            refine pw_if E (pc' := 173) rfl (by decide) (by omega) (by omega) ?_ ?_
                            · intro hc79
                              change c78 ≤ (0 : Int) at hc79
                              refine pw_inc E (pc' := 176) (ls' := [some (.ref 141), some (pw_i b), some (pw_i e), some (pw_i k36_3), some (.long k36_4), none, some (.long k36_6), none, some (pw_i (k36_8 + 1)), some (pw_i (1 + 0)), some (.long (Int64.ofInt ((pw_g h9 134 (k36_8.toNat)) * (1 + 0)))), none, some (.long (Int64.ofInt (pw_gm h9 125 27))), none]) rfl rfl rfl rfl ?_
                              refine pw_goto E (pc' := 36) rfl (by decide) ?_
                              exact ih36 _ (by omega) (k36_3) (k36_4) (k36_6) (k36_8 + 1) (some (pw_i (1 + 0))) (some (.long (Int64.ofInt ((pw_g h9 134 (k36_8.toNat)) * (1 + 0))))) (some (.long (Int64.ofInt (pw_gm h9 125 27))))  (by omega) (by omega) (by omega) (by omega)  rfl
                            · intro hc80
                              change ¬ (c78 ≤ (0 : Int)) at hc80
                              refine pw_ld E (pc' := 164) (st' := [pw_i k36_8]) rfl (fun _ => rfl) ?_
                              refine pw_istn E (pc' := 165) (ls' := [some (.ref 141), some (pw_i b), some (pw_i e), some (pw_i k36_8), some (.long k36_4), none, some (.long k36_6), none, some (pw_i k36_8), some (pw_i (1 + 0)), some (.long (Int64.ofInt ((pw_g h9 134 (k36_8.toNat)) * (1 + 0)))), none, some (.long (Int64.ofInt (pw_gm h9 125 27))), none]) rfl rfl rfl rfl ?_
                              refine pw_ld E (pc' := 167) (st' := [.long (Int64.ofInt ((pw_g h9 134 (k36_8.toNat)) * (1 + 0)))]) rfl (fun _ => rfl) ?_
                              refine pw_lst E (pc' := 169) (ls' := [some (.ref 141), some (pw_i b), some (pw_i e), some (pw_i k36_8), some (.long (Int64.ofInt ((pw_g h9 134 (k36_8.toNat)) * (1 + 0)))), none, some (.long k36_6), none, some (pw_i k36_8), some (pw_i (1 + 0)), some (.long (Int64.ofInt ((pw_g h9 134 (k36_8.toNat)) * (1 + 0)))), none, some (.long (Int64.ofInt (pw_gm h9 125 27))), none]) rfl rfl rfl rfl ?_
                              refine pw_ld E (pc' := 171) (st' := [.long (Int64.ofInt (pw_gm h9 125 27))]) rfl (fun _ => rfl) ?_
                              refine pw_lst E (pc' := 173) (ls' := [some (.ref 141), some (pw_i b), some (pw_i e), some (pw_i k36_8), some (.long (Int64.ofInt ((pw_g h9 134 (k36_8.toNat)) * (1 + 0)))), none, some (.long (Int64.ofInt (pw_gm h9 125 27))), none, some (pw_i k36_8), some (pw_i (1 + 0)), some (.long (Int64.ofInt ((pw_g h9 134 (k36_8.toNat)) * (1 + 0)))), none, some (.long (Int64.ofInt (pw_gm h9 125 27))), none]) rfl rfl rfl rfl ?_
                              refine pw_inc E (pc' := 176) (ls' := [some (.ref 141), some (pw_i b), some (pw_i e), some (pw_i k36_8), some (.long (Int64.ofInt ((pw_g h9 134 (k36_8.toNat)) * (1 + 0)))), none, some (.long (Int64.ofInt (pw_gm h9 125 27))), none, some (pw_i (k36_8 + 1)), some (pw_i (1 + 0)), some (.long (Int64.ofInt ((pw_g h9 134 (k36_8.toNat)) * (1 + 0)))), none, some (.long (Int64.ofInt (pw_gm h9 125 27))), none]) rfl rfl rfl rfl ?_
                              refine pw_goto E (pc' := 36) rfl (by decide) ?_
                              exact ih36 _ (by omega) (k36_8) (Int64.ofInt ((pw_g h9 134 (k36_8.toNat)) * (1 + 0))) (Int64.ofInt (pw_gm h9 125 27)) (k36_8 + 1) (some (pw_i (1 + 0))) (some (.long (Int64.ofInt ((pw_g h9 134 (k36_8.toNat)) * (1 + 0))))) (some (.long (Int64.ofInt (pw_gm h9 125 27))))  (by omega) (by omega) (by omega) (by omega)  rfl
                      · intro hc81
                        change ¬ (pw_g h9 138 (((12 * k36_8) + e).toNat) ≠ (0 : Int)) at hc81
                        refine pw_ld E (pc' := 100) (st' := [pw_i 1, pw_i 1]) rfl (fun _ => rfl) ?_
                        refine pw_goto E (pc' := 104) rfl (by decide) ?_
                        refine pw_add E (pc' := 105) rfl rfl ?_
                        refine pw_ist E (pc' := 107) (ls' := [some (.ref 141), some (pw_i b), some (pw_i e), some (pw_i k36_3), some (.long k36_4), none, some (.long k36_6), none, some (pw_i k36_8), some (pw_i (1 + 1)), k36_10, none, k36_12, none]) rfl rfl rfl rfl ?_
                        refine pw_ld E (pc' := 108) (st' := [.ref 141]) rfl (fun _ => rfl) ?_
                        refine pw_getR (b := 150) h9I E (c := 125) (k := 13) (pc' := 111) rfl rfl rfl rfl rfl rfl rfl ?_
                        refine pw_ld E (pc' := 113) (st' := [pw_i k36_8, .ref 150]) rfl (fun _ => rfl) ?_
                        refine pw_ald2 h9I E (c := 134) (pc' := 114) rfl rfl rfl (by decide) rfl (by decide) (by omega) (by omega) rfl (fun hf82a hf82b => ?_)
                        refine pw_i2l E (pc' := 115) rfl rfl (by omega) (by omega) ?_
                        refine pw_ld E (pc' := 117) (st' := [pw_i (1 + 1), .long (Int64.ofInt (pw_g h9 134 (k36_8.toNat)))]) rfl (fun _ => rfl) ?_
                        refine pw_i2l E (pc' := 118) rfl rfl (by decide) (by decide) ?_
                        refine pw_lmul E (pc' := 119) rfl rfl ?_
                        refine pw_lst E (pc' := 121) (ls' := [some (.ref 141), some (pw_i b), some (pw_i e), some (pw_i k36_3), some (.long k36_4), none, some (.long k36_6), none, some (pw_i k36_8), some (pw_i (1 + 1)), some (.long (Int64.ofInt ((pw_g h9 134 (k36_8.toNat)) * (1 + 1)))), none, k36_12, none]) rfl rfl rfl rfl ?_
                        refine pw_ld E (pc' := 122) (st' := [.ref 141]) rfl (fun _ => rfl) ?_
                        refine pw_getR (b := 148) h9I E (c := 125) (k := 11) (pc' := 125) rfl rfl rfl rfl rfl rfl rfl ?_
                        refine pw_ld E (pc' := 127) (st' := [pw_i k36_8, .ref 148]) rfl (fun _ => rfl) ?_
                        refine pw_ald2 h9I E (c := 132) (pc' := 128) rfl rfl rfl (by decide) rfl (by decide) (by omega) (by omega) rfl (fun hf83a hf83b => ?_)
                        refine pw_if E (pc' := 138) rfl (by decide) (by omega) (by omega) ?_ ?_
                        · intro hc84
                          change pw_g h9 132 (k36_8.toNat) ≠ (0 : Int) at hc84
                          refine pw_ld E (pc' := 139) (st' := [.ref 141]) rfl (fun _ => rfl) ?_
                          refine pw_getM h9I E (c := 125) (k := 29) (pc' := 142) rfl rfl rfl rfl rfl rfl (fun hf85a hf85b => ?_)
                          refine pw_lst E (pc' := 144) (ls' := [some (.ref 141), some (pw_i b), some (pw_i e), some (pw_i k36_3), some (.long k36_4), none, some (.long k36_6), none, some (pw_i k36_8), some (pw_i (1 + 1)), some (.long (Int64.ofInt ((pw_g h9 134 (k36_8.toNat)) * (1 + 1)))), none, some (.long (Int64.ofInt (pw_gm h9 125 29))), none]) rfl rfl rfl rfl ?_
                          refine pw_ld E (pc' := 145) (st' := [pw_i k36_3]) rfl (fun _ => rfl) ?_
                          refine pw_if E (pc' := 162) rfl (by decide) (by omega) (by omega) ?_ ?_
                          · intro hc86
                            change k36_3 < (0 : Int) at hc86
                            refine pw_ld E (pc' := 164) (st' := [pw_i k36_8]) rfl (fun _ => rfl) ?_
                            refine pw_istn E (pc' := 165) (ls' := [some (.ref 141), some (pw_i b), some (pw_i e), some (pw_i k36_8), some (.long k36_4), none, some (.long k36_6), none, some (pw_i k36_8), some (pw_i (1 + 1)), some (.long (Int64.ofInt ((pw_g h9 134 (k36_8.toNat)) * (1 + 1)))), none, some (.long (Int64.ofInt (pw_gm h9 125 29))), none]) rfl rfl rfl rfl ?_
                            refine pw_ld E (pc' := 167) (st' := [.long (Int64.ofInt ((pw_g h9 134 (k36_8.toNat)) * (1 + 1)))]) rfl (fun _ => rfl) ?_
                            refine pw_lst E (pc' := 169) (ls' := [some (.ref 141), some (pw_i b), some (pw_i e), some (pw_i k36_8), some (.long (Int64.ofInt ((pw_g h9 134 (k36_8.toNat)) * (1 + 1)))), none, some (.long k36_6), none, some (pw_i k36_8), some (pw_i (1 + 1)), some (.long (Int64.ofInt ((pw_g h9 134 (k36_8.toNat)) * (1 + 1)))), none, some (.long (Int64.ofInt (pw_gm h9 125 29))), none]) rfl rfl rfl rfl ?_
                            refine pw_ld E (pc' := 171) (st' := [.long (Int64.ofInt (pw_gm h9 125 29))]) rfl (fun _ => rfl) ?_
                            refine pw_lst E (pc' := 173) (ls' := [some (.ref 141), some (pw_i b), some (pw_i e), some (pw_i k36_8), some (.long (Int64.ofInt ((pw_g h9 134 (k36_8.toNat)) * (1 + 1)))), none, some (.long (Int64.ofInt (pw_gm h9 125 29))), none, some (pw_i k36_8), some (pw_i (1 + 1)), some (.long (Int64.ofInt ((pw_g h9 134 (k36_8.toNat)) * (1 + 1)))), none, some (.long (Int64.ofInt (pw_gm h9 125 29))), none]) rfl rfl rfl rfl ?_
                            refine pw_inc E (pc' := 176) (ls' := [some (.ref 141), some (pw_i b), some (pw_i e), some (pw_i k36_8), some (.long (Int64.ofInt ((pw_g h9 134 (k36_8.toNat)) * (1 + 1)))), none, some (.long (Int64.ofInt (pw_gm h9 125 29))), none, some (pw_i (k36_8 + 1)), some (pw_i (1 + 1)), some (.long (Int64.ofInt ((pw_g h9 134 (k36_8.toNat)) * (1 + 1)))), none, some (.long (Int64.ofInt (pw_gm h9 125 29))), none]) rfl rfl rfl rfl ?_
                            refine pw_goto E (pc' := 36) rfl (by decide) ?_
                            exact ih36 _ (by omega) (k36_8) (Int64.ofInt ((pw_g h9 134 (k36_8.toNat)) * (1 + 1))) (Int64.ofInt (pw_gm h9 125 29)) (k36_8 + 1) (some (pw_i (1 + 1))) (some (.long (Int64.ofInt ((pw_g h9 134 (k36_8.toNat)) * (1 + 1))))) (some (.long (Int64.ofInt (pw_gm h9 125 29))))  (by omega) (by omega) (by omega) (by omega)  rfl
                          · intro hc87
                            change ¬ (k36_3 < (0 : Int)) at hc87
                            refine pw_ld E (pc' := 150) (st' := [.long (Int64.ofInt ((pw_g h9 134 (k36_8.toNat)) * (1 + 1)))]) rfl (fun _ => rfl) ?_
                            refine pw_ld E (pc' := 152) (st' := [.long k36_6, .long (Int64.ofInt ((pw_g h9 134 (k36_8.toNat)) * (1 + 1)))]) rfl (fun _ => rfl) ?_
                            refine pw_ld E (pc' := 153) (st' := [.long ((Int64.ofInt ((pw_g h9 134 (k36_8.toNat)) * (1 + 1))) * k36_6)]) rfl (fun _ => rfl) ?_
                            refine pw_ld E (pc' := 155) (st' := [.long k36_4, .long ((Int64.ofInt ((pw_g h9 134 (k36_8.toNat)) * (1 + 1))) * k36_6)]) rfl (fun _ => rfl) ?_
                            refine pw_ld E (pc' := 157) (st' := [.long (Int64.ofInt (pw_gm h9 125 29)), .long k36_4, .long ((Int64.ofInt ((pw_g h9 134 (k36_8.toNat)) * (1 + 1))) * k36_6)]) rfl (fun _ => rfl) ?_
                            refine pw_ld E (pc' := 158) (st' := [.long (k36_4 * (Int64.ofInt (pw_gm h9 125 29))), .long ((Int64.ofInt ((pw_g h9 134 (k36_8.toNat)) * (1 + 1))) * k36_6)]) rfl (fun _ => rfl) ?_
                            refine pw_lcmp E (pc' := 159) rfl rfl (fun c88 hc88 => ?_)
                            refine pw_if E (pc' := 173) rfl (by decide) (by omega) (by omega) ?_ ?_
                            · intro hc89
                              change c88 ≤ (0 : Int) at hc89
                              refine pw_inc E (pc' := 176) (ls' := [some (.ref 141), some (pw_i b), some (pw_i e), some (pw_i k36_3), some (.long k36_4), none, some (.long k36_6), none, some (pw_i (k36_8 + 1)), some (pw_i (1 + 1)), some (.long (Int64.ofInt ((pw_g h9 134 (k36_8.toNat)) * (1 + 1)))), none, some (.long (Int64.ofInt (pw_gm h9 125 29))), none]) rfl rfl rfl rfl ?_
                              refine pw_goto E (pc' := 36) rfl (by decide) ?_
                              exact ih36 _ (by omega) (k36_3) (k36_4) (k36_6) (k36_8 + 1) (some (pw_i (1 + 1))) (some (.long (Int64.ofInt ((pw_g h9 134 (k36_8.toNat)) * (1 + 1))))) (some (.long (Int64.ofInt (pw_gm h9 125 29))))  (by omega) (by omega) (by omega) (by omega)  rfl
                            · intro hc90
                              change ¬ (c88 ≤ (0 : Int)) at hc90
                              refine pw_ld E (pc' := 164) (st' := [pw_i k36_8]) rfl (fun _ => rfl) ?_
                              refine pw_istn E (pc' := 165) (ls' := [some (.ref 141), some (pw_i b), some (pw_i e), some (pw_i k36_8), some (.long k36_4), none, some (.long k36_6), none, some (pw_i k36_8), some (pw_i (1 + 1)), some (.long (Int64.ofInt ((pw_g h9 134 (k36_8.toNat)) * (1 + 1)))), none, some (.long (Int64.ofInt (pw_gm h9 125 29))), none]) rfl rfl rfl rfl ?_
                              refine pw_ld E (pc' := 167) (st' := [.long (Int64.ofInt ((pw_g h9 134 (k36_8.toNat)) * (1 + 1)))]) rfl (fun _ => rfl) ?_
                              refine pw_lst E (pc' := 169) (ls' := [some (.ref 141), some (pw_i b), some (pw_i e), some (pw_i k36_8), some (.long (Int64.ofInt ((pw_g h9 134 (k36_8.toNat)) * (1 + 1)))), none, some (.long k36_6), none, some (pw_i k36_8), some (pw_i (1 + 1)), some (.long (Int64.ofInt ((pw_g h9 134 (k36_8.toNat)) * (1 + 1)))), none, some (.long (Int64.ofInt (pw_gm h9 125 29))), none]) rfl rfl rfl rfl ?_
                              refine pw_ld E (pc' := 171) (st' := [.long (Int64.ofInt (pw_gm h9 125 29))]) rfl (fun _ => rfl) ?_
                              refine pw_lst E (pc' := 173) (ls' := [some (.ref 141), some (pw_i b), some (pw_i e), some (pw_i k36_8), some (.long (Int64.ofInt ((pw_g h9 134 (k36_8.toNat)) * (1 + 1)))), none, some (.long (Int64.ofInt (pw_gm h9 125 29))), none, some (pw_i k36_8), some (pw_i (1 + 1)), some (.long (Int64.ofInt ((pw_g h9 134 (k36_8.toNat)) * (1 + 1)))), none, some (.long (Int64.ofInt (pw_gm h9 125 29))), none]) rfl rfl rfl rfl ?_
                              refine pw_inc E (pc' := 176) (ls' := [some (.ref 141), some (pw_i b), some (pw_i e), some (pw_i k36_8), some (.long (Int64.ofInt ((pw_g h9 134 (k36_8.toNat)) * (1 + 1)))), none, some (.long (Int64.ofInt (pw_gm h9 125 29))), none, some (pw_i (k36_8 + 1)), some (pw_i (1 + 1)), some (.long (Int64.ofInt ((pw_g h9 134 (k36_8.toNat)) * (1 + 1)))), none, some (.long (Int64.ofInt (pw_gm h9 125 29))), none]) rfl rfl rfl rfl ?_
                              refine pw_goto E (pc' := 36) rfl (by decide) ?_
                              exact ih36 _ (by omega) (k36_8) (Int64.ofInt ((pw_g h9 134 (k36_8.toNat)) * (1 + 1))) (Int64.ofInt (pw_gm h9 125 29)) (k36_8 + 1) (some (pw_i (1 + 1))) (some (.long (Int64.ofInt ((pw_g h9 134 (k36_8.toNat)) * (1 + 1))))) (some (.long (Int64.ofInt (pw_gm h9 125 29))))  (by omega) (by omega) (by omega) (by omega)  rfl
                        · intro hc91
                          change ¬ (pw_g h9 132 (k36_8.toNat) ≠ (0 : Int)) at hc91
                          refine pw_ld E (pc' := 132) (st' := [.ref 141]) rfl (fun _ => rfl) ?_
                          refine pw_getM h9I E (c := 125) (k := 27) (pc' := 135) rfl rfl rfl rfl rfl rfl (fun hf92a hf92b => ?_)
                          refine pw_goto E (pc' := 142) rfl (by decide) ?_
                          refine pw_lst E (pc' := 144) (ls' := [some (.ref 141), some (pw_i b), some (pw_i e), some (pw_i k36_3), some (.long k36_4), none, some (.long k36_6), none, some (pw_i k36_8), some (pw_i (1 + 1)), some (.long (Int64.ofInt ((pw_g h9 134 (k36_8.toNat)) * (1 + 1)))), none, some (.long (Int64.ofInt (pw_gm h9 125 27))), none]) rfl rfl rfl rfl ?_
                          refine pw_ld E (pc' := 145) (st' := [pw_i k36_3]) rfl (fun _ => rfl) ?_
                          refine pw_if E (pc' := 162) rfl (by decide) (by omega) (by omega) ?_ ?_
                          · intro hc93
                            change k36_3 < (0 : Int) at hc93
                            refine pw_ld E (pc' := 164) (st' := [pw_i k36_8]) rfl (fun _ => rfl) ?_
                            refine pw_istn E (pc' := 165) (ls' := [some (.ref 141), some (pw_i b), some (pw_i e), some (pw_i k36_8), some (.long k36_4), none, some (.long k36_6), none, some (pw_i k36_8), some (pw_i (1 + 1)), some (.long (Int64.ofInt ((pw_g h9 134 (k36_8.toNat)) * (1 + 1)))), none, some (.long (Int64.ofInt (pw_gm h9 125 27))), none]) rfl rfl rfl rfl ?_
                            refine pw_ld E (pc' := 167) (st' := [.long (Int64.ofInt ((pw_g h9 134 (k36_8.toNat)) * (1 + 1)))]) rfl (fun _ => rfl) ?_
                            refine pw_lst E (pc' := 169) (ls' := [some (.ref 141), some (pw_i b), some (pw_i e), some (pw_i k36_8), some (.long (Int64.ofInt ((pw_g h9 134 (k36_8.toNat)) * (1 + 1)))), none, some (.long k36_6), none, some (pw_i k36_8), some (pw_i (1 + 1)), some (.long (Int64.ofInt ((pw_g h9 134 (k36_8.toNat)) * (1 + 1)))), none, some (.long (Int64.ofInt (pw_gm h9 125 27))), none]) rfl rfl rfl rfl ?_
                            refine pw_ld E (pc' := 171) (st' := [.long (Int64.ofInt (pw_gm h9 125 27))]) rfl (fun _ => rfl) ?_
                            refine pw_lst E (pc' := 173) (ls' := [some (.ref 141), some (pw_i b), some (pw_i e), some (pw_i k36_8), some (.long (Int64.ofInt ((pw_g h9 134 (k36_8.toNat)) * (1 + 1)))), none, some (.long (Int64.ofInt (pw_gm h9 125 27))), none, some (pw_i k36_8), some (pw_i (1 + 1)), some (.long (Int64.ofInt ((pw_g h9 134 (k36_8.toNat)) * (1 + 1)))), none, some (.long (Int64.ofInt (pw_gm h9 125 27))), none]) rfl rfl rfl rfl ?_
                            refine pw_inc E (pc' := 176) (ls' := [some (.ref 141), some (pw_i b), some (pw_i e), some (pw_i k36_8), some (.long (Int64.ofInt ((pw_g h9 134 (k36_8.toNat)) * (1 + 1)))), none, some (.long (Int64.ofInt (pw_gm h9 125 27))), none, some (pw_i (k36_8 + 1)), some (pw_i (1 + 1)), some (.long (Int64.ofInt ((pw_g h9 134 (k36_8.toNat)) * (1 + 1)))), none, some (.long (Int64.ofInt (pw_gm h9 125 27))), none]) rfl rfl rfl rfl ?_
                            refine pw_goto E (pc' := 36) rfl (by decide) ?_
                            exact ih36 _ (by omega) (k36_8) (Int64.ofInt ((pw_g h9 134 (k36_8.toNat)) * (1 + 1))) (Int64.ofInt (pw_gm h9 125 27)) (k36_8 + 1) (some (pw_i (1 + 1))) (some (.long (Int64.ofInt ((pw_g h9 134 (k36_8.toNat)) * (1 + 1))))) (some (.long (Int64.ofInt (pw_gm h9 125 27))))  (by omega) (by omega) (by omega) (by omega)  rfl
                          · intro hc94
                            change ¬ (k36_3 < (0 : Int)) at hc94
                            refine pw_ld E (pc' := 150) (st' := [.long (Int64.ofInt ((pw_g h9 134 (k36_8.toNat)) * (1 + 1)))]) rfl (fun _ => rfl) ?_
                            refine pw_ld E (pc' := 152) (st' := [.long k36_6, .long (Int64.ofInt ((pw_g h9 134 (k36_8.toNat)) * (1 + 1)))]) rfl (fun _ => rfl) ?_
                            refine pw_ld E (pc' := 153) (st' := [.long ((Int64.ofInt ((pw_g h9 134 (k36_8.toNat)) * (1 + 1))) * k36_6)]) rfl (fun _ => rfl) ?_
                            refine pw_ld E (pc' := 155) (st' := [.long k36_4, .long ((Int64.ofInt ((pw_g h9 134 (k36_8.toNat)) * (1 + 1))) * k36_6)]) rfl (fun _ => rfl) ?_
                            refine pw_ld E (pc' := 157) (st' := [.long (Int64.ofInt (pw_gm h9 125 27)), .long k36_4, .long ((Int64.ofInt ((pw_g h9 134 (k36_8.toNat)) * (1 + 1))) * k36_6)]) rfl (fun _ => rfl) ?_
                            refine pw_ld E (pc' := 158) (st' := [.long (k36_4 * (Int64.ofInt (pw_gm h9 125 27))), .long ((Int64.ofInt ((pw_g h9 134 (k36_8.toNat)) * (1 + 1))) * k36_6)]) rfl (fun _ => rfl) ?_
                            refine pw_lcmp E (pc' := 159) rfl rfl (fun c95 hc95 => ?_)
                            refine pw_if E (pc' := 173) rfl (by decide) (by omega) (by omega) ?_ ?_
                            · intro hc96
                              change c95 ≤ (0 : Int) at hc96
                              refine pw_inc E (pc' := 176) (ls' := [some (.ref 141), some (pw_i b), some (pw_i e), some (pw_i k36_3), some (.long k36_4), none, some (.long k36_6), none, some (pw_i (k36_8 + 1)), some (pw_i (1 + 1)), some (.long (Int64.ofInt ((pw_g h9 134 (k36_8.toNat)) * (1 + 1)))), none, some (.long (Int64.ofInt (pw_gm h9 125 27))), none]) rfl rfl rfl rfl ?_
                              refine pw_goto E (pc' := 36) rfl (by decide) ?_
                              exact ih36 _ (by omega) (k36_3) (k36_4) (k36_6) (k36_8 + 1) (some (pw_i (1 + 1))) (some (.long (Int64.ofInt ((pw_g h9 134 (k36_8.toNat)) * (1 + 1))))) (some (.long (Int64.ofInt (pw_gm h9 125 27))))  (by omega) (by omega) (by omega) (by omega)  rfl
                            · intro hc97
                              change ¬ (c95 ≤ (0 : Int)) at hc97
                              refine pw_ld E (pc' := 164) (st' := [pw_i k36_8]) rfl (fun _ => rfl) ?_
                              refine pw_istn E (pc' := 165) (ls' := [some (.ref 141), some (pw_i b), some (pw_i e), some (pw_i k36_8), some (.long k36_4), none, some (.long k36_6), none, some (pw_i k36_8), some (pw_i (1 + 1)), some (.long (Int64.ofInt ((pw_g h9 134 (k36_8.toNat)) * (1 + 1)))), none, some (.long (Int64.ofInt (pw_gm h9 125 27))), none]) rfl rfl rfl rfl ?_
                              refine pw_ld E (pc' := 167) (st' := [.long (Int64.ofInt ((pw_g h9 134 (k36_8.toNat)) * (1 + 1)))]) rfl (fun _ => rfl) ?_
                              refine pw_lst E (pc' := 169) (ls' := [some (.ref 141), some (pw_i b), some (pw_i e), some (pw_i k36_8), some (.long (Int64.ofInt ((pw_g h9 134 (k36_8.toNat)) * (1 + 1)))), none, some (.long k36_6), none, some (pw_i k36_8), some (pw_i (1 + 1)), some (.long (Int64.ofInt ((pw_g h9 134 (k36_8.toNat)) * (1 + 1)))), none, some (.long (Int64.ofInt (pw_gm h9 125 27))), none]) rfl rfl rfl rfl ?_
                              refine pw_ld E (pc' := 171) (st' := [.long (Int64.ofInt (pw_gm h9 125 27))]) rfl (fun _ => rfl) ?_
                              refine pw_lst E (pc' := 173) (ls' := [some (.ref 141), some (pw_i b), some (pw_i e), some (pw_i k36_8), some (.long (Int64.ofInt ((pw_g h9 134 (k36_8.toNat)) * (1 + 1)))), none, some (.long (Int64.ofInt (pw_gm h9 125 27))), none, some (pw_i k36_8), some (pw_i (1 + 1)), some (.long (Int64.ofInt ((pw_g h9 134 (k36_8.toNat)) * (1 + 1)))), none, some (.long (Int64.ofInt (pw_gm h9 125 27))), none]) rfl rfl rfl rfl ?_
                              refine pw_inc E (pc' := 176) (ls' := [some (.ref 141), some (pw_i b), some (pw_i e), some (pw_i k36_8), some (.long (Int64.ofInt ((pw_g h9 134 (k36_8.toNat)) * (1 + 1)))), none, some (.long (Int64.ofInt (pw_gm h9 125 27))), none, some (pw_i (k36_8 + 1)), some (pw_i (1 + 1)), some (.long (Int64.ofInt ((pw_g h9 134 (k36_8.toNat)) * (1 + 1)))), none, some (.long (Int64.ofInt (pw_gm h9 125 27))), none]) rfl rfl rfl rfl ?_
                              refine pw_goto E (pc' := 36) rfl (by decide) ?_
                              exact ih36 _ (by omega) (k36_8) (Int64.ofInt ((pw_g h9 134 (k36_8.toNat)) * (1 + 1))) (Int64.ofInt (pw_gm h9 125 27)) (k36_8 + 1) (some (pw_i (1 + 1))) (some (.long (Int64.ofInt ((pw_g h9 134 (k36_8.toNat)) * (1 + 1))))) (some (.long (Int64.ofInt (pw_gm h9 125 27))))  (by omega) (by omega) (by omega) (by omega)  rfl
          exact L36 _ ((-1)) (Int64.ofInt 0) (Int64.ofInt 1) (0) (none) (none) (none)  (by omega) (by omega) (by omega) (by omega)  rfl
        · intro hc98
          change ¬ (x11 ≠ (0 : Int)) at hc98
          exfalso; omega
      · skip
        refine pw_if E (pc' := 25) rfl (by decide) (by omega) (by omega) ?_ ?_
        · intro hc100
          change x11 ≠ (0 : Int) at hc100
          exfalso; omega
        · intro hc101
          change ¬ (x11 ≠ (0 : Int)) at hc101
          refine pw_ld E (pc' := 24) (st' := [pw_i ((-1))]) rfl (fun _ => rfl) ?_
          refine pw_iret E rfl ?_
          exact ⟨h9I, h9F, ⟨_, rfl, by omega, by omega⟩⟩
  · skip
    refine pw_if E (pc' := 23) rfl (by decide) (by omega) (by omega) ?_ ?_
    · intro hc103
      change x4 = (0 : Int) at hc103
      refine pw_ld E (pc' := 24) (st' := [pw_i ((-1))]) rfl (fun _ => rfl) ?_
      refine pw_iret E rfl ?_
      exact ⟨h1I, h1F, ⟨_, rfl, by omega, by omega⟩⟩
    · intro hc104
      change ¬ (x4 = (0 : Int)) at hc104
      exfalso; omega
