/-! contracts (printed by wip/tool/pwspec.py) -/
set_option maxHeartbeats 4000000 in
theorem cm_147 {X : List (Nat × List Value)} {d : Nat} {h : pm_H} (hd : 3 ≤ d) (I : pw_I h) (k : Int) (hk1 : 0 ≤ k) (hk2 : k ≤ 23) : pw X d h 147 0 [some (.ref 16), some (pw_i k), none, none, none, none] [] (fun h' v => h = h' ∧ ∃ w : Int64, v = .inl (some (.long w))) := by
  have E : pm_ent 147 = some (2, 6, 11, 2, pmc_147) := rfl
  refine pw_ld E (pc' := 1) (st' := [.long (Int64.ofNat 0)]) rfl (fun _ => rfl) ?_
  refine pw_lstn E (pc' := 2) (ls' := [some (.ref 16), some (pw_i k), some (.long (Int64.ofNat 0)), none, none, none]) rfl rfl rfl rfl ?_
  refine pw_ld E (pc' := 3) (st' := [pw_i 1]) rfl (fun _ => rfl) ?_
  refine pw_ist E (pc' := 5) (ls' := [some (.ref 16), some (pw_i k), some (.long (Int64.ofNat 0)), none, some (pw_i 1), none]) rfl rfl rfl rfl ?_
  have L5 : ∀ (n5 : Nat) (k5_2 : Int64) (k5_4 : Int) (k5_5 : Option Value), 1 ≤ k5_4 → k5_4 ≤ 12 → (12 - k5_4).toNat = n5 → pw X d h 147 5 [some (.ref 16), some (pw_i k), some (.long k5_2), none, some (pw_i k5_4), k5_5] [] (fun h' v => h = h' ∧ ∃ w : Int64, v = .inl (some (.long w))) := by
    intro n5
    induction n5 using Nat.strongRecOn with
    | ind n5 ih5 =>
      intro k5_2 k5_4 k5_5 k5_4a k5_4b hm5
      refine pw_ld E (pc' := 7) (st' := [pw_i k5_4]) rfl (fun _ => rfl) ?_
      refine pw_bip E (pc' := 9) rfl rfl (by decide) ?_
      refine pw_if2 E (pc' := 74) rfl (by decide) (by omega) (by omega) (by decide) (by decide) ?_ ?_
      · intro hc1
        change (12 : Int) ≤ k5_4 at hc1
        refine pw_ld E (pc' := 75) (st' := [.long k5_2]) rfl (fun _ => rfl) ?_
        refine pw_lret E rfl ?_
        exact ⟨rfl, ⟨_, rfl⟩⟩
      · intro hc2
        change ¬ ((12 : Int) ≤ k5_4) at hc2
        refine pw_ld E (pc' := 13) (st' := [.ref 16]) rfl (fun _ => rfl) ?_
        refine pw_getR (b := 26) I E (c := 0) (k := 2) (pc' := 16) rfl rfl rfl rfl rfl rfl rfl ?_
        refine pw_ld E (pc' := 17) (st' := [pw_i k, .ref 26]) rfl (fun _ => rfl) ?_
        refine pw_ld E (pc' := 19) (st' := [pw_i k5_4, pw_i k, .ref 26]) rfl (fun _ => rfl) ?_
        obtain ⟨f3l, f3h, -⟩ := pw_obj (c := 10) I rfl
        refine pw_call (m' := 19) (As := [.ref 26, pw_i k, pw_i k5_4]) (rest := []) (ls'' := [some (.ref 26), some (pw_i k), some (pw_i k5_4)]) (Nat.le_trans (by decide) hd) E rfl (fun _ => pw_iV rfl rfl rfl rfl (pw_cellI f3h rfl)) (rfl : pm_ent 19 = some (3, 3, 2, 1, pmc_19)) rfl rfl (cm_19 (pw_dp hd (by decide)) I 10 (by unfold pw_Lg; omega) (k) (by omega) (by omega) (k5_4) (by omega) (by omega)) ?_
        rintro u5 v4 ⟨rfl, x6, rfl, hx6a, hx6b⟩
        refine ⟨_, rfl, ?_⟩
        show pw X d h 147 22 [some (.ref 16), some (pw_i k), some (.long k5_2), none, some (pw_i k5_4), k5_5] [pw_i x6] _
        refine pw_if E (pc' := 68) rfl (by decide) (by omega) (by omega) ?_ ?_
        · intro hc7
          change x6 ≠ (0 : Int) at hc7
          refine pw_inc E (pc' := 71) (ls' := [some (.ref 16), some (pw_i k), some (.long k5_2), none, some (pw_i (k5_4 + 1)), k5_5]) rfl rfl rfl rfl ?_
          refine pw_goto E (pc' := 5) rfl (by decide) ?_
          exact ih5 _ (by omega) (k5_2) (k5_4 + 1) k5_5  (by omega) (by omega)  rfl
        · intro hc8
          change ¬ (x6 ≠ (0 : Int)) at hc8
          refine pw_ld E (pc' := 26) (st' := [.ref 16]) rfl (fun _ => rfl) ?_
          refine pw_getR (b := 26) I E (c := 0) (k := 2) (pc' := 29) rfl rfl rfl rfl rfl rfl rfl ?_
          refine pw_ld E (pc' := 30) (st' := [pw_i k, .ref 26]) rfl (fun _ => rfl) ?_
          refine pw_ld E (pc' := 32) (st' := [pw_i k5_4, pw_i k, .ref 26]) rfl (fun _ => rfl) ?_
          refine pw_ld E (pc' := 33) (st' := [.ref 16, pw_i k5_4, pw_i k, .ref 26]) rfl (fun _ => rfl) ?_
          refine pw_getI2 I E (c := 0) (k := 6) (pc' := 36) rfl rfl rfl rfl rfl rfl (fun hf9a hf9b => ?_)
          obtain ⟨f10l, f10h, -⟩ := pw_obj (c := 10) I rfl
          refine pw_call (m' := 20) (As := [.ref 26, pw_i k, pw_i k5_4, pw_i (pw_g h 0 6)]) (rest := []) (ls'' := [some (.ref 26), some (pw_i k), some (pw_i k5_4), some (pw_i (pw_g h 0 6))]) (Nat.le_trans (by decide) hd) E rfl (fun _ => pw_iV rfl rfl rfl rfl (pw_cellI f10h rfl)) (rfl : pm_ent 20 = some (4, 4, 2, 0, pmc_20)) rfl rfl (cm_20 (pw_dp hd (by decide)) I 10 (by unfold pw_Lg; omega) (k) (by omega) (by omega) (k5_4) (by omega) (by omega) (pw_g h 0 6) (by omega) (by omega)) ?_
          rintro u12 v11 ⟨rfl, x13, rfl, hx13a, hx13b⟩
          refine ⟨_, rfl, ?_⟩
          show pw X d h 147 39 [some (.ref 16), some (pw_i k), some (.long k5_2), none, some (pw_i k5_4), k5_5] [pw_i x13] _
          refine pw_ist E (pc' := 41) (ls' := [some (.ref 16), some (pw_i k), some (.long k5_2), none, some (pw_i k5_4), some (pw_i x13)]) rfl rfl rfl rfl ?_
          refine pw_ld E (pc' := 42) (st' := [.long k5_2]) rfl (fun _ => rfl) ?_
          refine pw_ld E (pc' := 43) (st' := [.ref 16, .long k5_2]) rfl (fun _ => rfl) ?_
          refine pw_getR (b := 112) I E (c := 0) (k := 17) (pc' := 46) rfl rfl rfl rfl rfl rfl rfl ?_
          obtain ⟨f14l, f14h, -⟩ := pw_obj (c := 96) I rfl
          refine pw_call (m' := 117) (As := [.ref 112]) (rest := [.long k5_2]) (ls'' := [some (.ref 112)]) (Nat.le_trans (by decide) hd) E rfl (fun _ => pw_iV rfl rfl rfl rfl (pw_cellI f14h rfl)) (rfl : pm_ent 117 = some (1, 1, 10, 3, pmc_117)) rfl rfl (cm_117 (pw_dp hd (by decide)) I ) ?_
          rintro u16 v15 ⟨rfl, rfl⟩
          refine ⟨_, rfl, ?_⟩
          show pw X d h 147 49 [some (.ref 16), some (pw_i k), some (.long k5_2), none, some (pw_i k5_4), some (pw_i x13)] [.ref 113, .long k5_2] _
          refine pw_ld E (pc' := 50) (st' := [pw_i k, .ref 113, .long k5_2]) rfl (fun _ => rfl) ?_
          refine pw_ld E (pc' := 52) (st' := [pw_i k5_4, pw_i k, .ref 113, .long k5_2]) rfl (fun _ => rfl) ?_
          refine pw_ld E (pc' := 53) (st' := [.ref 16, pw_i k5_4, pw_i k, .ref 113, .long k5_2]) rfl (fun _ => rfl) ?_
          refine pw_getI2 I E (c := 0) (k := 6) (pc' := 56) rfl rfl rfl rfl rfl rfl (fun hf17a hf17b => ?_)
          obtain ⟨f18l, f18h, -⟩ := pw_obj (c := 97) I rfl
          refine pw_call (m' := 20) (As := [.ref 113, pw_i k, pw_i k5_4, pw_i (pw_g h 0 6)]) (rest := [.long k5_2]) (ls'' := [some (.ref 113), some (pw_i k), some (pw_i k5_4), some (pw_i (pw_g h 0 6))]) (Nat.le_trans (by decide) hd) E rfl (fun _ => pw_iV rfl rfl rfl rfl (pw_cellI f18h rfl)) (rfl : pm_ent 20 = some (4, 4, 2, 0, pmc_20)) rfl rfl (cm_20 (pw_dp hd (by decide)) I 97 (by unfold pw_Lg; omega) (k) (by omega) (by omega) (k5_4) (by omega) (by omega) (pw_g h 0 6) (by omega) (by omega)) ?_
          rintro u20 v19 ⟨rfl, x21, rfl, hx21a, hx21b⟩
          refine ⟨_, rfl, ?_⟩
          show pw X d h 147 59 [some (.ref 16), some (pw_i k), some (.long k5_2), none, some (pw_i k5_4), some (pw_i x13)] [pw_i x21, .long k5_2] _
          refine pw_ld E (pc' := 61) (st' := [pw_i x13, pw_i x21, .long k5_2]) rfl (fun _ => rfl) ?_
          refine pw_sub E (pc' := 62) rfl rfl ?_
          refine pw_nm (fun x22 hx22a hx22b => ?_)
          refine pw_abs E rfl rfl rfl (fun x23 hx23a hx23b hx23c hx23d => ?_)
          refine pw_ld E (pc' := 66) (st' := [.long ((Int32.ofInt x23).toInt64), .long k5_2]) rfl (fun _ => rfl) ?_
          refine pw_ld E (pc' := 67) (st' := [.long (k5_2 + ((Int32.ofInt x23).toInt64))]) rfl (fun _ => rfl) ?_
          refine pw_lstn E (pc' := 68) (ls' := [some (.ref 16), some (pw_i k), some (.long (k5_2 + ((Int32.ofInt x23).toInt64))), none, some (pw_i k5_4), some (pw_i x13)]) rfl rfl rfl rfl ?_
          refine pw_inc E (pc' := 71) (ls' := [some (.ref 16), some (pw_i k), some (.long (k5_2 + ((Int32.ofInt x23).toInt64))), none, some (pw_i (k5_4 + 1)), some (pw_i x13)]) rfl rfl rfl rfl ?_
          refine pw_goto E (pc' := 5) rfl (by decide) ?_
          exact ih5 _ (by omega) (k5_2 + ((Int32.ofInt x23).toInt64)) (k5_4 + 1) (some (pw_i x13))  (by omega) (by omega)  rfl
  exact L5 _ (Int64.ofNat 0) (1) (none)  (by omega) (by omega)  rfl
set_option maxHeartbeats 4000000 in
theorem cm_146 {X : List (Nat × List Value)} {d : Nat} {h : pm_H} (hd : 7 ≤ d) (I : pw_I h) (c : Nat) (hc : pw_Sc c) (sd : Int) (hsd1 : (-2147483648) ≤ sd) (hsd2 : sd ≤ 2147483647) : pw X d h 146 0 [some (.ref 16), some (.ref (16 + c)), some (pw_i sd), none, none, none, none] [] (fun h' v => pw_I h' ∧ pw_E [96, 98, 99, c + 5] h h' ∧ ∃ w : Int64, v = .inl (some (.long w))) := by
  have E : pm_ent 146 = some (3, 7, 11, 2, pmc_146) := rfl
  have E0 : pw_E [96, 98, 99, c + 5] h h := pw_E.rf _ _
  refine pw_ld E (pc' := 1) (st' := [.long (Int64.ofNat 0)]) rfl (fun _ => rfl) ?_
  refine pw_lstn E (pc' := 2) (ls' := [some (.ref 16), some (.ref (16 + c)), some (pw_i sd), some (.long (Int64.ofNat 0)), none, none, none]) rfl rfl rfl rfl ?_
  refine pw_ld E (pc' := 3) (st' := [pw_i 0]) rfl (fun _ => rfl) ?_
  refine pw_ist E (pc' := 5) (ls' := [some (.ref 16), some (.ref (16 + c)), some (pw_i sd), some (.long (Int64.ofNat 0)), none, some (pw_i 0), none]) rfl rfl rfl rfl ?_
  have L5 : ∀ (n5 : Nat) (k5_3 : Int64) (k5_5 : Int) (k5_6 : Option Value) (h5 : pm_H), pw_I h5 → pw_E [96, 98, 99, c + 5] h h5 → 0 ≤ k5_5 → k5_5 ≤ 2147483647 → (2147483647 - k5_5).toNat = n5 → pw X d h5 146 5 [some (.ref 16), some (.ref (16 + c)), some (pw_i sd), some (.long k5_3), none, some (pw_i k5_5), k5_6] [] (fun h' v => pw_I h' ∧ pw_E [96, 98, 99, c + 5] h h' ∧ ∃ w : Int64, v = .inl (some (.long w))) := by
    intro n5
    induction n5 using Nat.strongRecOn with
    | ind n5 ih5 =>
      intro k5_3 k5_5 k5_6 h5 I5 E5 k5_5a k5_5b hm5
      refine pw_ld E (pc' := 7) (st' := [pw_i k5_5]) rfl (fun _ => rfl) ?_
      refine pw_ld E (pc' := 8) (st' := [pw_i sd, pw_i k5_5]) rfl (fun _ => rfl) ?_
      refine pw_if2 E (pc' := 66) rfl (by decide) (by omega) (by omega) (by omega) (by omega) ?_ ?_
      · intro hc1
        change sd ≤ k5_5 at hc1
        refine pw_ld E (pc' := 67) (st' := [.long k5_3]) rfl (fun _ => rfl) ?_
        refine pw_lret E rfl ?_
        exact ⟨I5, E5, ⟨_, rfl⟩⟩
      · intro hc2
        change ¬ (sd ≤ k5_5) at hc2
        refine pw_ld E (pc' := 12) (st' := [.ref 16]) rfl (fun _ => rfl) ?_
        refine pw_getR (b := 112) I5 E (c := 0) (k := 17) (pc' := 15) rfl rfl rfl rfl rfl rfl rfl ?_
        refine pw_ld E (pc' := 16) (st' := [.ref (16 + c), .ref 112]) rfl (fun _ => rfl) ?_
        refine pw_ld E (pc' := 18) (st' := [pw_i k5_5, .ref (16 + c), .ref 112]) rfl (fun _ => rfl) ?_
        refine pw_bip E (pc' := 20) rfl rfl (by decide) ?_
        obtain ⟨f3l, f3h, -⟩ := pw_obj (c := 96) I5 rfl
        refine pw_call (m' := 113) (As := [.ref 112, .ref (16 + c), pw_i k5_5, pw_i 11]) (rest := []) (ls'' := [some (.ref 112), some (.ref (16 + c)), some (pw_i k5_5), some (pw_i 11), none, none]) (Nat.le_trans (by decide) hd) E rfl (fun _ => pw_iV rfl rfl rfl rfl (pw_cellI f3h rfl)) (rfl : pm_ent 113 = some (4, 6, 10, 4, pmc_113)) rfl rfl (cm_113 (pw_dp hd (by decide)) I5 c hc (k5_5) (by omega) (by omega) (11) (by omega) (by omega)) ?_
        rintro h4 v5 ⟨h4I, h4E, rfl⟩
        refine ⟨_, rfl, ?_⟩
        have h4F := E5.tr (h4E.wk (W' := [96, 98, 99, c + 5]) (by first | rfl | simp))
        show pw X d h4 146 23 [some (.ref 16), some (.ref (16 + c)), some (pw_i sd), some (.long k5_3), none, some (pw_i k5_5), k5_6] [] _
        refine pw_ld E (pc' := 24) (st' := [pw_i 0]) rfl (fun _ => rfl) ?_
        refine pw_ist E (pc' := 26) (ls' := [some (.ref 16), some (.ref (16 + c)), some (pw_i sd), some (.long k5_3), none, some (pw_i k5_5), some (pw_i 0)]) rfl rfl rfl rfl ?_
        have L26 : ∀ (n26 : Nat) (k26_3 : Int64) (k26_6 : Int), 0 ≤ k26_6 → k26_6 ≤ 24 → (24 - k26_6).toNat = n26 → pw X d h4 146 26 [some (.ref 16), some (.ref (16 + c)), some (pw_i sd), some (.long k26_3), none, some (pw_i k5_5), some (pw_i k26_6)] [] (fun h' v => pw_I h' ∧ pw_E [96, 98, 99, c + 5] h h' ∧ ∃ w : Int64, v = .inl (some (.long w))) := by
          intro n26
          induction n26 using Nat.strongRecOn with
          | ind n26 ih26 =>
            intro k26_3 k26_6 k26_6a k26_6b hm26
            refine pw_ld E (pc' := 28) (st' := [pw_i k26_6]) rfl (fun _ => rfl) ?_
            refine pw_bip E (pc' := 30) rfl rfl (by decide) ?_
            refine pw_if2 E (pc' := 60) rfl (by decide) (by omega) (by omega) (by decide) (by decide) ?_ ?_
            · intro hc6
              change (24 : Int) ≤ k26_6 at hc6
              refine pw_inc E (pc' := 63) (ls' := [some (.ref 16), some (.ref (16 + c)), some (pw_i sd), some (.long k26_3), none, some (pw_i (k5_5 + 1)), some (pw_i k26_6)]) rfl rfl rfl rfl ?_
              refine pw_goto E (pc' := 5) rfl (by decide) ?_
              exact ih5 _ (by omega) (k26_3) (k5_5 + 1) (some (pw_i k26_6)) h4 h4I h4F (by omega) (by omega)  rfl
            · intro hc7
              change ¬ ((24 : Int) ≤ k26_6) at hc7
              refine pw_ld E (pc' := 34) (st' := [.ref 16]) rfl (fun _ => rfl) ?_
              refine pw_getR (b := 17) h4I E (c := 0) (k := 0) (pc' := 37) rfl rfl rfl rfl rfl rfl rfl ?_
              refine pw_ld E (pc' := 39) (st' := [pw_i k26_6, .ref 17]) rfl (fun _ => rfl) ?_
              obtain ⟨f8l, f8h, -⟩ := pw_obj (c := 1) h4I rfl
              refine pw_call (m' := 59) (As := [.ref 17, pw_i k26_6]) (rest := []) (ls'' := [some (.ref 17), some (pw_i k26_6)]) (Nat.le_trans (by decide) hd) E rfl (fun _ => pw_iV rfl rfl rfl rfl (pw_cellI f8h rfl)) (rfl : pm_ent 59 = some (2, 2, 6, 1, pmc_59)) rfl rfl (cm_59 (pw_dp hd (by decide)) h4I (k26_6) (by omega) (by omega)) ?_
              rintro u10 v9 ⟨rfl, x11, rfl, hx11a, hx11b, hx11r⟩
              refine ⟨_, rfl, ?_⟩
              show pw X d h4 146 42 [some (.ref 16), some (.ref (16 + c)), some (pw_i sd), some (.long k26_3), none, some (pw_i k5_5), some (pw_i k26_6)] [pw_i x11] _
              change x11 = pw_g h4 2 k26_6.toNat at hx11r
              rcases (by omega : x11 = 1 ∨ x11 = 0) with hb12 | hb12
              · skip
                refine pw_if E (pc' := 54) rfl (by decide) (by omega) (by omega) ?_ ?_
                · intro hc13
                  change x11 = (0 : Int) at hc13
                  exfalso; omega
                · intro hc14
                  change ¬ (x11 = (0 : Int)) at hc14
                  refine pw_ld E (pc' := 46) (st' := [.long k26_3]) rfl (fun _ => rfl) ?_
                  refine pw_ld E (pc' := 47) (st' := [.ref 16, .long k26_3]) rfl (fun _ => rfl) ?_
                  refine pw_ld E (pc' := 49) (st' := [pw_i k26_6, .ref 16, .long k26_3]) rfl (fun _ => rfl) ?_
                  obtain ⟨f15l, f15h, -⟩ := pw_obj (c := 0) h4I rfl
                  refine pw_call (m' := 147) (As := [.ref 16, pw_i k26_6]) (rest := [.long k26_3]) (ls'' := [some (.ref 16), some (pw_i k26_6), none, none, none, none]) (Nat.le_trans (by decide) hd) E rfl (fun _ => pw_iV rfl rfl rfl rfl (pw_cellI f15h rfl)) (rfl : pm_ent 147 = some (2, 6, 11, 2, pmc_147)) rfl rfl (cm_147 (pw_dp hd (by decide)) h4I (k26_6) (by omega) (by omega)) ?_
                  rintro u17 v16 ⟨rfl, w18, rfl⟩
                  refine ⟨_, rfl, ?_⟩
                  show pw X d h4 146 52 [some (.ref 16), some (.ref (16 + c)), some (pw_i sd), some (.long k26_3), none, some (pw_i k5_5), some (pw_i k26_6)] [.long w18, .long k26_3] _
                  refine pw_ld E (pc' := 53) (st' := [.long (k26_3 + w18)]) rfl (fun _ => rfl) ?_
                  refine pw_lstn E (pc' := 54) (ls' := [some (.ref 16), some (.ref (16 + c)), some (pw_i sd), some (.long (k26_3 + w18)), none, some (pw_i k5_5), some (pw_i k26_6)]) rfl rfl rfl rfl ?_
                  refine pw_inc E (pc' := 57) (ls' := [some (.ref 16), some (.ref (16 + c)), some (pw_i sd), some (.long (k26_3 + w18)), none, some (pw_i k5_5), some (pw_i (k26_6 + 1))]) rfl rfl rfl rfl ?_
                  refine pw_goto E (pc' := 26) rfl (by decide) ?_
                  exact ih26 _ (by omega) (k26_3 + w18) (k26_6 + 1)  (by omega) (by omega)  rfl
              · skip
                refine pw_if E (pc' := 54) rfl (by decide) (by omega) (by omega) ?_ ?_
                · intro hc20
                  change x11 = (0 : Int) at hc20
                  refine pw_inc E (pc' := 57) (ls' := [some (.ref 16), some (.ref (16 + c)), some (pw_i sd), some (.long k26_3), none, some (pw_i k5_5), some (pw_i (k26_6 + 1))]) rfl rfl rfl rfl ?_
                  refine pw_goto E (pc' := 26) rfl (by decide) ?_
                  exact ih26 _ (by omega) (k26_3) (k26_6 + 1)  (by omega) (by omega)  rfl
                · intro hc21
                  change ¬ (x11 = (0 : Int)) at hc21
                  exfalso; omega
        exact L26 _ (k5_3) (0)  (by omega) (by omega)  rfl
  exact L5 _ (Int64.ofNat 0) (0) (none) h I E0 (by omega) (by omega)  rfl
set_option maxHeartbeats 4000000 in
theorem cm_144 {X : List (Nat × List Value)} {d : Nat} {h : pm_H} (hd : 7 ≤ d) (I : pw_I h) (la : Int) (hla1 : (-2147483648) ≤ la) (hla2 : la ≤ 2147483647) (sd : Int) (hsd1 : (-2147483648) ≤ sd) (hsd2 : sd ≤ 2147483647) (k : Int) (hk1 : (-2147483648) ≤ k) (hk2 : k ≤ 2147483647) (mo : Int) (hmo1 : (-2147483648) ≤ mo) (hmo2 : mo ≤ 2147483647) : pw X d h 144 0 [some (.ref 16), some (pw_i la), some (pw_i sd), some (pw_i k), some (pw_i mo)] [] (fun h' v => pw_I h' ∧ pw_E [96, 98, 99, 44, 58, 72, 86] h h' ∧ ∃ a : Int, v = .inl (some (pw_i a)) ∧ (-2147483648) ≤ a ∧ a ≤ 2147483647) := by
  have E : pm_ent 144 = some (5, 5, 11, 0, pmc_144) := rfl
  have E0 : pw_E [96, 98, 99, 44, 58, 72, 86] h h := pw_E.rf _ _
  refine pw_ld E (pc' := 1) (st' := [pw_i la]) rfl (fun _ => rfl) ?_
  refine pw_call (m' := 142) (As := [pw_i la]) (rest := []) (ls'' := [some (pw_i la)]) (Nat.le_trans (by decide) hd) E rfl (fun _ => pw_iS rfl rfl rfl) (rfl : pm_ent 142 = some (1, 1, 11, 1, pmc_142)) rfl rfl (cm_142 (pw_dp hd (by decide)) I (la) (by omega) (by omega)) ?_
  rintro u2 v1 ⟨rfl, x3, rfl, hx3a, hx3b, hx3r⟩
  refine ⟨_, rfl, ?_⟩
  show pw X d h 144 4 [some (.ref 16), some (pw_i la), some (pw_i sd), some (pw_i k), some (pw_i mo)] [pw_i x3] _
  change (x3 = 1 ∧ 0 ≤ la ∧ la ≤ 3) ∨ (x3 = 0 ∧ ¬ (0 ≤ la ∧ la ≤ 3)) at hx3r
  rcases (by omega : x3 = 1 ∨ x3 = 0) with hb4 | hb4
  · skip
    refine pw_if E (pc' := 34) rfl (by decide) (by omega) (by omega) ?_ ?_
    · intro hc5
      change x3 = (0 : Int) at hc5
      exfalso; omega
    · intro hc6
      change ¬ (x3 = (0 : Int)) at hc6
      refine pw_ld E (pc' := 8) (st' := [pw_i sd]) rfl (fun _ => rfl) ?_
      refine pw_ld E (pc' := 9) (st' := [pw_i 0, pw_i sd]) rfl (fun _ => rfl) ?_
      refine pw_sip E (pc' := 12) rfl rfl (by decide) ?_
      refine pw_call (m' := 121) (As := [pw_i sd, pw_i 0, pw_i 9999]) (rest := []) (ls'' := [some (pw_i sd), some (pw_i 0), some (pw_i 9999)]) (Nat.le_trans (by decide) hd) E rfl (fun _ => pw_iS rfl rfl rfl) (rfl : pm_ent 121 = some (3, 3, 11, 1, pmc_121)) rfl rfl (cm_121 (pw_dp hd (by decide)) I (sd) (by omega) (by omega) (0) (by omega) (by omega) (9999) (by omega) (by omega)) ?_
      rintro u8 v7 ⟨rfl, x9, rfl, hx9a, hx9b, hx9r⟩
      refine ⟨_, rfl, ?_⟩
      show pw X d h 144 15 [some (.ref 16), some (pw_i la), some (pw_i sd), some (pw_i k), some (pw_i mo)] [pw_i x9] _
      change (x9 = 1 ∧ 0 ≤ sd ∧ sd ≤ 9999) ∨ (x9 = 0 ∧ ¬ (0 ≤ sd ∧ sd ≤ 9999)) at hx9r
      rcases (by omega : x9 = 1 ∨ x9 = 0) with hb10 | hb10
      · skip
        refine pw_if E (pc' := 34) rfl (by decide) (by omega) (by omega) ?_ ?_
        · intro hc11
          change x9 = (0 : Int) at hc11
          exfalso; omega
        · intro hc12
          change ¬ (x9 = (0 : Int)) at hc12
          refine pw_ld E (pc' := 19) (st' := [.ref 16]) rfl (fun _ => rfl) ?_
          refine pw_ld E (pc' := 20) (st' := [pw_i k, .ref 16]) rfl (fun _ => rfl) ?_
          obtain ⟨f13l, f13h, -⟩ := pw_obj (c := 0) I rfl
          refine pw_call (m' := 124) (As := [.ref 16, pw_i k]) (rest := []) (ls'' := [some (.ref 16), some (pw_i k)]) (Nat.le_trans (by decide) hd) E rfl (fun _ => pw_iV rfl rfl rfl rfl (pw_cellI f13h rfl)) (rfl : pm_ent 124 = some (2, 2, 11, 1, pmc_124)) rfl rfl (cm_124 (pw_dp hd (by decide)) I (k) (by omega) (by omega)) ?_
          rintro u15 v14 ⟨rfl, x16, rfl, hx16a, hx16b, hx16r⟩
          refine ⟨_, rfl, ?_⟩
          show pw X d h 144 23 [some (.ref 16), some (pw_i la), some (pw_i sd), some (pw_i k), some (pw_i mo)] [pw_i x16] _
          change (x16 = 1 ∧ 0 ≤ k ∧ k ≤ 23) ∨ x16 = 0 at hx16r
          rcases (by omega : x16 = 1 ∨ x16 = 0) with hb17 | hb17
          · skip
            refine pw_if E (pc' := 34) rfl (by decide) (by omega) (by omega) ?_ ?_
            · intro hc18
              change x16 = (0 : Int) at hc18
              exfalso; omega
            · intro hc19
              change ¬ (x16 = (0 : Int)) at hc19
              refine pw_ld E (pc' := 28) (st' := [pw_i mo]) rfl (fun _ => rfl) ?_
              refine pw_call (m' := 125) (As := [pw_i mo]) (rest := []) (ls'' := [some (pw_i mo)]) (Nat.le_trans (by decide) hd) E rfl (fun _ => pw_iS rfl rfl rfl) (rfl : pm_ent 125 = some (1, 1, 11, 1, pmc_125)) rfl rfl (cm_125 (pw_dp hd (by decide)) I (mo) (by omega) (by omega)) ?_
              rintro u21 v20 ⟨rfl, x22, rfl, hx22a, hx22b, hx22r⟩
              refine ⟨_, rfl, ?_⟩
              show pw X d h 144 31 [some (.ref 16), some (pw_i la), some (pw_i sd), some (pw_i k), some (pw_i mo)] [pw_i x22] _
              change (x22 = 1 ∧ 0 ≤ mo ∧ mo ≤ 11) ∨ (x22 = 0 ∧ ¬ (0 ≤ mo ∧ mo ≤ 11)) at hx22r
              rcases (by omega : x22 = 1 ∨ x22 = 0) with hb23 | hb23
              · skip
                refine pw_if E (pc' := 36) rfl (by decide) (by omega) (by omega) ?_ ?_
                · intro hc24
                  change x22 ≠ (0 : Int) at hc24
                  refine pw_ld E (pc' := 37) (st' := [.ref 16]) rfl (fun _ => rfl) ?_
                  refine pw_getR (b := 112) I E (c := 0) (k := 17) (pc' := 40) rfl rfl rfl rfl rfl rfl rfl ?_
                  refine pw_ld E (pc' := 41) (st' := [.ref 16, .ref 112]) rfl (fun _ => rfl) ?_
                  refine pw_getR (b := 53) I E (c := 0) (k := 14) (pc' := 44) rfl rfl rfl rfl rfl rfl rfl ?_
                  refine pw_ld E (pc' := 45) (st' := [pw_i la, .ref 53, .ref 112]) rfl (fun _ => rfl) ?_
                  rcases (by omega : la = 0 ∨ la = 1 ∨ la = 2 ∨ la = 3) with hj25 | hj25 | hj25 | hj25
                  · refine pw_aald (b := 55) I E (c := 37) (pc' := 46) rfl rfl (by decide) rfl (by decide) (by omega) (by omega) (by rw [hj25]; rfl) rfl ?_
                    refine pw_ld E (pc' := 47) (st' := [pw_i sd, .ref 55, .ref 112]) rfl (fun _ => rfl) ?_
                    refine pw_ld E (pc' := 49) (st' := [pw_i mo, pw_i sd, .ref 55, .ref 112]) rfl (fun _ => rfl) ?_
                    obtain ⟨f26l, f26h, -⟩ := pw_obj (c := 96) I rfl
                    refine pw_call (m' := 113) (As := [.ref 112, .ref 55, pw_i sd, pw_i mo]) (rest := []) (ls'' := [some (.ref 112), some (.ref 55), some (pw_i sd), some (pw_i mo), none, none]) (Nat.le_trans (by decide) hd) E rfl (fun _ => pw_iV rfl rfl rfl rfl (pw_cellI f26h rfl)) (rfl : pm_ent 113 = some (4, 6, 10, 4, pmc_113)) rfl rfl (cm_113 (pw_dp hd (by decide)) I 39 (by unfold pw_Sc; omega) (sd) (by omega) (by omega) (mo) (by omega) (by omega)) ?_
                    rintro h27 v28 ⟨h27I, h27E, rfl⟩
                    refine ⟨_, rfl, ?_⟩
                    have h27F := E0.tr (h27E.wk (W' := [96, 98, 99, 44, 58, 72, 86]) (by first | rfl | simp))
                    show pw X d h27 144 52 [some (.ref 16), some (pw_i la), some (pw_i sd), some (pw_i k), some (pw_i mo)] [] _
                    refine pw_ld E (pc' := 53) (st' := [.ref 16]) rfl (fun _ => rfl) ?_
                    refine pw_getR (b := 112) h27I E (c := 0) (k := 17) (pc' := 56) rfl rfl rfl rfl rfl rfl rfl ?_
                    obtain ⟨f29l, f29h, -⟩ := pw_obj (c := 96) h27I rfl
                    refine pw_call (m' := 117) (As := [.ref 112]) (rest := []) (ls'' := [some (.ref 112)]) (Nat.le_trans (by decide) hd) E rfl (fun _ => pw_iV rfl rfl rfl rfl (pw_cellI f29h rfl)) (rfl : pm_ent 117 = some (1, 1, 10, 3, pmc_117)) rfl rfl (cm_117 (pw_dp hd (by decide)) h27I ) ?_
                    rintro u31 v30 ⟨rfl, rfl⟩
                    refine ⟨_, rfl, ?_⟩
                    show pw X d h27 144 59 [some (.ref 16), some (pw_i la), some (pw_i sd), some (pw_i k), some (pw_i mo)] [.ref 113] _
                    refine pw_ld E (pc' := 60) (st' := [pw_i k, .ref 113]) rfl (fun _ => rfl) ?_
                    refine pw_ld E (pc' := 62) (st' := [pw_i mo, pw_i k, .ref 113]) rfl (fun _ => rfl) ?_
                    refine pw_ld E (pc' := 63) (st' := [.ref 16, pw_i mo, pw_i k, .ref 113]) rfl (fun _ => rfl) ?_
                    refine pw_getI2 h27I E (c := 0) (k := 6) (pc' := 66) rfl rfl rfl rfl rfl rfl (fun hf32a hf32b => ?_)
                    obtain ⟨f33l, f33h, -⟩ := pw_obj (c := 97) h27I rfl
                    refine pw_call (m' := 20) (As := [.ref 113, pw_i k, pw_i mo, pw_i (pw_g h27 0 6)]) (rest := []) (ls'' := [some (.ref 113), some (pw_i k), some (pw_i mo), some (pw_i (pw_g h27 0 6))]) (Nat.le_trans (by decide) hd) E rfl (fun _ => pw_iV rfl rfl rfl rfl (pw_cellI f33h rfl)) (rfl : pm_ent 20 = some (4, 4, 2, 0, pmc_20)) rfl rfl (cm_20 (pw_dp hd (by decide)) h27I 97 (by unfold pw_Lg; omega) (k) (by omega) (by omega) (mo) (by omega) (by omega) (pw_g h27 0 6) (by omega) (by omega)) ?_
                    rintro u35 v34 ⟨rfl, x36, rfl, hx36a, hx36b⟩
                    refine ⟨_, rfl, ?_⟩
                    show pw X d h27 144 69 [some (.ref 16), some (pw_i la), some (pw_i sd), some (pw_i k), some (pw_i mo)] [pw_i x36] _
                    refine pw_iret E rfl ?_
                    exact ⟨h27I, h27F, ⟨_, rfl, by omega, by omega⟩⟩
                  · refine pw_aald (b := 69) I E (c := 37) (pc' := 46) rfl rfl (by decide) rfl (by decide) (by omega) (by omega) (by rw [hj25]; rfl) rfl ?_
                    refine pw_ld E (pc' := 47) (st' := [pw_i sd, .ref 69, .ref 112]) rfl (fun _ => rfl) ?_
                    refine pw_ld E (pc' := 49) (st' := [pw_i mo, pw_i sd, .ref 69, .ref 112]) rfl (fun _ => rfl) ?_
                    obtain ⟨f37l, f37h, -⟩ := pw_obj (c := 96) I rfl
                    refine pw_call (m' := 113) (As := [.ref 112, .ref 69, pw_i sd, pw_i mo]) (rest := []) (ls'' := [some (.ref 112), some (.ref 69), some (pw_i sd), some (pw_i mo), none, none]) (Nat.le_trans (by decide) hd) E rfl (fun _ => pw_iV rfl rfl rfl rfl (pw_cellI f37h rfl)) (rfl : pm_ent 113 = some (4, 6, 10, 4, pmc_113)) rfl rfl (cm_113 (pw_dp hd (by decide)) I 53 (by unfold pw_Sc; omega) (sd) (by omega) (by omega) (mo) (by omega) (by omega)) ?_
                    rintro h38 v39 ⟨h38I, h38E, rfl⟩
                    refine ⟨_, rfl, ?_⟩
                    have h38F := E0.tr (h38E.wk (W' := [96, 98, 99, 44, 58, 72, 86]) (by first | rfl | simp))
                    show pw X d h38 144 52 [some (.ref 16), some (pw_i la), some (pw_i sd), some (pw_i k), some (pw_i mo)] [] _
                    refine pw_ld E (pc' := 53) (st' := [.ref 16]) rfl (fun _ => rfl) ?_
                    refine pw_getR (b := 112) h38I E (c := 0) (k := 17) (pc' := 56) rfl rfl rfl rfl rfl rfl rfl ?_
                    obtain ⟨f40l, f40h, -⟩ := pw_obj (c := 96) h38I rfl
                    refine pw_call (m' := 117) (As := [.ref 112]) (rest := []) (ls'' := [some (.ref 112)]) (Nat.le_trans (by decide) hd) E rfl (fun _ => pw_iV rfl rfl rfl rfl (pw_cellI f40h rfl)) (rfl : pm_ent 117 = some (1, 1, 10, 3, pmc_117)) rfl rfl (cm_117 (pw_dp hd (by decide)) h38I ) ?_
                    rintro u42 v41 ⟨rfl, rfl⟩
                    refine ⟨_, rfl, ?_⟩
                    show pw X d h38 144 59 [some (.ref 16), some (pw_i la), some (pw_i sd), some (pw_i k), some (pw_i mo)] [.ref 113] _
                    refine pw_ld E (pc' := 60) (st' := [pw_i k, .ref 113]) rfl (fun _ => rfl) ?_
                    refine pw_ld E (pc' := 62) (st' := [pw_i mo, pw_i k, .ref 113]) rfl (fun _ => rfl) ?_
                    refine pw_ld E (pc' := 63) (st' := [.ref 16, pw_i mo, pw_i k, .ref 113]) rfl (fun _ => rfl) ?_
                    refine pw_getI2 h38I E (c := 0) (k := 6) (pc' := 66) rfl rfl rfl rfl rfl rfl (fun hf43a hf43b => ?_)
                    obtain ⟨f44l, f44h, -⟩ := pw_obj (c := 97) h38I rfl
                    refine pw_call (m' := 20) (As := [.ref 113, pw_i k, pw_i mo, pw_i (pw_g h38 0 6)]) (rest := []) (ls'' := [some (.ref 113), some (pw_i k), some (pw_i mo), some (pw_i (pw_g h38 0 6))]) (Nat.le_trans (by decide) hd) E rfl (fun _ => pw_iV rfl rfl rfl rfl (pw_cellI f44h rfl)) (rfl : pm_ent 20 = some (4, 4, 2, 0, pmc_20)) rfl rfl (cm_20 (pw_dp hd (by decide)) h38I 97 (by unfold pw_Lg; omega) (k) (by omega) (by omega) (mo) (by omega) (by omega) (pw_g h38 0 6) (by omega) (by omega)) ?_
                    rintro u46 v45 ⟨rfl, x47, rfl, hx47a, hx47b⟩
                    refine ⟨_, rfl, ?_⟩
                    show pw X d h38 144 69 [some (.ref 16), some (pw_i la), some (pw_i sd), some (pw_i k), some (pw_i mo)] [pw_i x47] _
                    refine pw_iret E rfl ?_
                    exact ⟨h38I, h38F, ⟨_, rfl, by omega, by omega⟩⟩
                  · refine pw_aald (b := 83) I E (c := 37) (pc' := 46) rfl rfl (by decide) rfl (by decide) (by omega) (by omega) (by rw [hj25]; rfl) rfl ?_
                    refine pw_ld E (pc' := 47) (st' := [pw_i sd, .ref 83, .ref 112]) rfl (fun _ => rfl) ?_
                    refine pw_ld E (pc' := 49) (st' := [pw_i mo, pw_i sd, .ref 83, .ref 112]) rfl (fun _ => rfl) ?_
                    obtain ⟨f48l, f48h, -⟩ := pw_obj (c := 96) I rfl
                    refine pw_call (m' := 113) (As := [.ref 112, .ref 83, pw_i sd, pw_i mo]) (rest := []) (ls'' := [some (.ref 112), some (.ref 83), some (pw_i sd), some (pw_i mo), none, none]) (Nat.le_trans (by decide) hd) E rfl (fun _ => pw_iV rfl rfl rfl rfl (pw_cellI f48h rfl)) (rfl : pm_ent 113 = some (4, 6, 10, 4, pmc_113)) rfl rfl (cm_113 (pw_dp hd (by decide)) I 67 (by unfold pw_Sc; omega) (sd) (by omega) (by omega) (mo) (by omega) (by omega)) ?_
                    rintro h49 v50 ⟨h49I, h49E, rfl⟩
                    refine ⟨_, rfl, ?_⟩
                    have h49F := E0.tr (h49E.wk (W' := [96, 98, 99, 44, 58, 72, 86]) (by first | rfl | simp))
                    show pw X d h49 144 52 [some (.ref 16), some (pw_i la), some (pw_i sd), some (pw_i k), some (pw_i mo)] [] _
                    refine pw_ld E (pc' := 53) (st' := [.ref 16]) rfl (fun _ => rfl) ?_
                    refine pw_getR (b := 112) h49I E (c := 0) (k := 17) (pc' := 56) rfl rfl rfl rfl rfl rfl rfl ?_
                    obtain ⟨f51l, f51h, -⟩ := pw_obj (c := 96) h49I rfl
                    refine pw_call (m' := 117) (As := [.ref 112]) (rest := []) (ls'' := [some (.ref 112)]) (Nat.le_trans (by decide) hd) E rfl (fun _ => pw_iV rfl rfl rfl rfl (pw_cellI f51h rfl)) (rfl : pm_ent 117 = some (1, 1, 10, 3, pmc_117)) rfl rfl (cm_117 (pw_dp hd (by decide)) h49I ) ?_
                    rintro u53 v52 ⟨rfl, rfl⟩
                    refine ⟨_, rfl, ?_⟩
                    show pw X d h49 144 59 [some (.ref 16), some (pw_i la), some (pw_i sd), some (pw_i k), some (pw_i mo)] [.ref 113] _
                    refine pw_ld E (pc' := 60) (st' := [pw_i k, .ref 113]) rfl (fun _ => rfl) ?_
                    refine pw_ld E (pc' := 62) (st' := [pw_i mo, pw_i k, .ref 113]) rfl (fun _ => rfl) ?_
                    refine pw_ld E (pc' := 63) (st' := [.ref 16, pw_i mo, pw_i k, .ref 113]) rfl (fun _ => rfl) ?_
                    refine pw_getI2 h49I E (c := 0) (k := 6) (pc' := 66) rfl rfl rfl rfl rfl rfl (fun hf54a hf54b => ?_)
                    obtain ⟨f55l, f55h, -⟩ := pw_obj (c := 97) h49I rfl
                    refine pw_call (m' := 20) (As := [.ref 113, pw_i k, pw_i mo, pw_i (pw_g h49 0 6)]) (rest := []) (ls'' := [some (.ref 113), some (pw_i k), some (pw_i mo), some (pw_i (pw_g h49 0 6))]) (Nat.le_trans (by decide) hd) E rfl (fun _ => pw_iV rfl rfl rfl rfl (pw_cellI f55h rfl)) (rfl : pm_ent 20 = some (4, 4, 2, 0, pmc_20)) rfl rfl (cm_20 (pw_dp hd (by decide)) h49I 97 (by unfold pw_Lg; omega) (k) (by omega) (by omega) (mo) (by omega) (by omega) (pw_g h49 0 6) (by omega) (by omega)) ?_
                    rintro u57 v56 ⟨rfl, x58, rfl, hx58a, hx58b⟩
                    refine ⟨_, rfl, ?_⟩
                    show pw X d h49 144 69 [some (.ref 16), some (pw_i la), some (pw_i sd), some (pw_i k), some (pw_i mo)] [pw_i x58] _
                    refine pw_iret E rfl ?_
                    exact ⟨h49I, h49F, ⟨_, rfl, by omega, by omega⟩⟩
                  · refine pw_aald (b := 97) I E (c := 37) (pc' := 46) rfl rfl (by decide) rfl (by decide) (by omega) (by omega) (by rw [hj25]; rfl) rfl ?_
                    refine pw_ld E (pc' := 47) (st' := [pw_i sd, .ref 97, .ref 112]) rfl (fun _ => rfl) ?_
                    refine pw_ld E (pc' := 49) (st' := [pw_i mo, pw_i sd, .ref 97, .ref 112]) rfl (fun _ => rfl) ?_
                    obtain ⟨f59l, f59h, -⟩ := pw_obj (c := 96) I rfl
                    refine pw_call (m' := 113) (As := [.ref 112, .ref 97, pw_i sd, pw_i mo]) (rest := []) (ls'' := [some (.ref 112), some (.ref 97), some (pw_i sd), some (pw_i mo), none, none]) (Nat.le_trans (by decide) hd) E rfl (fun _ => pw_iV rfl rfl rfl rfl (pw_cellI f59h rfl)) (rfl : pm_ent 113 = some (4, 6, 10, 4, pmc_113)) rfl rfl (cm_113 (pw_dp hd (by decide)) I 81 (by unfold pw_Sc; omega) (sd) (by omega) (by omega) (mo) (by omega) (by omega)) ?_
                    rintro h60 v61 ⟨h60I, h60E, rfl⟩
                    refine ⟨_, rfl, ?_⟩
                    have h60F := E0.tr (h60E.wk (W' := [96, 98, 99, 44, 58, 72, 86]) (by first | rfl | simp))
                    show pw X d h60 144 52 [some (.ref 16), some (pw_i la), some (pw_i sd), some (pw_i k), some (pw_i mo)] [] _
                    refine pw_ld E (pc' := 53) (st' := [.ref 16]) rfl (fun _ => rfl) ?_
                    refine pw_getR (b := 112) h60I E (c := 0) (k := 17) (pc' := 56) rfl rfl rfl rfl rfl rfl rfl ?_
                    obtain ⟨f62l, f62h, -⟩ := pw_obj (c := 96) h60I rfl
                    refine pw_call (m' := 117) (As := [.ref 112]) (rest := []) (ls'' := [some (.ref 112)]) (Nat.le_trans (by decide) hd) E rfl (fun _ => pw_iV rfl rfl rfl rfl (pw_cellI f62h rfl)) (rfl : pm_ent 117 = some (1, 1, 10, 3, pmc_117)) rfl rfl (cm_117 (pw_dp hd (by decide)) h60I ) ?_
                    rintro u64 v63 ⟨rfl, rfl⟩
                    refine ⟨_, rfl, ?_⟩
                    show pw X d h60 144 59 [some (.ref 16), some (pw_i la), some (pw_i sd), some (pw_i k), some (pw_i mo)] [.ref 113] _
                    refine pw_ld E (pc' := 60) (st' := [pw_i k, .ref 113]) rfl (fun _ => rfl) ?_
                    refine pw_ld E (pc' := 62) (st' := [pw_i mo, pw_i k, .ref 113]) rfl (fun _ => rfl) ?_
                    refine pw_ld E (pc' := 63) (st' := [.ref 16, pw_i mo, pw_i k, .ref 113]) rfl (fun _ => rfl) ?_
                    refine pw_getI2 h60I E (c := 0) (k := 6) (pc' := 66) rfl rfl rfl rfl rfl rfl (fun hf65a hf65b => ?_)
                    obtain ⟨f66l, f66h, -⟩ := pw_obj (c := 97) h60I rfl
                    refine pw_call (m' := 20) (As := [.ref 113, pw_i k, pw_i mo, pw_i (pw_g h60 0 6)]) (rest := []) (ls'' := [some (.ref 113), some (pw_i k), some (pw_i mo), some (pw_i (pw_g h60 0 6))]) (Nat.le_trans (by decide) hd) E rfl (fun _ => pw_iV rfl rfl rfl rfl (pw_cellI f66h rfl)) (rfl : pm_ent 20 = some (4, 4, 2, 0, pmc_20)) rfl rfl (cm_20 (pw_dp hd (by decide)) h60I 97 (by unfold pw_Lg; omega) (k) (by omega) (by omega) (mo) (by omega) (by omega) (pw_g h60 0 6) (by omega) (by omega)) ?_
                    rintro u68 v67 ⟨rfl, x69, rfl, hx69a, hx69b⟩
                    refine ⟨_, rfl, ?_⟩
                    show pw X d h60 144 69 [some (.ref 16), some (pw_i la), some (pw_i sd), some (pw_i k), some (pw_i mo)] [pw_i x69] _
                    refine pw_iret E rfl ?_
                    exact ⟨h60I, h60F, ⟨_, rfl, by omega, by omega⟩⟩
                · intro hc70
                  change ¬ (x22 ≠ (0 : Int)) at hc70
                  exfalso; omega
              · skip
                refine pw_if E (pc' := 36) rfl (by decide) (by omega) (by omega) ?_ ?_
                · intro hc72
                  change x22 ≠ (0 : Int) at hc72
                  exfalso; omega
                · intro hc73
                  change ¬ (x22 ≠ (0 : Int)) at hc73
                  refine pw_ld E (pc' := 35) (st' := [pw_i ((-1))]) rfl (fun _ => rfl) ?_
                  refine pw_iret E rfl ?_
                  exact ⟨I, E0, ⟨_, rfl, by omega, by omega⟩⟩
          · skip
            refine pw_if E (pc' := 34) rfl (by decide) (by omega) (by omega) ?_ ?_
            · intro hc75
              change x16 = (0 : Int) at hc75
              refine pw_ld E (pc' := 35) (st' := [pw_i ((-1))]) rfl (fun _ => rfl) ?_
              refine pw_iret E rfl ?_
              exact ⟨I, E0, ⟨_, rfl, by omega, by omega⟩⟩
            · intro hc76
              change ¬ (x16 = (0 : Int)) at hc76
              exfalso; omega
      · skip
        refine pw_if E (pc' := 34) rfl (by decide) (by omega) (by omega) ?_ ?_
        · intro hc78
          change x9 = (0 : Int) at hc78
          refine pw_ld E (pc' := 35) (st' := [pw_i ((-1))]) rfl (fun _ => rfl) ?_
          refine pw_iret E rfl ?_
          exact ⟨I, E0, ⟨_, rfl, by omega, by omega⟩⟩
        · intro hc79
          change ¬ (x9 = (0 : Int)) at hc79
          exfalso; omega
  · skip
    refine pw_if E (pc' := 34) rfl (by decide) (by omega) (by omega) ?_ ?_
    · intro hc81
      change x3 = (0 : Int) at hc81
      refine pw_ld E (pc' := 35) (st' := [pw_i ((-1))]) rfl (fun _ => rfl) ?_
      refine pw_iret E rfl ?_
      exact ⟨I, E0, ⟨_, rfl, by omega, by omega⟩⟩
    · intro hc82
      change ¬ (x3 = (0 : Int)) at hc82
      exfalso; omega
set_option maxHeartbeats 4000000 in
theorem cm_145 {X : List (Nat × List Value)} {d : Nat} {h : pm_H} (hd : 8 ≤ d) (I : pw_I h) (la : Int) (hla1 : (-2147483648) ≤ la) (hla2 : la ≤ 2147483647) (sd : Int) (hsd1 : (-2147483648) ≤ sd) (hsd2 : sd ≤ 2147483647) : pw X d h 145 0 [some (.ref 16), some (pw_i la), some (pw_i sd)] [] (fun h' v => pw_I h' ∧ pw_E [96, 98, 99, 44, 58, 72, 86] h h' ∧ ∃ w : Int64, v = .inl (some (.long w))) := by
  have E : pm_ent 145 = some (3, 3, 11, 2, pmc_145) := rfl
  have E0 : pw_E [96, 98, 99, 44, 58, 72, 86] h h := pw_E.rf _ _
  refine pw_ld E (pc' := 1) (st' := [pw_i la]) rfl (fun _ => rfl) ?_
  refine pw_call (m' := 142) (As := [pw_i la]) (rest := []) (ls'' := [some (pw_i la)]) (Nat.le_trans (by decide) hd) E rfl (fun _ => pw_iS rfl rfl rfl) (rfl : pm_ent 142 = some (1, 1, 11, 1, pmc_142)) rfl rfl (cm_142 (pw_dp hd (by decide)) I (la) (by omega) (by omega)) ?_
  rintro u2 v1 ⟨rfl, x3, rfl, hx3a, hx3b, hx3r⟩
  refine ⟨_, rfl, ?_⟩
  show pw X d h 145 4 [some (.ref 16), some (pw_i la), some (pw_i sd)] [pw_i x3] _
  change (x3 = 1 ∧ 0 ≤ la ∧ la ≤ 3) ∨ (x3 = 0 ∧ ¬ (0 ≤ la ∧ la ≤ 3)) at hx3r
  rcases (by omega : x3 = 1 ∨ x3 = 0) with hb4 | hb4
  · skip
    refine pw_if E (pc' := 17) rfl (by decide) (by omega) (by omega) ?_ ?_
    · intro hc5
      change x3 = (0 : Int) at hc5
      exfalso; omega
    · intro hc6
      change ¬ (x3 = (0 : Int)) at hc6
      refine pw_ld E (pc' := 8) (st' := [pw_i sd]) rfl (fun _ => rfl) ?_
      refine pw_ld E (pc' := 9) (st' := [pw_i 1, pw_i sd]) rfl (fun _ => rfl) ?_
      refine pw_bip E (pc' := 11) rfl rfl (by decide) ?_
      refine pw_call (m' := 121) (As := [pw_i sd, pw_i 1, pw_i 20]) (rest := []) (ls'' := [some (pw_i sd), some (pw_i 1), some (pw_i 20)]) (Nat.le_trans (by decide) hd) E rfl (fun _ => pw_iS rfl rfl rfl) (rfl : pm_ent 121 = some (3, 3, 11, 1, pmc_121)) rfl rfl (cm_121 (pw_dp hd (by decide)) I (sd) (by omega) (by omega) (1) (by omega) (by omega) (20) (by omega) (by omega)) ?_
      rintro u8 v7 ⟨rfl, x9, rfl, hx9a, hx9b, hx9r⟩
      refine ⟨_, rfl, ?_⟩
      show pw X d h 145 14 [some (.ref 16), some (pw_i la), some (pw_i sd)] [pw_i x9] _
      change (x9 = 1 ∧ 1 ≤ sd ∧ sd ≤ 20) ∨ (x9 = 0 ∧ ¬ (1 ≤ sd ∧ sd ≤ 20)) at hx9r
      rcases (by omega : x9 = 1 ∨ x9 = 0) with hb10 | hb10
      · skip
        refine pw_if E (pc' := 21) rfl (by decide) (by omega) (by omega) ?_ ?_
        · intro hc11
          change x9 ≠ (0 : Int) at hc11
          refine pw_ld E (pc' := 22) (st' := [.ref 16]) rfl (fun _ => rfl) ?_
          refine pw_ld E (pc' := 23) (st' := [.ref 16, .ref 16]) rfl (fun _ => rfl) ?_
          refine pw_getR (b := 53) I E (c := 0) (k := 14) (pc' := 26) rfl rfl rfl rfl rfl rfl rfl ?_
          refine pw_ld E (pc' := 27) (st' := [pw_i la, .ref 53, .ref 16]) rfl (fun _ => rfl) ?_
          rcases (by omega : la = 0 ∨ la = 1 ∨ la = 2 ∨ la = 3) with hj12 | hj12 | hj12 | hj12
          · refine pw_aald (b := 55) I E (c := 37) (pc' := 28) rfl rfl (by decide) rfl (by decide) (by omega) (by omega) (by rw [hj12]; rfl) rfl ?_
            refine pw_ld E (pc' := 29) (st' := [pw_i sd, .ref 55, .ref 16]) rfl (fun _ => rfl) ?_
            obtain ⟨f13l, f13h, -⟩ := pw_obj (c := 0) I rfl
            refine pw_call (m' := 146) (As := [.ref 16, .ref 55, pw_i sd]) (rest := []) (ls'' := [some (.ref 16), some (.ref 55), some (pw_i sd), none, none, none, none]) (Nat.le_trans (by decide) hd) E rfl (fun _ => pw_iV rfl rfl rfl rfl (pw_cellI f13h rfl)) (rfl : pm_ent 146 = some (3, 7, 11, 2, pmc_146)) rfl rfl (cm_146 (pw_dp hd (by decide)) I 39 (by unfold pw_Sc; omega) (sd) (by omega) (by omega)) ?_
            rintro h14 v15 ⟨h14I, h14E, w16, rfl⟩
            refine ⟨_, rfl, ?_⟩
            have h14F := E0.tr (h14E.wk (W' := [96, 98, 99, 44, 58, 72, 86]) (by first | rfl | simp))
            show pw X d h14 145 32 [some (.ref 16), some (pw_i la), some (pw_i sd)] [.long w16] _
            refine pw_lret E rfl ?_
            exact ⟨h14I, h14F, ⟨_, rfl⟩⟩
          · refine pw_aald (b := 69) I E (c := 37) (pc' := 28) rfl rfl (by decide) rfl (by decide) (by omega) (by omega) (by rw [hj12]; rfl) rfl ?_
            refine pw_ld E (pc' := 29) (st' := [pw_i sd, .ref 69, .ref 16]) rfl (fun _ => rfl) ?_
            obtain ⟨f17l, f17h, -⟩ := pw_obj (c := 0) I rfl
            refine pw_call (m' := 146) (As := [.ref 16, .ref 69, pw_i sd]) (rest := []) (ls'' := [some (.ref 16), some (.ref 69), some (pw_i sd), none, none, none, none]) (Nat.le_trans (by decide) hd) E rfl (fun _ => pw_iV rfl rfl rfl rfl (pw_cellI f17h rfl)) (rfl : pm_ent 146 = some (3, 7, 11, 2, pmc_146)) rfl rfl (cm_146 (pw_dp hd (by decide)) I 53 (by unfold pw_Sc; omega) (sd) (by omega) (by omega)) ?_
            rintro h18 v19 ⟨h18I, h18E, w20, rfl⟩
            refine ⟨_, rfl, ?_⟩
            have h18F := E0.tr (h18E.wk (W' := [96, 98, 99, 44, 58, 72, 86]) (by first | rfl | simp))
            show pw X d h18 145 32 [some (.ref 16), some (pw_i la), some (pw_i sd)] [.long w20] _
            refine pw_lret E rfl ?_
            exact ⟨h18I, h18F, ⟨_, rfl⟩⟩
          · refine pw_aald (b := 83) I E (c := 37) (pc' := 28) rfl rfl (by decide) rfl (by decide) (by omega) (by omega) (by rw [hj12]; rfl) rfl ?_
            refine pw_ld E (pc' := 29) (st' := [pw_i sd, .ref 83, .ref 16]) rfl (fun _ => rfl) ?_
            obtain ⟨f21l, f21h, -⟩ := pw_obj (c := 0) I rfl
            refine pw_call (m' := 146) (As := [.ref 16, .ref 83, pw_i sd]) (rest := []) (ls'' := [some (.ref 16), some (.ref 83), some (pw_i sd), none, none, none, none]) (Nat.le_trans (by decide) hd) E rfl (fun _ => pw_iV rfl rfl rfl rfl (pw_cellI f21h rfl)) (rfl : pm_ent 146 = some (3, 7, 11, 2, pmc_146)) rfl rfl (cm_146 (pw_dp hd (by decide)) I 67 (by unfold pw_Sc; omega) (sd) (by omega) (by omega)) ?_
            rintro h22 v23 ⟨h22I, h22E, w24, rfl⟩
            refine ⟨_, rfl, ?_⟩
            have h22F := E0.tr (h22E.wk (W' := [96, 98, 99, 44, 58, 72, 86]) (by first | rfl | simp))
            show pw X d h22 145 32 [some (.ref 16), some (pw_i la), some (pw_i sd)] [.long w24] _
            refine pw_lret E rfl ?_
            exact ⟨h22I, h22F, ⟨_, rfl⟩⟩
          · refine pw_aald (b := 97) I E (c := 37) (pc' := 28) rfl rfl (by decide) rfl (by decide) (by omega) (by omega) (by rw [hj12]; rfl) rfl ?_
            refine pw_ld E (pc' := 29) (st' := [pw_i sd, .ref 97, .ref 16]) rfl (fun _ => rfl) ?_
            obtain ⟨f25l, f25h, -⟩ := pw_obj (c := 0) I rfl
            refine pw_call (m' := 146) (As := [.ref 16, .ref 97, pw_i sd]) (rest := []) (ls'' := [some (.ref 16), some (.ref 97), some (pw_i sd), none, none, none, none]) (Nat.le_trans (by decide) hd) E rfl (fun _ => pw_iV rfl rfl rfl rfl (pw_cellI f25h rfl)) (rfl : pm_ent 146 = some (3, 7, 11, 2, pmc_146)) rfl rfl (cm_146 (pw_dp hd (by decide)) I 81 (by unfold pw_Sc; omega) (sd) (by omega) (by omega)) ?_
            rintro h26 v27 ⟨h26I, h26E, w28, rfl⟩
            refine ⟨_, rfl, ?_⟩
            have h26F := E0.tr (h26E.wk (W' := [96, 98, 99, 44, 58, 72, 86]) (by first | rfl | simp))
            show pw X d h26 145 32 [some (.ref 16), some (pw_i la), some (pw_i sd)] [.long w28] _
            refine pw_lret E rfl ?_
            exact ⟨h26I, h26F, ⟨_, rfl⟩⟩
        · intro hc29
          change ¬ (x9 ≠ (0 : Int)) at hc29
          exfalso; omega
      · skip
        refine pw_if E (pc' := 21) rfl (by decide) (by omega) (by omega) ?_ ?_
        · intro hc31
          change x9 ≠ (0 : Int) at hc31
          exfalso; omega
        · intro hc32
          change ¬ (x9 ≠ (0 : Int)) at hc32
          refine pw_ld E (pc' := 20) (st' := [.long (Int64.ofNat 18446744073709551615)]) rfl (fun _ => rfl) ?_
          refine pw_lret E rfl ?_
          exact ⟨I, E0, ⟨_, rfl⟩⟩
  · skip
    refine pw_if E (pc' := 17) rfl (by decide) (by omega) (by omega) ?_ ?_
    · intro hc34
      change x3 = (0 : Int) at hc34
      refine pw_ld E (pc' := 20) (st' := [.long (Int64.ofNat 18446744073709551615)]) rfl (fun _ => rfl) ?_
      refine pw_lret E rfl ?_
      exact ⟨I, E0, ⟨_, rfl⟩⟩
    · intro hc35
      change ¬ (x3 = (0 : Int)) at hc35
      exfalso; omega
set_option maxHeartbeats 4000000 in
theorem cm_148 {X : List (Nat × List Value)} {d : Nat} {h : pm_H} (hd : 8 ≤ d) (I : pw_I h) (sd : Int) (hsd1 : (-2147483648) ≤ sd) (hsd2 : sd ≤ 2147483647) : pw X d h 148 0 [some (.ref 16), some (pw_i sd), none, none, none, none, none, none] [] (fun h' v => pw_I h' ∧ pw_E [96, 98, 99, 44, 58, 72, 86] h h' ∧ ∃ a : Int, v = .inl (some (pw_i a)) ∧ (-2147483648) ≤ a ∧ a ≤ 2147483647) := by
  have E : pm_ent 148 = some (2, 8, 11, 0, pmc_148) := rfl
  have E0 : pw_E [96, 98, 99, 44, 58, 72, 86] h h := pw_E.rf _ _
  refine pw_ld E (pc' := 1) (st' := [pw_i sd]) rfl (fun _ => rfl) ?_
  refine pw_ld E (pc' := 2) (st' := [pw_i 1, pw_i sd]) rfl (fun _ => rfl) ?_
  refine pw_bip E (pc' := 4) rfl rfl (by decide) ?_
  refine pw_call (m' := 121) (As := [pw_i sd, pw_i 1, pw_i 20]) (rest := []) (ls'' := [some (pw_i sd), some (pw_i 1), some (pw_i 20)]) (Nat.le_trans (by decide) hd) E rfl (fun _ => pw_iS rfl rfl rfl) (rfl : pm_ent 121 = some (3, 3, 11, 1, pmc_121)) rfl rfl (cm_121 (pw_dp hd (by decide)) I (sd) (by omega) (by omega) (1) (by omega) (by omega) (20) (by omega) (by omega)) ?_
  rintro u2 v1 ⟨rfl, x3, rfl, hx3a, hx3b, hx3r⟩
  refine ⟨_, rfl, ?_⟩
  show pw X d h 148 7 [some (.ref 16), some (pw_i sd), none, none, none, none, none, none] [pw_i x3] _
  change (x3 = 1 ∧ 1 ≤ sd ∧ sd ≤ 20) ∨ (x3 = 0 ∧ ¬ (1 ≤ sd ∧ sd ≤ 20)) at hx3r
  rcases (by omega : x3 = 1 ∨ x3 = 0) with hb4 | hb4
  · skip
    refine pw_if E (pc' := 12) rfl (by decide) (by omega) (by omega) ?_ ?_
    · intro hc5
      change x3 ≠ (0 : Int) at hc5
      refine pw_ld E (pc' := 13) (st' := [pw_i 0]) rfl (fun _ => rfl) ?_
      refine pw_istn E (pc' := 14) (ls' := [some (.ref 16), some (pw_i sd), some (pw_i 0), none, none, none, none, none]) rfl rfl rfl rfl ?_
      refine pw_ld E (pc' := 15) (st' := [.ref 16]) rfl (fun _ => rfl) ?_
      refine pw_ld E (pc' := 16) (st' := [.ref 16, .ref 16]) rfl (fun _ => rfl) ?_
      refine pw_getR (b := 53) I E (c := 0) (k := 14) (pc' := 19) rfl rfl rfl rfl rfl rfl rfl ?_
      refine pw_ld E (pc' := 20) (st' := [pw_i 0, .ref 53, .ref 16]) rfl (fun _ => rfl) ?_
      refine pw_aald (b := 55) I E (c := 37) (pc' := 21) rfl rfl (by decide) rfl (by decide) (by omega) (by omega) rfl rfl ?_
      refine pw_ld E (pc' := 22) (st' := [pw_i sd, .ref 55, .ref 16]) rfl (fun _ => rfl) ?_
      obtain ⟨f7l, f7h, -⟩ := pw_obj (c := 0) I rfl
      refine pw_call (m' := 146) (As := [.ref 16, .ref 55, pw_i sd]) (rest := []) (ls'' := [some (.ref 16), some (.ref 55), some (pw_i sd), none, none, none, none]) (Nat.le_trans (by decide) hd) E rfl (fun _ => pw_iV rfl rfl rfl rfl (pw_cellI f7h rfl)) (rfl : pm_ent 146 = some (3, 7, 11, 2, pmc_146)) rfl rfl (cm_146 (pw_dp hd (by decide)) I 39 (by unfold pw_Sc; omega) (sd) (by omega) (by omega)) ?_
      rintro h8 v9 ⟨h8I, h8E, w10, rfl⟩
      refine ⟨_, rfl, ?_⟩
      have h8F := E0.tr (h8E.wk (W' := [96, 98, 99, 44, 58, 72, 86]) (by first | rfl | simp))
      show pw X d h8 148 25 [some (.ref 16), some (pw_i sd), some (pw_i 0), none, none, none, none, none] [.long w10] _
      refine pw_lstn E (pc' := 26) (ls' := [some (.ref 16), some (pw_i sd), some (pw_i 0), some (.long w10), none, none, none, none]) rfl rfl rfl rfl ?_
      refine pw_ld E (pc' := 27) (st' := [pw_i 1]) rfl (fun _ => rfl) ?_
      refine pw_ist E (pc' := 29) (ls' := [some (.ref 16), some (pw_i sd), some (pw_i 0), some (.long w10), none, some (pw_i 1), none, none]) rfl rfl rfl rfl ?_
      have L29 : ∀ (n29 : Nat) (k29_2 : Int) (k29_3 : Int64) (k29_5 : Int) (k29_6 : Option Value) (h29 : pm_H), pw_I h29 → pw_E [96, 98, 99, 44, 58, 72, 86] h h29 → (-2147483648) ≤ k29_2 → k29_2 ≤ 2147483647 → 1 ≤ k29_5 → k29_5 ≤ 4 → (4 - k29_5).toNat = n29 → pw X d h29 148 29 [some (.ref 16), some (pw_i sd), some (pw_i k29_2), some (.long k29_3), none, some (pw_i k29_5), k29_6, none] [] (fun h' v => pw_I h' ∧ pw_E [96, 98, 99, 44, 58, 72, 86] h h' ∧ ∃ a : Int, v = .inl (some (pw_i a)) ∧ (-2147483648) ≤ a ∧ a ≤ 2147483647) := by
        intro n29
        induction n29 using Nat.strongRecOn with
        | ind n29 ih29 =>
          intro k29_2 k29_3 k29_5 k29_6 h29 I29 E29 k29_2a k29_2b k29_5a k29_5b hm29
          refine pw_ld E (pc' := 31) (st' := [pw_i k29_5]) rfl (fun _ => rfl) ?_
          refine pw_ld E (pc' := 32) (st' := [pw_i 4, pw_i k29_5]) rfl (fun _ => rfl) ?_
          refine pw_if2 E (pc' := 68) rfl (by decide) (by omega) (by omega) (by decide) (by decide) ?_ ?_
          · intro hc11
            change (4 : Int) ≤ k29_5 at hc11
            refine pw_ld E (pc' := 69) (st' := [pw_i k29_2]) rfl (fun _ => rfl) ?_
            refine pw_iret E rfl ?_
            exact ⟨I29, E29, ⟨_, rfl, by omega, by omega⟩⟩
          · intro hc12
            change ¬ ((4 : Int) ≤ k29_5) at hc12
            refine pw_ld E (pc' := 36) (st' := [.ref 16]) rfl (fun _ => rfl) ?_
            refine pw_ld E (pc' := 37) (st' := [.ref 16, .ref 16]) rfl (fun _ => rfl) ?_
            refine pw_getR (b := 53) I29 E (c := 0) (k := 14) (pc' := 40) rfl rfl rfl rfl rfl rfl rfl ?_
            refine pw_ld E (pc' := 42) (st' := [pw_i k29_5, .ref 53, .ref 16]) rfl (fun _ => rfl) ?_
            rcases (by omega : k29_5 = 1 ∨ k29_5 = 2 ∨ k29_5 = 3) with hj13 | hj13 | hj13
            · refine pw_aald (b := 69) I29 E (c := 37) (pc' := 43) rfl rfl (by decide) rfl (by decide) (by omega) (by omega) (by rw [hj13]; rfl) rfl ?_
              refine pw_ld E (pc' := 44) (st' := [pw_i sd, .ref 69, .ref 16]) rfl (fun _ => rfl) ?_
              obtain ⟨f14l, f14h, -⟩ := pw_obj (c := 0) I29 rfl
              refine pw_call (m' := 146) (As := [.ref 16, .ref 69, pw_i sd]) (rest := []) (ls'' := [some (.ref 16), some (.ref 69), some (pw_i sd), none, none, none, none]) (Nat.le_trans (by decide) hd) E rfl (fun _ => pw_iV rfl rfl rfl rfl (pw_cellI f14h rfl)) (rfl : pm_ent 146 = some (3, 7, 11, 2, pmc_146)) rfl rfl (cm_146 (pw_dp hd (by decide)) I29 53 (by unfold pw_Sc; omega) (sd) (by omega) (by omega)) ?_
              rintro h15 v16 ⟨h15I, h15E, w17, rfl⟩
              refine ⟨_, rfl, ?_⟩
              have h15F := E29.tr (h15E.wk (W' := [96, 98, 99, 44, 58, 72, 86]) (by first | rfl | simp))
              show pw X d h15 148 47 [some (.ref 16), some (pw_i sd), some (pw_i k29_2), some (.long k29_3), none, some (pw_i k29_5), k29_6, none] [.long w17] _
              refine pw_lst E (pc' := 49) (ls' := [some (.ref 16), some (pw_i sd), some (pw_i k29_2), some (.long k29_3), none, some (pw_i k29_5), some (.long w17), none]) rfl rfl rfl rfl ?_
              refine pw_ld E (pc' := 51) (st' := [.long w17]) rfl (fun _ => rfl) ?_
              refine pw_ld E (pc' := 52) (st' := [.long k29_3, .long w17]) rfl (fun _ => rfl) ?_
              refine pw_lcmp E (pc' := 53) rfl rfl (fun c18 hc18 => ?_)
              refine pw_if E (pc' := 62) rfl (by decide) (by omega) (by omega) ?_ ?_
              · intro hc19
                change (0 : Int) ≤ c18 at hc19
                refine pw_inc E (pc' := 65) (ls' := [some (.ref 16), some (pw_i sd), some (pw_i k29_2), some (.long k29_3), none, some (pw_i (k29_5 + 1)), some (.long w17), none]) rfl rfl rfl rfl ?_
                refine pw_goto E (pc' := 29) rfl (by decide) ?_
                exact ih29 _ (by omega) (k29_2) (k29_3) (k29_5 + 1) (some (.long w17)) h15 h15I h15F (by omega) (by omega) (by omega) (by omega)  rfl
              · intro hc20
                change ¬ ((0 : Int) ≤ c18) at hc20
                refine pw_ld E (pc' := 58) (st' := [.long w17]) rfl (fun _ => rfl) ?_
                refine pw_lstn E (pc' := 59) (ls' := [some (.ref 16), some (pw_i sd), some (pw_i k29_2), some (.long w17), none, some (pw_i k29_5), some (.long w17), none]) rfl rfl rfl rfl ?_
                refine pw_ld E (pc' := 61) (st' := [pw_i k29_5]) rfl (fun _ => rfl) ?_
                refine pw_istn E (pc' := 62) (ls' := [some (.ref 16), some (pw_i sd), some (pw_i k29_5), some (.long w17), none, some (pw_i k29_5), some (.long w17), none]) rfl rfl rfl rfl ?_
                refine pw_inc E (pc' := 65) (ls' := [some (.ref 16), some (pw_i sd), some (pw_i k29_5), some (.long w17), none, some (pw_i (k29_5 + 1)), some (.long w17), none]) rfl rfl rfl rfl ?_
                refine pw_goto E (pc' := 29) rfl (by decide) ?_
                exact ih29 _ (by omega) (k29_5) (w17) (k29_5 + 1) (some (.long w17)) h15 h15I h15F (by omega) (by omega) (by omega) (by omega)  rfl
            · refine pw_aald (b := 83) I29 E (c := 37) (pc' := 43) rfl rfl (by decide) rfl (by decide) (by omega) (by omega) (by rw [hj13]; rfl) rfl ?_
              refine pw_ld E (pc' := 44) (st' := [pw_i sd, .ref 83, .ref 16]) rfl (fun _ => rfl) ?_
              obtain ⟨f21l, f21h, -⟩ := pw_obj (c := 0) I29 rfl
              refine pw_call (m' := 146) (As := [.ref 16, .ref 83, pw_i sd]) (rest := []) (ls'' := [some (.ref 16), some (.ref 83), some (pw_i sd), none, none, none, none]) (Nat.le_trans (by decide) hd) E rfl (fun _ => pw_iV rfl rfl rfl rfl (pw_cellI f21h rfl)) (rfl : pm_ent 146 = some (3, 7, 11, 2, pmc_146)) rfl rfl (cm_146 (pw_dp hd (by decide)) I29 67 (by unfold pw_Sc; omega) (sd) (by omega) (by omega)) ?_
              rintro h22 v23 ⟨h22I, h22E, w24, rfl⟩
              refine ⟨_, rfl, ?_⟩
              have h22F := E29.tr (h22E.wk (W' := [96, 98, 99, 44, 58, 72, 86]) (by first | rfl | simp))
              show pw X d h22 148 47 [some (.ref 16), some (pw_i sd), some (pw_i k29_2), some (.long k29_3), none, some (pw_i k29_5), k29_6, none] [.long w24] _
              refine pw_lst E (pc' := 49) (ls' := [some (.ref 16), some (pw_i sd), some (pw_i k29_2), some (.long k29_3), none, some (pw_i k29_5), some (.long w24), none]) rfl rfl rfl rfl ?_
              refine pw_ld E (pc' := 51) (st' := [.long w24]) rfl (fun _ => rfl) ?_
              refine pw_ld E (pc' := 52) (st' := [.long k29_3, .long w24]) rfl (fun _ => rfl) ?_
              refine pw_lcmp E (pc' := 53) rfl rfl (fun c25 hc25 => ?_)
              refine pw_if E (pc' := 62) rfl (by decide) (by omega) (by omega) ?_ ?_
              · intro hc26
                change (0 : Int) ≤ c25 at hc26
                refine pw_inc E (pc' := 65) (ls' := [some (.ref 16), some (pw_i sd), some (pw_i k29_2), some (.long k29_3), none, some (pw_i (k29_5 + 1)), some (.long w24), none]) rfl rfl rfl rfl ?_
                refine pw_goto E (pc' := 29) rfl (by decide) ?_
                exact ih29 _ (by omega) (k29_2) (k29_3) (k29_5 + 1) (some (.long w24)) h22 h22I h22F (by omega) (by omega) (by omega) (by omega)  rfl
              · intro hc27
                change ¬ ((0 : Int) ≤ c25) at hc27
                refine pw_ld E (pc' := 58) (st' := [.long w24]) rfl (fun _ => rfl) ?_
                refine pw_lstn E (pc' := 59) (ls' := [some (.ref 16), some (pw_i sd), some (pw_i k29_2), some (.long w24), none, some (pw_i k29_5), some (.long w24), none]) rfl rfl rfl rfl ?_
                refine pw_ld E (pc' := 61) (st' := [pw_i k29_5]) rfl (fun _ => rfl) ?_
                refine pw_istn E (pc' := 62) (ls' := [some (.ref 16), some (pw_i sd), some (pw_i k29_5), some (.long w24), none, some (pw_i k29_5), some (.long w24), none]) rfl rfl rfl rfl ?_
                refine pw_inc E (pc' := 65) (ls' := [some (.ref 16), some (pw_i sd), some (pw_i k29_5), some (.long w24), none, some (pw_i (k29_5 + 1)), some (.long w24), none]) rfl rfl rfl rfl ?_
                refine pw_goto E (pc' := 29) rfl (by decide) ?_
                exact ih29 _ (by omega) (k29_5) (w24) (k29_5 + 1) (some (.long w24)) h22 h22I h22F (by omega) (by omega) (by omega) (by omega)  rfl
            · refine pw_aald (b := 97) I29 E (c := 37) (pc' := 43) rfl rfl (by decide) rfl (by decide) (by omega) (by omega) (by rw [hj13]; rfl) rfl ?_
              refine pw_ld E (pc' := 44) (st' := [pw_i sd, .ref 97, .ref 16]) rfl (fun _ => rfl) ?_
              obtain ⟨f28l, f28h, -⟩ := pw_obj (c := 0) I29 rfl
              refine pw_call (m' := 146) (As := [.ref 16, .ref 97, pw_i sd]) (rest := []) (ls'' := [some (.ref 16), some (.ref 97), some (pw_i sd), none, none, none, none]) (Nat.le_trans (by decide) hd) E rfl (fun _ => pw_iV rfl rfl rfl rfl (pw_cellI f28h rfl)) (rfl : pm_ent 146 = some (3, 7, 11, 2, pmc_146)) rfl rfl (cm_146 (pw_dp hd (by decide)) I29 81 (by unfold pw_Sc; omega) (sd) (by omega) (by omega)) ?_
              rintro h29 v30 ⟨h29I, h29E, w31, rfl⟩
              refine ⟨_, rfl, ?_⟩
              have h29F := E29.tr (h29E.wk (W' := [96, 98, 99, 44, 58, 72, 86]) (by first | rfl | simp))
              show pw X d h29 148 47 [some (.ref 16), some (pw_i sd), some (pw_i k29_2), some (.long k29_3), none, some (pw_i k29_5), k29_6, none] [.long w31] _
              refine pw_lst E (pc' := 49) (ls' := [some (.ref 16), some (pw_i sd), some (pw_i k29_2), some (.long k29_3), none, some (pw_i k29_5), some (.long w31), none]) rfl rfl rfl rfl ?_
              refine pw_ld E (pc' := 51) (st' := [.long w31]) rfl (fun _ => rfl) ?_
              refine pw_ld E (pc' := 52) (st' := [.long k29_3, .long w31]) rfl (fun _ => rfl) ?_
              refine pw_lcmp E (pc' := 53) rfl rfl (fun c32 hc32 => ?_)
              refine pw_if E (pc' := 62) rfl (by decide) (by omega) (by omega) ?_ ?_
              · intro hc33
                change (0 : Int) ≤ c32 at hc33
                refine pw_inc E (pc' := 65) (ls' := [some (.ref 16), some (pw_i sd), some (pw_i k29_2), some (.long k29_3), none, some (pw_i (k29_5 + 1)), some (.long w31), none]) rfl rfl rfl rfl ?_
                refine pw_goto E (pc' := 29) rfl (by decide) ?_
                exact ih29 _ (by omega) (k29_2) (k29_3) (k29_5 + 1) (some (.long w31)) h29 h29I h29F (by omega) (by omega) (by omega) (by omega)  rfl
              · intro hc34
                change ¬ ((0 : Int) ≤ c32) at hc34
                refine pw_ld E (pc' := 58) (st' := [.long w31]) rfl (fun _ => rfl) ?_
                refine pw_lstn E (pc' := 59) (ls' := [some (.ref 16), some (pw_i sd), some (pw_i k29_2), some (.long w31), none, some (pw_i k29_5), some (.long w31), none]) rfl rfl rfl rfl ?_
                refine pw_ld E (pc' := 61) (st' := [pw_i k29_5]) rfl (fun _ => rfl) ?_
                refine pw_istn E (pc' := 62) (ls' := [some (.ref 16), some (pw_i sd), some (pw_i k29_5), some (.long w31), none, some (pw_i k29_5), some (.long w31), none]) rfl rfl rfl rfl ?_
                refine pw_inc E (pc' := 65) (ls' := [some (.ref 16), some (pw_i sd), some (pw_i k29_5), some (.long w31), none, some (pw_i (k29_5 + 1)), some (.long w31), none]) rfl rfl rfl rfl ?_
                refine pw_goto E (pc' := 29) rfl (by decide) ?_
                exact ih29 _ (by omega) (k29_5) (w31) (k29_5 + 1) (some (.long w31)) h29 h29I h29F (by omega) (by omega) (by omega) (by omega)  rfl
      exact L29 _ (0) (w10) (1) (none) h8 h8I h8F (by omega) (by omega) (by omega) (by omega)  rfl
    · intro hc35
      change ¬ (x3 ≠ (0 : Int)) at hc35
      exfalso; omega
  · skip
    refine pw_if E (pc' := 12) rfl (by decide) (by omega) (by omega) ?_ ?_
    · intro hc37
      change x3 ≠ (0 : Int) at hc37
      exfalso; omega
    · intro hc38
      change ¬ (x3 ≠ (0 : Int)) at hc38
      refine pw_ld E (pc' := 11) (st' := [pw_i ((-1))]) rfl (fun _ => rfl) ?_
      refine pw_iret E rfl ?_
      exact ⟨I, E0, ⟨_, rfl, by omega, by omega⟩⟩
set_option maxHeartbeats 4000000 in
theorem cm_149 {X : List (Nat × List Value)} {d : Nat} {h : pm_H} (hd : 7 ≤ d) (I : pw_I h) (la : Int) (hla1 : (-2147483648) ≤ la) (hla2 : la ≤ 2147483647) (sd : Int) (hsd1 : (-2147483648) ≤ sd) (hsd2 : sd ≤ 2147483647) (b : Int) (hb1 : (-2147483648) ≤ b) (hb2 : b ≤ 2147483647) (e : Int) (he1 : (-2147483648) ≤ e) (he2 : e ≤ 2147483647) (wt : Int) (hwt1 : (-2147483648) ≤ wt) (hwt2 : wt ≤ 2147483647) : pw X d h 149 0 [some (.ref 16), some (pw_i la), some (pw_i sd), some (pw_i b), some (pw_i e), some (pw_i wt), none, none] [] (fun h' v => pw_I h' ∧ pw_E [17, 18, 22, 96, 98, 99, 44, 58, 72, 86] h h' ∧ ∃ a : Int, v = .inl (some (pw_i a)) ∧ (-2147483648) ≤ a ∧ a ≤ 2147483647) := by
  have E : pm_ent 149 = some (6, 8, 11, 0, pmc_149) := rfl
  have E0 : pw_E [17, 18, 22, 96, 98, 99, 44, 58, 72, 86] h h := pw_E.rf _ _
  refine pw_ld E (pc' := 1) (st' := [pw_i la]) rfl (fun _ => rfl) ?_
  refine pw_call (m' := 142) (As := [pw_i la]) (rest := []) (ls'' := [some (pw_i la)]) (Nat.le_trans (by decide) hd) E rfl (fun _ => pw_iS rfl rfl rfl) (rfl : pm_ent 142 = some (1, 1, 11, 1, pmc_142)) rfl rfl (cm_142 (pw_dp hd (by decide)) I (la) (by omega) (by omega)) ?_
  rintro u2 v1 ⟨rfl, x3, rfl, hx3a, hx3b, hx3r⟩
  refine ⟨_, rfl, ?_⟩
  show pw X d h 149 4 [some (.ref 16), some (pw_i la), some (pw_i sd), some (pw_i b), some (pw_i e), some (pw_i wt), none, none] [pw_i x3] _
  change (x3 = 1 ∧ 0 ≤ la ∧ la ≤ 3) ∨ (x3 = 0 ∧ ¬ (0 ≤ la ∧ la ≤ 3)) at hx3r
  rcases (by omega : x3 = 1 ∨ x3 = 0) with hb4 | hb4
  · skip
    refine pw_if E (pc' := 36) rfl (by decide) (by omega) (by omega) ?_ ?_
    · intro hc5
      change x3 = (0 : Int) at hc5
      exfalso; omega
    · intro hc6
      change ¬ (x3 = (0 : Int)) at hc6
      refine pw_ld E (pc' := 8) (st' := [pw_i sd]) rfl (fun _ => rfl) ?_
      refine pw_ld E (pc' := 9) (st' := [pw_i 1, pw_i sd]) rfl (fun _ => rfl) ?_
      refine pw_bip E (pc' := 11) rfl rfl (by decide) ?_
      refine pw_call (m' := 121) (As := [pw_i sd, pw_i 1, pw_i 20]) (rest := []) (ls'' := [some (pw_i sd), some (pw_i 1), some (pw_i 20)]) (Nat.le_trans (by decide) hd) E rfl (fun _ => pw_iS rfl rfl rfl) (rfl : pm_ent 121 = some (3, 3, 11, 1, pmc_121)) rfl rfl (cm_121 (pw_dp hd (by decide)) I (sd) (by omega) (by omega) (1) (by omega) (by omega) (20) (by omega) (by omega)) ?_
      rintro u8 v7 ⟨rfl, x9, rfl, hx9a, hx9b, hx9r⟩
      refine ⟨_, rfl, ?_⟩
      show pw X d h 149 14 [some (.ref 16), some (pw_i la), some (pw_i sd), some (pw_i b), some (pw_i e), some (pw_i wt), none, none] [pw_i x9] _
      change (x9 = 1 ∧ 1 ≤ sd ∧ sd ≤ 20) ∨ (x9 = 0 ∧ ¬ (1 ≤ sd ∧ sd ≤ 20)) at hx9r
      rcases (by omega : x9 = 1 ∨ x9 = 0) with hb10 | hb10
      · skip
        refine pw_if E (pc' := 36) rfl (by decide) (by omega) (by omega) ?_ ?_
        · intro hc11
          change x9 = (0 : Int) at hc11
          exfalso; omega
        · intro hc12
          change ¬ (x9 = (0 : Int)) at hc12
          refine pw_ld E (pc' := 18) (st' := [pw_i b]) rfl (fun _ => rfl) ?_
          refine pw_ld E (pc' := 20) (st' := [pw_i e, pw_i b]) rfl (fun _ => rfl) ?_
          refine pw_call (m' := 131) (As := [pw_i b, pw_i e]) (rest := []) (ls'' := [some (pw_i b), some (pw_i e)]) (Nat.le_trans (by decide) hd) E rfl (fun _ => pw_iS rfl rfl rfl) (rfl : pm_ent 131 = some (2, 2, 11, 1, pmc_131)) rfl rfl (cm_131 (pw_dp hd (by decide)) I (b) (by omega) (by omega) (e) (by omega) (by omega)) ?_
          rintro u14 v13 ⟨rfl, x15, rfl, hx15a, hx15b, hx15r⟩
          refine ⟨_, rfl, ?_⟩
          show pw X d h 149 23 [some (.ref 16), some (pw_i la), some (pw_i sd), some (pw_i b), some (pw_i e), some (pw_i wt), none, none] [pw_i x15] _
          change (x15 = 1 ∧ 0 ≤ b ∧ b ≤ 11 ∧ 0 ≤ e ∧ e ≤ 11) ∨ x15 = 0 at hx15r
          rcases (by omega : x15 = 1 ∨ x15 = 0) with hb16 | hb16
          · skip
            refine pw_if E (pc' := 36) rfl (by decide) (by omega) (by omega) ?_ ?_
            · intro hc17
              change x15 = (0 : Int) at hc17
              exfalso; omega
            · intro hc18
              change ¬ (x15 = (0 : Int)) at hc18
              refine pw_ld E (pc' := 28) (st' := [pw_i wt]) rfl (fun _ => rfl) ?_
              refine pw_ld E (pc' := 29) (st' := [pw_i 0, pw_i wt]) rfl (fun _ => rfl) ?_
              refine pw_ld E (pc' := 30) (st' := [pw_i 2, pw_i 0, pw_i wt]) rfl (fun _ => rfl) ?_
              refine pw_call (m' := 121) (As := [pw_i wt, pw_i 0, pw_i 2]) (rest := []) (ls'' := [some (pw_i wt), some (pw_i 0), some (pw_i 2)]) (Nat.le_trans (by decide) hd) E rfl (fun _ => pw_iS rfl rfl rfl) (rfl : pm_ent 121 = some (3, 3, 11, 1, pmc_121)) rfl rfl (cm_121 (pw_dp hd (by decide)) I (wt) (by omega) (by omega) (0) (by omega) (by omega) (2) (by omega) (by omega)) ?_
              rintro u20 v19 ⟨rfl, x21, rfl, hx21a, hx21b, hx21r⟩
              refine ⟨_, rfl, ?_⟩
              show pw X d h 149 33 [some (.ref 16), some (pw_i la), some (pw_i sd), some (pw_i b), some (pw_i e), some (pw_i wt), none, none] [pw_i x21] _
              change (x21 = 1 ∧ 0 ≤ wt ∧ wt ≤ 2) ∨ (x21 = 0 ∧ ¬ (0 ≤ wt ∧ wt ≤ 2)) at hx21r
              rcases (by omega : x21 = 1 ∨ x21 = 0) with hb22 | hb22
              · skip
                refine pw_if E (pc' := 38) rfl (by decide) (by omega) (by omega) ?_ ?_
                · intro hc23
                  change x21 ≠ (0 : Int) at hc23
                  refine pw_ld E (pc' := 39) (st' := [.ref 16]) rfl (fun _ => rfl) ?_
                  refine pw_ld E (pc' := 40) (st' := [pw_i b, .ref 16]) rfl (fun _ => rfl) ?_
                  refine pw_ld E (pc' := 42) (st' := [pw_i e, pw_i b, .ref 16]) rfl (fun _ => rfl) ?_
                  obtain ⟨f24l, f24h, -⟩ := pw_obj (c := 0) I rfl
                  refine pw_call (m' := 138) (As := [.ref 16, pw_i b, pw_i e]) (rest := []) (ls'' := [some (.ref 16), some (pw_i b), some (pw_i e), none]) (Nat.le_trans (by decide) hd) E rfl (fun _ => pw_iV rfl rfl rfl rfl (pw_cellI f24h rfl)) (rfl : pm_ent 138 = some (3, 4, 11, 4, pmc_138)) rfl rfl (cm_138 (pw_dp hd (by decide)) I (b) (by omega) (by omega) (e) (by omega) (by omega)) ?_
                  rintro h25 v26 ⟨h25I, h25E, rfl⟩
                  refine ⟨_, rfl, ?_⟩
                  have h25F := E0.tr (h25E.wk (W' := [17, 18, 22, 96, 98, 99, 44, 58, 72, 86]) (by first | rfl | simp))
                  show pw X d h25 149 45 [some (.ref 16), some (pw_i la), some (pw_i sd), some (pw_i b), some (pw_i e), some (pw_i wt), none, none] [] _
                  refine pw_ld E (pc' := 46) (st' := [.ref 16]) rfl (fun _ => rfl) ?_
                  refine pw_getR (b := 32) h25I E (c := 0) (k := 7) (pc' := 49) rfl rfl rfl rfl rfl rfl rfl ?_
                  obtain ⟨f27l, f27h, -⟩ := pw_obj (c := 16) h25I rfl
                  refine pw_call (m' := 86) (As := [.ref 32]) (rest := []) (ls'' := [some (.ref 32)]) (Nat.le_trans (by decide) hd) E rfl (fun _ => pw_iV rfl rfl rfl rfl (pw_cellI f27h rfl)) (rfl : pm_ent 86 = some (1, 1, 8, 1, pmc_86)) rfl rfl (cm_86 (pw_dp hd (by decide)) h25I ) ?_
                  rintro u29 v28 ⟨rfl, x30, rfl, hx30a, hx30b⟩
                  refine ⟨_, rfl, ?_⟩
                  show pw X d h25 149 52 [some (.ref 16), some (pw_i la), some (pw_i sd), some (pw_i b), some (pw_i e), some (pw_i wt), none, none] [pw_i x30] _
                  refine pw_if E (pc' := 57) rfl (by decide) (by omega) (by omega) ?_ ?_
                  · intro hc31
                    change x30 = (0 : Int) at hc31
                    refine pw_ld E (pc' := 58) (st' := [pw_i 0]) rfl (fun _ => rfl) ?_
                    refine pw_ist E (pc' := 60) (ls' := [some (.ref 16), some (pw_i la), some (pw_i sd), some (pw_i b), some (pw_i e), some (pw_i wt), some (pw_i 0), none]) rfl rfl rfl rfl ?_
                    refine pw_ld E (pc' := 61) (st' := [pw_i 0]) rfl (fun _ => rfl) ?_
                    refine pw_ist E (pc' := 63) (ls' := [some (.ref 16), some (pw_i la), some (pw_i sd), some (pw_i b), some (pw_i e), some (pw_i wt), some (pw_i 0), some (pw_i 0)]) rfl rfl rfl rfl ?_
                    have L63 : ∀ (n63 : Nat) (k63_6 : Int) (k63_7 : Int) (h63 : pm_H), pw_I h63 → pw_E [17, 18, 22, 96, 98, 99, 44, 58, 72, 86] h h63 → 0 ≤ k63_6 → k63_6 ≤ 20 → 0 ≤ k63_7 → k63_7 ≤ 20 → k63_6 + 0 ≤ k63_7 + 0 → (20 - k63_7).toNat = n63 → pw X d h63 149 63 [some (.ref 16), some (pw_i la), some (pw_i sd), some (pw_i b), some (pw_i e), some (pw_i wt), some (pw_i k63_6), some (pw_i k63_7)] [] (fun h' v => pw_I h' ∧ pw_E [17, 18, 22, 96, 98, 99, 44, 58, 72, 86] h h' ∧ ∃ a : Int, v = .inl (some (pw_i a)) ∧ (-2147483648) ≤ a ∧ a ≤ 2147483647) := by
                      intro n63
                      induction n63 using Nat.strongRecOn with
                      | ind n63 ih63 =>
                        intro k63_6 k63_7 h63 I63 E63 k63_6a k63_6b k63_7a k63_7b hx63_0 hm63
                        refine pw_ld E (pc' := 65) (st' := [pw_i k63_7]) rfl (fun _ => rfl) ?_
                        refine pw_ld E (pc' := 66) (st' := [pw_i sd, pw_i k63_7]) rfl (fun _ => rfl) ?_
                        refine pw_if2 E (pc' := 134) rfl (by decide) (by omega) (by omega) (by omega) (by omega) ?_ ?_
                        · intro hc32
                          change sd ≤ k63_7 at hc32
                          refine pw_ld E (pc' := 136) (st' := [pw_i k63_6]) rfl (fun _ => rfl) ?_
                          refine pw_iret E rfl ?_
                          exact ⟨I63, E63, ⟨_, rfl, by omega, by omega⟩⟩
                        · intro hc33
                          change ¬ (sd ≤ k63_7) at hc33
                          refine pw_ld E (pc' := 70) (st' := [.ref 16]) rfl (fun _ => rfl) ?_
                          refine pw_getR (b := 112) I63 E (c := 0) (k := 17) (pc' := 73) rfl rfl rfl rfl rfl rfl rfl ?_
                          refine pw_ld E (pc' := 74) (st' := [.ref 16, .ref 112]) rfl (fun _ => rfl) ?_
                          refine pw_getR (b := 53) I63 E (c := 0) (k := 14) (pc' := 77) rfl rfl rfl rfl rfl rfl rfl ?_
                          refine pw_ld E (pc' := 78) (st' := [pw_i la, .ref 53, .ref 112]) rfl (fun _ => rfl) ?_
                          rcases (by omega : la = 0 ∨ la = 1 ∨ la = 2 ∨ la = 3) with hj34 | hj34 | hj34 | hj34
                          · refine pw_aald (b := 55) I63 E (c := 37) (pc' := 79) rfl rfl (by decide) rfl (by decide) (by omega) (by omega) (by rw [hj34]; rfl) rfl ?_
                            refine pw_ld E (pc' := 81) (st' := [pw_i k63_7, .ref 55, .ref 112]) rfl (fun _ => rfl) ?_
                            refine pw_ld E (pc' := 82) (st' := [pw_i b, pw_i k63_7, .ref 55, .ref 112]) rfl (fun _ => rfl) ?_
                            refine pw_ld E (pc' := 84) (st' := [pw_i e, pw_i b, pw_i k63_7, .ref 55, .ref 112]) rfl (fun _ => rfl) ?_
                            refine pw_max E rfl rfl (by omega) (by omega) (by omega) (by omega) rfl ?_
                            obtain ⟨f35l, f35h, -⟩ := pw_obj (c := 96) I63 rfl
                            refine pw_call (m' := 113) (As := [.ref 112, .ref 55, pw_i k63_7, pw_i (max b e)]) (rest := []) (ls'' := [some (.ref 112), some (.ref 55), some (pw_i k63_7), some (pw_i (max b e)), none, none]) (Nat.le_trans (by decide) hd) E rfl (fun _ => pw_iV rfl rfl rfl rfl (pw_cellI f35h rfl)) (rfl : pm_ent 113 = some (4, 6, 10, 4, pmc_113)) rfl rfl (cm_113 (pw_dp hd (by decide)) I63 39 (by unfold pw_Sc; omega) (k63_7) (by omega) (by omega) (max b e) (by omega) (by omega)) ?_
                            rintro h36 v37 ⟨h36I, h36E, rfl⟩
                            refine ⟨_, rfl, ?_⟩
                            have h36F := E63.tr (h36E.wk (W' := [17, 18, 22, 96, 98, 99, 44, 58, 72, 86]) (by first | rfl | simp))
                            show pw X d h36 149 90 [some (.ref 16), some (pw_i la), some (pw_i sd), some (pw_i b), some (pw_i e), some (pw_i wt), some (pw_i k63_6), some (pw_i k63_7)] [] _
                            refine pw_ld E (pc' := 91) (st' := [.ref 16]) rfl (fun _ => rfl) ?_
                            refine pw_ld E (pc' := 92) (st' := [pw_i b, .ref 16]) rfl (fun _ => rfl) ?_
                            refine pw_ld E (pc' := 94) (st' := [pw_i e, pw_i b, .ref 16]) rfl (fun _ => rfl) ?_
                            obtain ⟨f38l, f38h, -⟩ := pw_obj (c := 0) h36I rfl
                            refine pw_call (m' := 150) (As := [.ref 16, pw_i b, pw_i e]) (rest := []) (ls'' := [some (.ref 16), some (pw_i b), some (pw_i e), none]) (Nat.le_trans (by decide) hd) E rfl (fun _ => pw_iV rfl rfl rfl rfl (pw_cellI f38h rfl)) (rfl : pm_ent 150 = some (3, 4, 11, 4, pmc_150)) rfl rfl (cm_150 (pw_dp hd (by decide)) h36I (b) (by omega) (by omega) (e) (by omega) (by omega)) ?_
                            rintro h39 v40 ⟨h39I, h39E, rfl⟩
                            refine ⟨_, rfl, ?_⟩
                            have h39F := h36F.tr (h39E.wk (W' := [17, 18, 22, 96, 98, 99, 44, 58, 72, 86]) (by first | rfl | simp))
                            show pw X d h39 149 97 [some (.ref 16), some (pw_i la), some (pw_i sd), some (pw_i b), some (pw_i e), some (pw_i wt), some (pw_i k63_6), some (pw_i k63_7)] [] _
                            refine pw_ld E (pc' := 98) (st' := [.ref 16]) rfl (fun _ => rfl) ?_
                            refine pw_getR (b := 32) h39I E (c := 0) (k := 7) (pc' := 101) rfl rfl rfl rfl rfl rfl rfl ?_
                            refine pw_ld E (pc' := 102) (st' := [.ref 16, .ref 32]) rfl (fun _ => rfl) ?_
                            refine pw_getR (b := 38) h39I E (c := 0) (k := 8) (pc' := 105) rfl rfl rfl rfl rfl rfl rfl ?_
                            obtain ⟨f41l, f41h, -⟩ := pw_obj (c := 16) h39I rfl
                            refine pw_call (m' := 83) (As := [.ref 32, .ref 38]) (rest := []) (ls'' := [some (.ref 32), some (.ref 38), none, none, none, none]) (Nat.le_trans (by decide) hd) E rfl (fun _ => pw_iV rfl rfl rfl rfl (pw_cellI f41h rfl)) (rfl : pm_ent 83 = some (2, 6, 8, 1, pmc_83)) rfl rfl (cm_83 (pw_dp hd (by decide)) h39I 22 (by unfold pw_Fr; omega)) ?_
                            rintro h42 v43 ⟨h42I, h42E, x44, rfl, hx44a, hx44b⟩
                            refine ⟨_, rfl, ?_⟩
                            have h42F := h39F.tr (h42E.wk (W' := [17, 18, 22, 96, 98, 99, 44, 58, 72, 86]) (by first | rfl | simp))
                            show pw X d h42 149 108 [some (.ref 16), some (pw_i la), some (pw_i sd), some (pw_i b), some (pw_i e), some (pw_i wt), some (pw_i k63_6), some (pw_i k63_7)] [pw_i x44] _
                            refine pw_if E (pc' := 128) rfl (by decide) (by omega) (by omega) ?_ ?_
                            · intro hc45
                              change x44 = (0 : Int) at hc45
                              refine pw_inc E (pc' := 131) (ls' := [some (.ref 16), some (pw_i la), some (pw_i sd), some (pw_i b), some (pw_i e), some (pw_i wt), some (pw_i k63_6), some (pw_i (k63_7 + 1))]) rfl rfl rfl rfl ?_
                              refine pw_goto E (pc' := 63) rfl (by decide) ?_
                              exact ih63 _ (by omega) (k63_6) (k63_7 + 1) h42 h42I h42F (by omega) (by omega) (by omega) (by omega) (by omega) rfl
                            · intro hc46
                              change ¬ (x44 = (0 : Int)) at hc46
                              refine pw_ld E (pc' := 112) (st' := [.ref 16]) rfl (fun _ => rfl) ?_
                              refine pw_getR (b := 38) h42I E (c := 0) (k := 8) (pc' := 115) rfl rfl rfl rfl rfl rfl rfl ?_
                              obtain ⟨f47l, f47h, -⟩ := pw_obj (c := 22) h42I rfl
                              refine pw_call (m' := 8) (As := [.ref 38]) (rest := []) (ls'' := [some (.ref 38)]) (Nat.le_trans (by decide) hd) E rfl (fun _ => pw_iV rfl rfl rfl rfl (pw_cellI f47h rfl)) (rfl : pm_ent 8 = some (1, 1, 1, 0, pmc_8)) rfl rfl (cm_8 (pw_dp hd (by decide)) h42I 22 (by unfold pw_Fr; omega)) ?_
                              rintro u49 v48 ⟨rfl, x50, rfl, hx50a, hx50b⟩
                              refine ⟨_, rfl, ?_⟩
                              show pw X d h42 149 118 [some (.ref 16), some (pw_i la), some (pw_i sd), some (pw_i b), some (pw_i e), some (pw_i wt), some (pw_i k63_6), some (pw_i k63_7)] [pw_i x50] _
                              refine pw_ld E (pc' := 120) (st' := [pw_i wt, pw_i x50]) rfl (fun _ => rfl) ?_
                              refine pw_ld E (pc' := 121) (st' := [pw_i 1, pw_i wt, pw_i x50]) rfl (fun _ => rfl) ?_
                              refine pw_sub E (pc' := 122) rfl rfl ?_
                              refine pw_if2 E (pc' := 128) rfl (by decide) (by omega) (by omega) (by omega) (by omega) ?_ ?_
                              · intro hc51
                                change x50 ≠ wt - 1 at hc51
                                refine pw_inc E (pc' := 131) (ls' := [some (.ref 16), some (pw_i la), some (pw_i sd), some (pw_i b), some (pw_i e), some (pw_i wt), some (pw_i k63_6), some (pw_i (k63_7 + 1))]) rfl rfl rfl rfl ?_
                                refine pw_goto E (pc' := 63) rfl (by decide) ?_
                                exact ih63 _ (by omega) (k63_6) (k63_7 + 1) h42 h42I h42F (by omega) (by omega) (by omega) (by omega) (by omega) rfl
                              · intro hc52
                                change ¬ (x50 ≠ wt - 1) at hc52
                                refine pw_inc E (pc' := 128) (ls' := [some (.ref 16), some (pw_i la), some (pw_i sd), some (pw_i b), some (pw_i e), some (pw_i wt), some (pw_i (k63_6 + 1)), some (pw_i k63_7)]) rfl rfl rfl rfl ?_
                                refine pw_inc E (pc' := 131) (ls' := [some (.ref 16), some (pw_i la), some (pw_i sd), some (pw_i b), some (pw_i e), some (pw_i wt), some (pw_i (k63_6 + 1)), some (pw_i (k63_7 + 1))]) rfl rfl rfl rfl ?_
                                refine pw_goto E (pc' := 63) rfl (by decide) ?_
                                exact ih63 _ (by omega) (k63_6 + 1) (k63_7 + 1) h42 h42I h42F (by omega) (by omega) (by omega) (by omega) (by omega) rfl
                          · refine pw_aald (b := 69) I63 E (c := 37) (pc' := 79) rfl rfl (by decide) rfl (by decide) (by omega) (by omega) (by rw [hj34]; rfl) rfl ?_
                            refine pw_ld E (pc' := 81) (st' := [pw_i k63_7, .ref 69, .ref 112]) rfl (fun _ => rfl) ?_
                            refine pw_ld E (pc' := 82) (st' := [pw_i b, pw_i k63_7, .ref 69, .ref 112]) rfl (fun _ => rfl) ?_
                            refine pw_ld E (pc' := 84) (st' := [pw_i e, pw_i b, pw_i k63_7, .ref 69, .ref 112]) rfl (fun _ => rfl) ?_
                            refine pw_max E rfl rfl (by omega) (by omega) (by omega) (by omega) rfl ?_
                            obtain ⟨f53l, f53h, -⟩ := pw_obj (c := 96) I63 rfl
                            refine pw_call (m' := 113) (As := [.ref 112, .ref 69, pw_i k63_7, pw_i (max b e)]) (rest := []) (ls'' := [some (.ref 112), some (.ref 69), some (pw_i k63_7), some (pw_i (max b e)), none, none]) (Nat.le_trans (by decide) hd) E rfl (fun _ => pw_iV rfl rfl rfl rfl (pw_cellI f53h rfl)) (rfl : pm_ent 113 = some (4, 6, 10, 4, pmc_113)) rfl rfl (cm_113 (pw_dp hd (by decide)) I63 53 (by unfold pw_Sc; omega) (k63_7) (by omega) (by omega) (max b e) (by omega) (by omega)) ?_
                            rintro h54 v55 ⟨h54I, h54E, rfl⟩
                            refine ⟨_, rfl, ?_⟩
                            have h54F := E63.tr (h54E.wk (W' := [17, 18, 22, 96, 98, 99, 44, 58, 72, 86]) (by first | rfl | simp))
                            show pw X d h54 149 90 [some (.ref 16), some (pw_i la), some (pw_i sd), some (pw_i b), some (pw_i e), some (pw_i wt), some (pw_i k63_6), some (pw_i k63_7)] [] _
                            refine pw_ld E (pc' := 91) (st' := [.ref 16]) rfl (fun _ => rfl) ?_
                            refine pw_ld E (pc' := 92) (st' := [pw_i b, .ref 16]) rfl (fun _ => rfl) ?_
                            refine pw_ld E (pc' := 94) (st' := [pw_i e, pw_i b, .ref 16]) rfl (fun _ => rfl) ?_
                            obtain ⟨f56l, f56h, -⟩ := pw_obj (c := 0) h54I rfl
                            refine pw_call (m' := 150) (As := [.ref 16, pw_i b, pw_i e]) (rest := []) (ls'' := [some (.ref 16), some (pw_i b), some (pw_i e), none]) (Nat.le_trans (by decide) hd) E rfl (fun _ => pw_iV rfl rfl rfl rfl (pw_cellI f56h rfl)) (rfl : pm_ent 150 = some (3, 4, 11, 4, pmc_150)) rfl rfl (cm_150 (pw_dp hd (by decide)) h54I (b) (by omega) (by omega) (e) (by omega) (by omega)) ?_
                            rintro h57 v58 ⟨h57I, h57E, rfl⟩
                            refine ⟨_, rfl, ?_⟩
                            have h57F := h54F.tr (h57E.wk (W' := [17, 18, 22, 96, 98, 99, 44, 58, 72, 86]) (by first | rfl | simp))
                            show pw X d h57 149 97 [some (.ref 16), some (pw_i la), some (pw_i sd), some (pw_i b), some (pw_i e), some (pw_i wt), some (pw_i k63_6), some (pw_i k63_7)] [] _
                            refine pw_ld E (pc' := 98) (st' := [.ref 16]) rfl (fun _ => rfl) ?_
                            refine pw_getR (b := 32) h57I E (c := 0) (k := 7) (pc' := 101) rfl rfl rfl rfl rfl rfl rfl ?_
                            refine pw_ld E (pc' := 102) (st' := [.ref 16, .ref 32]) rfl (fun _ => rfl) ?_
                            refine pw_getR (b := 38) h57I E (c := 0) (k := 8) (pc' := 105) rfl rfl rfl rfl rfl rfl rfl ?_
                            obtain ⟨f59l, f59h, -⟩ := pw_obj (c := 16) h57I rfl
                            refine pw_call (m' := 83) (As := [.ref 32, .ref 38]) (rest := []) (ls'' := [some (.ref 32), some (.ref 38), none, none, none, none]) (Nat.le_trans (by decide) hd) E rfl (fun _ => pw_iV rfl rfl rfl rfl (pw_cellI f59h rfl)) (rfl : pm_ent 83 = some (2, 6, 8, 1, pmc_83)) rfl rfl (cm_83 (pw_dp hd (by decide)) h57I 22 (by unfold pw_Fr; omega)) ?_
                            rintro h60 v61 ⟨h60I, h60E, x62, rfl, hx62a, hx62b⟩
                            refine ⟨_, rfl, ?_⟩
                            have h60F := h57F.tr (h60E.wk (W' := [17, 18, 22, 96, 98, 99, 44, 58, 72, 86]) (by first | rfl | simp))
                            show pw X d h60 149 108 [some (.ref 16), some (pw_i la), some (pw_i sd), some (pw_i b), some (pw_i e), some (pw_i wt), some (pw_i k63_6), some (pw_i k63_7)] [pw_i x62] _
                            refine pw_if E (pc' := 128) rfl (by decide) (by omega) (by omega) ?_ ?_
                            · intro hc63
                              change x62 = (0 : Int) at hc63
                              refine pw_inc E (pc' := 131) (ls' := [some (.ref 16), some (pw_i la), some (pw_i sd), some (pw_i b), some (pw_i e), some (pw_i wt), some (pw_i k63_6), some (pw_i (k63_7 + 1))]) rfl rfl rfl rfl ?_
                              refine pw_goto E (pc' := 63) rfl (by decide) ?_
                              exact ih63 _ (by omega) (k63_6) (k63_7 + 1) h60 h60I h60F (by omega) (by omega) (by omega) (by omega) (by omega) rfl
                            · intro hc64
                              change ¬ (x62 = (0 : Int)) at hc64
                              refine pw_ld E (pc' := 112) (st' := [.ref 16]) rfl (fun _ => rfl) ?_
                              refine pw_getR (b := 38) h60I E (c := 0) (k := 8) (pc' := 115) rfl rfl rfl rfl rfl rfl rfl ?_
                              obtain ⟨f65l, f65h, -⟩ := pw_obj (c := 22) h60I rfl
                              refine pw_call (m' := 8) (As := [.ref 38]) (rest := []) (ls'' := [some (.ref 38)]) (Nat.le_trans (by decide) hd) E rfl (fun _ => pw_iV rfl rfl rfl rfl (pw_cellI f65h rfl)) (rfl : pm_ent 8 = some (1, 1, 1, 0, pmc_8)) rfl rfl (cm_8 (pw_dp hd (by decide)) h60I 22 (by unfold pw_Fr; omega)) ?_
                              rintro u67 v66 ⟨rfl, x68, rfl, hx68a, hx68b⟩
                              refine ⟨_, rfl, ?_⟩
                              show pw X d h60 149 118 [some (.ref 16), some (pw_i la), some (pw_i sd), some (pw_i b), some (pw_i e), some (pw_i wt), some (pw_i k63_6), some (pw_i k63_7)] [pw_i x68] _
                              refine pw_ld E (pc' := 120) (st' := [pw_i wt, pw_i x68]) rfl (fun _ => rfl) ?_
                              refine pw_ld E (pc' := 121) (st' := [pw_i 1, pw_i wt, pw_i x68]) rfl (fun _ => rfl) ?_
                              refine pw_sub E (pc' := 122) rfl rfl ?_
                              refine pw_if2 E (pc' := 128) rfl (by decide) (by omega) (by omega) (by omega) (by omega) ?_ ?_
                              · intro hc69
                                change x68 ≠ wt - 1 at hc69
                                refine pw_inc E (pc' := 131) (ls' := [some (.ref 16), some (pw_i la), some (pw_i sd), some (pw_i b), some (pw_i e), some (pw_i wt), some (pw_i k63_6), some (pw_i (k63_7 + 1))]) rfl rfl rfl rfl ?_
                                refine pw_goto E (pc' := 63) rfl (by decide) ?_
                                exact ih63 _ (by omega) (k63_6) (k63_7 + 1) h60 h60I h60F (by omega) (by omega) (by omega) (by omega) (by omega) rfl
                              · intro hc70
                                change ¬ (x68 ≠ wt - 1) at hc70
                                refine pw_inc E (pc' := 128) (ls' := [some (.ref 16), some (pw_i la), some (pw_i sd), some (pw_i b), some (pw_i e), some (pw_i wt), some (pw_i (k63_6 + 1)), some (pw_i k63_7)]) rfl rfl rfl rfl ?_
                                refine pw_inc E (pc' := 131) (ls' := [some (.ref 16), some (pw_i la), some (pw_i sd), some (pw_i b), some (pw_i e), some (pw_i wt), some (pw_i (k63_6 + 1)), some (pw_i (k63_7 + 1))]) rfl rfl rfl rfl ?_
                                refine pw_goto E (pc' := 63) rfl (by decide) ?_
                                exact ih63 _ (by omega) (k63_6 + 1) (k63_7 + 1) h60 h60I h60F (by omega) (by omega) (by omega) (by omega) (by omega) rfl
                          · refine pw_aald (b := 83) I63 E (c := 37) (pc' := 79) rfl rfl (by decide) rfl (by decide) (by omega) (by omega) (by rw [hj34]; rfl) rfl ?_
                            refine pw_ld E (pc' := 81) (st' := [pw_i k63_7, .ref 83, .ref 112]) rfl (fun _ => rfl) ?_
                            refine pw_ld E (pc' := 82) (st' := [pw_i b, pw_i k63_7, .ref 83, .ref 112]) rfl (fun _ => rfl) ?_
                            refine pw_ld E (pc' := 84) (st' := [pw_i e, pw_i b, pw_i k63_7, .ref 83, .ref 112]) rfl (fun _ => rfl) ?_
                            refine pw_max E rfl rfl (by omega) (by omega) (by omega) (by omega) rfl ?_
                            obtain ⟨f71l, f71h, -⟩ := pw_obj (c := 96) I63 rfl
                            refine pw_call (m' := 113) (As := [.ref 112, .ref 83, pw_i k63_7, pw_i (max b e)]) (rest := []) (ls'' := [some (.ref 112), some (.ref 83), some (pw_i k63_7), some (pw_i (max b e)), none, none]) (Nat.le_trans (by decide) hd) E rfl (fun _ => pw_iV rfl rfl rfl rfl (pw_cellI f71h rfl)) (rfl : pm_ent 113 = some (4, 6, 10, 4, pmc_113)) rfl rfl (cm_113 (pw_dp hd (by decide)) I63 67 (by unfold pw_Sc; omega) (k63_7) (by omega) (by omega) (max b e) (by omega) (by omega)) ?_
                            rintro h72 v73 ⟨h72I, h72E, rfl⟩
                            refine ⟨_, rfl, ?_⟩
                            have h72F := E63.tr (h72E.wk (W' := [17, 18, 22, 96, 98, 99, 44, 58, 72, 86]) (by first | rfl | simp))
                            show pw X d h72 149 90 [some (.ref 16), some (pw_i la), some (pw_i sd), some (pw_i b), some (pw_i e), some (pw_i wt), some (pw_i k63_6), some (pw_i k63_7)] [] _
                            refine pw_ld E (pc' := 91) (st' := [.ref 16]) rfl (fun _ => rfl) ?_
                            refine pw_ld E (pc' := 92) (st' := [pw_i b, .ref 16]) rfl (fun _ => rfl) ?_
                            refine pw_ld E (pc' := 94) (st' := [pw_i e, pw_i b, .ref 16]) rfl (fun _ => rfl) ?_
                            obtain ⟨f74l, f74h, -⟩ := pw_obj (c := 0) h72I rfl
                            refine pw_call (m' := 150) (As := [.ref 16, pw_i b, pw_i e]) (rest := []) (ls'' := [some (.ref 16), some (pw_i b), some (pw_i e), none]) (Nat.le_trans (by decide) hd) E rfl (fun _ => pw_iV rfl rfl rfl rfl (pw_cellI f74h rfl)) (rfl : pm_ent 150 = some (3, 4, 11, 4, pmc_150)) rfl rfl (cm_150 (pw_dp hd (by decide)) h72I (b) (by omega) (by omega) (e) (by omega) (by omega)) ?_
                            rintro h75 v76 ⟨h75I, h75E, rfl⟩
                            refine ⟨_, rfl, ?_⟩
                            have h75F := h72F.tr (h75E.wk (W' := [17, 18, 22, 96, 98, 99, 44, 58, 72, 86]) (by first | rfl | simp))
                            show pw X d h75 149 97 [some (.ref 16), some (pw_i la), some (pw_i sd), some (pw_i b), some (pw_i e), some (pw_i wt), some (pw_i k63_6), some (pw_i k63_7)] [] _
                            refine pw_ld E (pc' := 98) (st' := [.ref 16]) rfl (fun _ => rfl) ?_
                            refine pw_getR (b := 32) h75I E (c := 0) (k := 7) (pc' := 101) rfl rfl rfl rfl rfl rfl rfl ?_
                            refine pw_ld E (pc' := 102) (st' := [.ref 16, .ref 32]) rfl (fun _ => rfl) ?_
                            refine pw_getR (b := 38) h75I E (c := 0) (k := 8) (pc' := 105) rfl rfl rfl rfl rfl rfl rfl ?_
                            obtain ⟨f77l, f77h, -⟩ := pw_obj (c := 16) h75I rfl
                            refine pw_call (m' := 83) (As := [.ref 32, .ref 38]) (rest := []) (ls'' := [some (.ref 32), some (.ref 38), none, none, none, none]) (Nat.le_trans (by decide) hd) E rfl (fun _ => pw_iV rfl rfl rfl rfl (pw_cellI f77h rfl)) (rfl : pm_ent 83 = some (2, 6, 8, 1, pmc_83)) rfl rfl (cm_83 (pw_dp hd (by decide)) h75I 22 (by unfold pw_Fr; omega)) ?_
                            rintro h78 v79 ⟨h78I, h78E, x80, rfl, hx80a, hx80b⟩
                            refine ⟨_, rfl, ?_⟩
                            have h78F := h75F.tr (h78E.wk (W' := [17, 18, 22, 96, 98, 99, 44, 58, 72, 86]) (by first | rfl | simp))
                            show pw X d h78 149 108 [some (.ref 16), some (pw_i la), some (pw_i sd), some (pw_i b), some (pw_i e), some (pw_i wt), some (pw_i k63_6), some (pw_i k63_7)] [pw_i x80] _
                            refine pw_if E (pc' := 128) rfl (by decide) (by omega) (by omega) ?_ ?_
                            · intro hc81
                              change x80 = (0 : Int) at hc81
                              refine pw_inc E (pc' := 131) (ls' := [some (.ref 16), some (pw_i la), some (pw_i sd), some (pw_i b), some (pw_i e), some (pw_i wt), some (pw_i k63_6), some (pw_i (k63_7 + 1))]) rfl rfl rfl rfl ?_
                              refine pw_goto E (pc' := 63) rfl (by decide) ?_
                              exact ih63 _ (by omega) (k63_6) (k63_7 + 1) h78 h78I h78F (by omega) (by omega) (by omega) (by omega) (by omega) rfl
                            · intro hc82
                              change ¬ (x80 = (0 : Int)) at hc82
                              refine pw_ld E (pc' := 112) (st' := [.ref 16]) rfl (fun _ => rfl) ?_
                              refine pw_getR (b := 38) h78I E (c := 0) (k := 8) (pc' := 115) rfl rfl rfl rfl rfl rfl rfl ?_
                              obtain ⟨f83l, f83h, -⟩ := pw_obj (c := 22) h78I rfl
                              refine pw_call (m' := 8) (As := [.ref 38]) (rest := []) (ls'' := [some (.ref 38)]) (Nat.le_trans (by decide) hd) E rfl (fun _ => pw_iV rfl rfl rfl rfl (pw_cellI f83h rfl)) (rfl : pm_ent 8 = some (1, 1, 1, 0, pmc_8)) rfl rfl (cm_8 (pw_dp hd (by decide)) h78I 22 (by unfold pw_Fr; omega)) ?_
                              rintro u85 v84 ⟨rfl, x86, rfl, hx86a, hx86b⟩
                              refine ⟨_, rfl, ?_⟩
                              show pw X d h78 149 118 [some (.ref 16), some (pw_i la), some (pw_i sd), some (pw_i b), some (pw_i e), some (pw_i wt), some (pw_i k63_6), some (pw_i k63_7)] [pw_i x86] _
                              refine pw_ld E (pc' := 120) (st' := [pw_i wt, pw_i x86]) rfl (fun _ => rfl) ?_
                              refine pw_ld E (pc' := 121) (st' := [pw_i 1, pw_i wt, pw_i x86]) rfl (fun _ => rfl) ?_
                              refine pw_sub E (pc' := 122) rfl rfl ?_
                              refine pw_if2 E (pc' := 128) rfl (by decide) (by omega) (by omega) (by omega) (by omega) ?_ ?_
                              · intro hc87
                                change x86 ≠ wt - 1 at hc87
                                refine pw_inc E (pc' := 131) (ls' := [some (.ref 16), some (pw_i la), some (pw_i sd), some (pw_i b), some (pw_i e), some (pw_i wt), some (pw_i k63_6), some (pw_i (k63_7 + 1))]) rfl rfl rfl rfl ?_
                                refine pw_goto E (pc' := 63) rfl (by decide) ?_
                                exact ih63 _ (by omega) (k63_6) (k63_7 + 1) h78 h78I h78F (by omega) (by omega) (by omega) (by omega) (by omega) rfl
                              · intro hc88
                                change ¬ (x86 ≠ wt - 1) at hc88
                                refine pw_inc E (pc' := 128) (ls' := [some (.ref 16), some (pw_i la), some (pw_i sd), some (pw_i b), some (pw_i e), some (pw_i wt), some (pw_i (k63_6 + 1)), some (pw_i k63_7)]) rfl rfl rfl rfl ?_
                                refine pw_inc E (pc' := 131) (ls' := [some (.ref 16), some (pw_i la), some (pw_i sd), some (pw_i b), some (pw_i e), some (pw_i wt), some (pw_i (k63_6 + 1)), some (pw_i (k63_7 + 1))]) rfl rfl rfl rfl ?_
                                refine pw_goto E (pc' := 63) rfl (by decide) ?_
                                exact ih63 _ (by omega) (k63_6 + 1) (k63_7 + 1) h78 h78I h78F (by omega) (by omega) (by omega) (by omega) (by omega) rfl
                          · refine pw_aald (b := 97) I63 E (c := 37) (pc' := 79) rfl rfl (by decide) rfl (by decide) (by omega) (by omega) (by rw [hj34]; rfl) rfl ?_
                            refine pw_ld E (pc' := 81) (st' := [pw_i k63_7, .ref 97, .ref 112]) rfl (fun _ => rfl) ?_
                            refine pw_ld E (pc' := 82) (st' := [pw_i b, pw_i k63_7, .ref 97, .ref 112]) rfl (fun _ => rfl) ?_
                            refine pw_ld E (pc' := 84) (st' := [pw_i e, pw_i b, pw_i k63_7, .ref 97, .ref 112]) rfl (fun _ => rfl) ?_
                            refine pw_max E rfl rfl (by omega) (by omega) (by omega) (by omega) rfl ?_
                            obtain ⟨f89l, f89h, -⟩ := pw_obj (c := 96) I63 rfl
                            refine pw_call (m' := 113) (As := [.ref 112, .ref 97, pw_i k63_7, pw_i (max b e)]) (rest := []) (ls'' := [some (.ref 112), some (.ref 97), some (pw_i k63_7), some (pw_i (max b e)), none, none]) (Nat.le_trans (by decide) hd) E rfl (fun _ => pw_iV rfl rfl rfl rfl (pw_cellI f89h rfl)) (rfl : pm_ent 113 = some (4, 6, 10, 4, pmc_113)) rfl rfl (cm_113 (pw_dp hd (by decide)) I63 81 (by unfold pw_Sc; omega) (k63_7) (by omega) (by omega) (max b e) (by omega) (by omega)) ?_
                            rintro h90 v91 ⟨h90I, h90E, rfl⟩
                            refine ⟨_, rfl, ?_⟩
                            have h90F := E63.tr (h90E.wk (W' := [17, 18, 22, 96, 98, 99, 44, 58, 72, 86]) (by first | rfl | simp))
                            show pw X d h90 149 90 [some (.ref 16), some (pw_i la), some (pw_i sd), some (pw_i b), some (pw_i e), some (pw_i wt), some (pw_i k63_6), some (pw_i k63_7)] [] _
                            refine pw_ld E (pc' := 91) (st' := [.ref 16]) rfl (fun _ => rfl) ?_
                            refine pw_ld E (pc' := 92) (st' := [pw_i b, .ref 16]) rfl (fun _ => rfl) ?_
                            refine pw_ld E (pc' := 94) (st' := [pw_i e, pw_i b, .ref 16]) rfl (fun _ => rfl) ?_
                            obtain ⟨f92l, f92h, -⟩ := pw_obj (c := 0) h90I rfl
                            refine pw_call (m' := 150) (As := [.ref 16, pw_i b, pw_i e]) (rest := []) (ls'' := [some (.ref 16), some (pw_i b), some (pw_i e), none]) (Nat.le_trans (by decide) hd) E rfl (fun _ => pw_iV rfl rfl rfl rfl (pw_cellI f92h rfl)) (rfl : pm_ent 150 = some (3, 4, 11, 4, pmc_150)) rfl rfl (cm_150 (pw_dp hd (by decide)) h90I (b) (by omega) (by omega) (e) (by omega) (by omega)) ?_
                            rintro h93 v94 ⟨h93I, h93E, rfl⟩
                            refine ⟨_, rfl, ?_⟩
                            have h93F := h90F.tr (h93E.wk (W' := [17, 18, 22, 96, 98, 99, 44, 58, 72, 86]) (by first | rfl | simp))
                            show pw X d h93 149 97 [some (.ref 16), some (pw_i la), some (pw_i sd), some (pw_i b), some (pw_i e), some (pw_i wt), some (pw_i k63_6), some (pw_i k63_7)] [] _
                            refine pw_ld E (pc' := 98) (st' := [.ref 16]) rfl (fun _ => rfl) ?_
                            refine pw_getR (b := 32) h93I E (c := 0) (k := 7) (pc' := 101) rfl rfl rfl rfl rfl rfl rfl ?_
                            refine pw_ld E (pc' := 102) (st' := [.ref 16, .ref 32]) rfl (fun _ => rfl) ?_
                            refine pw_getR (b := 38) h93I E (c := 0) (k := 8) (pc' := 105) rfl rfl rfl rfl rfl rfl rfl ?_
                            obtain ⟨f95l, f95h, -⟩ := pw_obj (c := 16) h93I rfl
                            refine pw_call (m' := 83) (As := [.ref 32, .ref 38]) (rest := []) (ls'' := [some (.ref 32), some (.ref 38), none, none, none, none]) (Nat.le_trans (by decide) hd) E rfl (fun _ => pw_iV rfl rfl rfl rfl (pw_cellI f95h rfl)) (rfl : pm_ent 83 = some (2, 6, 8, 1, pmc_83)) rfl rfl (cm_83 (pw_dp hd (by decide)) h93I 22 (by unfold pw_Fr; omega)) ?_
                            rintro h96 v97 ⟨h96I, h96E, x98, rfl, hx98a, hx98b⟩
                            refine ⟨_, rfl, ?_⟩
                            have h96F := h93F.tr (h96E.wk (W' := [17, 18, 22, 96, 98, 99, 44, 58, 72, 86]) (by first | rfl | simp))
                            show pw X d h96 149 108 [some (.ref 16), some (pw_i la), some (pw_i sd), some (pw_i b), some (pw_i e), some (pw_i wt), some (pw_i k63_6), some (pw_i k63_7)] [pw_i x98] _
                            refine pw_if E (pc' := 128) rfl (by decide) (by omega) (by omega) ?_ ?_
                            · intro hc99
                              change x98 = (0 : Int) at hc99
                              refine pw_inc E (pc' := 131) (ls' := [some (.ref 16), some (pw_i la), some (pw_i sd), some (pw_i b), some (pw_i e), some (pw_i wt), some (pw_i k63_6), some (pw_i (k63_7 + 1))]) rfl rfl rfl rfl ?_
                              refine pw_goto E (pc' := 63) rfl (by decide) ?_
                              exact ih63 _ (by omega) (k63_6) (k63_7 + 1) h96 h96I h96F (by omega) (by omega) (by omega) (by omega) (by omega) rfl
                            · intro hc100
                              change ¬ (x98 = (0 : Int)) at hc100
                              refine pw_ld E (pc' := 112) (st' := [.ref 16]) rfl (fun _ => rfl) ?_
                              refine pw_getR (b := 38) h96I E (c := 0) (k := 8) (pc' := 115) rfl rfl rfl rfl rfl rfl rfl ?_
                              obtain ⟨f101l, f101h, -⟩ := pw_obj (c := 22) h96I rfl
                              refine pw_call (m' := 8) (As := [.ref 38]) (rest := []) (ls'' := [some (.ref 38)]) (Nat.le_trans (by decide) hd) E rfl (fun _ => pw_iV rfl rfl rfl rfl (pw_cellI f101h rfl)) (rfl : pm_ent 8 = some (1, 1, 1, 0, pmc_8)) rfl rfl (cm_8 (pw_dp hd (by decide)) h96I 22 (by unfold pw_Fr; omega)) ?_
                              rintro u103 v102 ⟨rfl, x104, rfl, hx104a, hx104b⟩
                              refine ⟨_, rfl, ?_⟩
                              show pw X d h96 149 118 [some (.ref 16), some (pw_i la), some (pw_i sd), some (pw_i b), some (pw_i e), some (pw_i wt), some (pw_i k63_6), some (pw_i k63_7)] [pw_i x104] _
                              refine pw_ld E (pc' := 120) (st' := [pw_i wt, pw_i x104]) rfl (fun _ => rfl) ?_
                              refine pw_ld E (pc' := 121) (st' := [pw_i 1, pw_i wt, pw_i x104]) rfl (fun _ => rfl) ?_
                              refine pw_sub E (pc' := 122) rfl rfl ?_
                              refine pw_if2 E (pc' := 128) rfl (by decide) (by omega) (by omega) (by omega) (by omega) ?_ ?_
                              · intro hc105
                                change x104 ≠ wt - 1 at hc105
                                refine pw_inc E (pc' := 131) (ls' := [some (.ref 16), some (pw_i la), some (pw_i sd), some (pw_i b), some (pw_i e), some (pw_i wt), some (pw_i k63_6), some (pw_i (k63_7 + 1))]) rfl rfl rfl rfl ?_
                                refine pw_goto E (pc' := 63) rfl (by decide) ?_
                                exact ih63 _ (by omega) (k63_6) (k63_7 + 1) h96 h96I h96F (by omega) (by omega) (by omega) (by omega) (by omega) rfl
                              · intro hc106
                                change ¬ (x104 ≠ wt - 1) at hc106
                                refine pw_inc E (pc' := 128) (ls' := [some (.ref 16), some (pw_i la), some (pw_i sd), some (pw_i b), some (pw_i e), some (pw_i wt), some (pw_i (k63_6 + 1)), some (pw_i k63_7)]) rfl rfl rfl rfl ?_
                                refine pw_inc E (pc' := 131) (ls' := [some (.ref 16), some (pw_i la), some (pw_i sd), some (pw_i b), some (pw_i e), some (pw_i wt), some (pw_i (k63_6 + 1)), some (pw_i (k63_7 + 1))]) rfl rfl rfl rfl ?_
                                refine pw_goto E (pc' := 63) rfl (by decide) ?_
                                exact ih63 _ (by omega) (k63_6 + 1) (k63_7 + 1) h96 h96I h96F (by omega) (by omega) (by omega) (by omega) (by omega) rfl
                    exact L63 _ (0) (0) h25 h25I h25F (by omega) (by omega) (by omega) (by omega) (by omega) rfl
                  · intro hc107
                    change ¬ (x30 = (0 : Int)) at hc107
                    refine pw_ld E (pc' := 56) (st' := [pw_i ((-1))]) rfl (fun _ => rfl) ?_
                    refine pw_iret E rfl ?_
                    exact ⟨h25I, h25F, ⟨_, rfl, by omega, by omega⟩⟩
                · intro hc108
                  change ¬ (x21 ≠ (0 : Int)) at hc108
                  exfalso; omega
              · skip
                refine pw_if E (pc' := 38) rfl (by decide) (by omega) (by omega) ?_ ?_
                · intro hc110
                  change x21 ≠ (0 : Int) at hc110
                  exfalso; omega
                · intro hc111
                  change ¬ (x21 ≠ (0 : Int)) at hc111
                  refine pw_ld E (pc' := 37) (st' := [pw_i ((-1))]) rfl (fun _ => rfl) ?_
                  refine pw_iret E rfl ?_
                  exact ⟨I, E0, ⟨_, rfl, by omega, by omega⟩⟩
          · skip
            refine pw_if E (pc' := 36) rfl (by decide) (by omega) (by omega) ?_ ?_
            · intro hc113
              change x15 = (0 : Int) at hc113
              refine pw_ld E (pc' := 37) (st' := [pw_i ((-1))]) rfl (fun _ => rfl) ?_
              refine pw_iret E rfl ?_
              exact ⟨I, E0, ⟨_, rfl, by omega, by omega⟩⟩
            · intro hc114
              change ¬ (x15 = (0 : Int)) at hc114
              exfalso; omega
      · skip
        refine pw_if E (pc' := 36) rfl (by decide) (by omega) (by omega) ?_ ?_
        · intro hc116
          change x9 = (0 : Int) at hc116
          refine pw_ld E (pc' := 37) (st' := [pw_i ((-1))]) rfl (fun _ => rfl) ?_
          refine pw_iret E rfl ?_
          exact ⟨I, E0, ⟨_, rfl, by omega, by omega⟩⟩
        · intro hc117
          change ¬ (x9 = (0 : Int)) at hc117
          exfalso; omega
  · skip
    refine pw_if E (pc' := 36) rfl (by decide) (by omega) (by omega) ?_ ?_
    · intro hc119
      change x3 = (0 : Int) at hc119
      refine pw_ld E (pc' := 37) (st' := [pw_i ((-1))]) rfl (fun _ => rfl) ?_
      refine pw_iret E rfl ?_
      exact ⟨I, E0, ⟨_, rfl, by omega, by omega⟩⟩
    · intro hc120
      change ¬ (x3 = (0 : Int)) at hc120
      exfalso; omega
set_option maxHeartbeats 4000000 in
theorem cm_152 {X : List (Nat × List Value)} {d : Nat} {h : pm_H} (hd : 2 ≤ d) (I : pw_I h) (n : Int) (hn1 : (-2147483648) ≤ n) (hn2 : n ≤ 2147483647) : pw X d h 152 0 [some (.ref 16), some (pw_i n), none] [] (fun h' v => h = h' ∧ ∃ a : Int, v = .inl (some (pw_i a)) ∧ (-2147483648) ≤ a ∧ a ≤ 2147483647) := by
  have E : pm_ent 152 = some (2, 3, 11, 0, pmc_152) := rfl
  refine pw_ld E (pc' := 1) (st' := [pw_i n]) rfl (fun _ => rfl) ?_
  refine pw_ld E (pc' := 2) (st' := [pw_i 1, pw_i n]) rfl (fun _ => rfl) ?_
  refine pw_sip E (pc' := 5) rfl rfl (by decide) ?_
  refine pw_call (m' := 121) (As := [pw_i n, pw_i 1, pw_i 999]) (rest := []) (ls'' := [some (pw_i n), some (pw_i 1), some (pw_i 999)]) (Nat.le_trans (by decide) hd) E rfl (fun _ => pw_iS rfl rfl rfl) (rfl : pm_ent 121 = some (3, 3, 11, 1, pmc_121)) rfl rfl (cm_121 (pw_dp hd (by decide)) I (n) (by omega) (by omega) (1) (by omega) (by omega) (999) (by omega) (by omega)) ?_
  rintro u2 v1 ⟨rfl, x3, rfl, hx3a, hx3b, hx3r⟩
  refine ⟨_, rfl, ?_⟩
  show pw X d h 152 8 [some (.ref 16), some (pw_i n), none] [pw_i x3] _
  change (x3 = 1 ∧ 1 ≤ n ∧ n ≤ 999) ∨ (x3 = 0 ∧ ¬ (1 ≤ n ∧ n ≤ 999)) at hx3r
  rcases (by omega : x3 = 1 ∨ x3 = 0) with hb4 | hb4
  · skip
    refine pw_if E (pc' := 22) rfl (by decide) (by omega) (by omega) ?_ ?_
    · intro hc5
      change x3 = (0 : Int) at hc5
      exfalso; omega
    · intro hc6
      change ¬ (x3 = (0 : Int)) at hc6
      refine pw_ld E (pc' := 12) (st' := [.ref 16]) rfl (fun _ => rfl) ?_
      refine pw_getR (b := 116) I E (c := 0) (k := 18) (pc' := 15) rfl rfl rfl rfl rfl rfl rfl ?_
      refine pw_ld E (pc' := 16) (st' := [pw_i 1, .ref 116]) rfl (fun _ => rfl) ?_
      obtain ⟨f7l, f7h, -⟩ := pw_obj (c := 100) I rfl
      refine pw_call (m' := 38) (As := [.ref 116, pw_i 1]) (rest := []) (ls'' := [some (.ref 116), some (pw_i 1), none, none]) (Nat.le_trans (by decide) hd) E rfl (fun _ => pw_iV rfl rfl rfl rfl (pw_cellI f7h rfl)) (rfl : pm_ent 38 = some (2, 4, 4, 0, pmc_38)) rfl rfl (cm_38 (pw_dp hd (by decide)) I (1) (by omega) (by omega)) ?_
      rintro u9 v8 ⟨rfl, x10, rfl, hx10a, hx10b⟩
      refine ⟨_, rfl, ?_⟩
      show pw X d h 152 19 [some (.ref 16), some (pw_i n), none] [pw_i x10] _
      refine pw_if E (pc' := 24) rfl (by decide) (by omega) (by omega) ?_ ?_
      · intro hc11
        change x10 ≠ (0 : Int) at hc11
        refine pw_ld E (pc' := 25) (st' := [.ref 16]) rfl (fun _ => rfl) ?_
        refine pw_getR (b := 116) I E (c := 0) (k := 18) (pc' := 28) rfl rfl rfl rfl rfl rfl rfl ?_
        refine pw_ld E (pc' := 29) (st' := [pw_i 1, .ref 116]) rfl (fun _ => rfl) ?_
        obtain ⟨f12l, f12h, -⟩ := pw_obj (c := 100) I rfl
        refine pw_call (m' := 39) (As := [.ref 116, pw_i 1]) (rest := []) (ls'' := [some (.ref 116), some (pw_i 1), none, none]) (Nat.le_trans (by decide) hd) E rfl (fun _ => pw_iV rfl rfl rfl rfl (pw_cellI f12h rfl)) (rfl : pm_ent 39 = some (2, 4, 4, 0, pmc_39)) rfl rfl (cm_39 (pw_dp hd (by decide)) I (1) (by omega) (by omega)) ?_
        rintro u14 v13 ⟨rfl, x15, rfl, hx15a, hx15b⟩
        refine ⟨_, rfl, ?_⟩
        show pw X d h 152 32 [some (.ref 16), some (pw_i n), none] [pw_i x15] _
        refine pw_abs E rfl rfl rfl (fun x16 hx16a hx16b hx16c hx16d => ?_)
        refine pw_istn E (pc' := 36) (ls' := [some (.ref 16), some (pw_i n), some (pw_i x16)]) rfl rfl rfl rfl ?_
        refine pw_ld E (pc' := 37) (st' := [pw_i x16]) rfl (fun _ => rfl) ?_
        refine pw_ld E (pc' := 38) (st' := [pw_i n, pw_i x16]) rfl (fun _ => rfl) ?_
        refine pw_add E (pc' := 39) rfl rfl ?_
        refine pw_nm (fun x17 hx17a hx17b => ?_)
        refine pw_ld E (pc' := 40) (st' := [pw_i 1, pw_i x17]) rfl (fun _ => rfl) ?_
        refine pw_sub E (pc' := 41) rfl rfl ?_
        refine pw_nm (fun x18 hx18a hx18b => ?_)
        refine pw_ld E (pc' := 42) (st' := [pw_i n, pw_i x18]) rfl (fun _ => rfl) ?_
        refine pw_divA E (pc' := 43) rfl rfl rfl (by omega) (by omega) (by omega) ?_
        intro x19 hx19a hx19b
        refine pw_iret E rfl ?_
        exact ⟨rfl, ⟨_, rfl, by omega, by omega⟩⟩
      · intro hc20
        change ¬ (x10 ≠ (0 : Int)) at hc20
        refine pw_ld E (pc' := 23) (st' := [pw_i ((-1))]) rfl (fun _ => rfl) ?_
        refine pw_iret E rfl ?_
        exact ⟨rfl, ⟨_, rfl, by omega, by omega⟩⟩
  · skip
    refine pw_if E (pc' := 22) rfl (by decide) (by omega) (by omega) ?_ ?_
    · intro hc22
      change x3 = (0 : Int) at hc22
      refine pw_ld E (pc' := 23) (st' := [pw_i ((-1))]) rfl (fun _ => rfl) ?_
      refine pw_iret E rfl ?_
      exact ⟨rfl, ⟨_, rfl, by omega, by omega⟩⟩
    · intro hc23
      change ¬ (x3 = (0 : Int)) at hc23
      exfalso; omega
set_option maxHeartbeats 4000000 in
theorem cm_157 {X : List (Nat × List Value)} {d : Nat} {h : pm_H} (hd : 2 ≤ d) (I : pw_I h) (c : Nat) (hc : pw_Sc c) : pw X d h 157 0 [some (.ref 16), some (.ref (16 + c))] [] (fun h' v => h = h' ∧ ∃ a : Int, v = .inl (some (pw_i a)) ∧ 0 ≤ a ∧ a ≤ 11) := by
  have E : pm_ent 157 = some (2, 2, 11, 0, pmc_157) := rfl
  refine pw_ld E (pc' := 1) (st' := [.ref (16 + c)]) rfl (fun _ => rfl) ?_
  refine pw_ld E (pc' := 2) (st' := [pw_i 1, .ref (16 + c)]) rfl (fun _ => rfl) ?_
  refine pw_ld E (pc' := 3) (st' := [pw_i 0, pw_i 1, .ref (16 + c)]) rfl (fun _ => rfl) ?_
  obtain ⟨f1l, f1h, -⟩ := pw_obj (c := c) I (pw_Sc_o hc)
  refine pw_call (m' := 79) (As := [.ref (16 + c), pw_i 1, pw_i 0]) (rest := []) (ls'' := [some (.ref (16 + c)), some (pw_i 1), some (pw_i 0)]) (Nat.le_trans (by decide) hd) E rfl (fun _ => pw_iV rfl rfl rfl rfl (pw_cellI f1h rfl)) (rfl : pm_ent 79 = some (3, 3, 7, 0, pmc_79)) rfl rfl (cm_79 (pw_dp hd (by decide)) I c hc (1) (by omega) (by omega) (0) (by omega) (by omega)) ?_
  rintro u3 v2 ⟨rfl, x4, rfl, hx4a, hx4b⟩
  refine ⟨_, rfl, ?_⟩
  show pw X d h 157 6 [some (.ref 16), some (.ref (16 + c))] [pw_i x4] _
  refine pw_iret E rfl ?_
  exact ⟨rfl, ⟨_, rfl, by omega, by omega⟩⟩
set_option maxHeartbeats 4000000 in
theorem cm_158 {X : List (Nat × List Value)} {d : Nat} {h : pm_H} (hd : 2 ≤ d) (I : pw_I h) (c : Nat) (hc : pw_Sc c) : pw X d h 158 0 [some (.ref 16), some (.ref (16 + c))] [] (fun h' v => h = h' ∧ ∃ a : Int, v = .inl (some (pw_i a)) ∧ 0 ≤ a ∧ a ≤ 11) := by
  have E : pm_ent 158 = some (2, 2, 11, 0, pmc_158) := rfl
  refine pw_ld E (pc' := 1) (st' := [.ref (16 + c)]) rfl (fun _ => rfl) ?_
  refine pw_ld E (pc' := 2) (st' := [pw_i 2, .ref (16 + c)]) rfl (fun _ => rfl) ?_
  refine pw_bip E (pc' := 4) rfl rfl (by decide) ?_
  obtain ⟨f1l, f1h, -⟩ := pw_obj (c := c) I (pw_Sc_o hc)
  refine pw_call (m' := 79) (As := [.ref (16 + c), pw_i 2, pw_i 11]) (rest := []) (ls'' := [some (.ref (16 + c)), some (pw_i 2), some (pw_i 11)]) (Nat.le_trans (by decide) hd) E rfl (fun _ => pw_iV rfl rfl rfl rfl (pw_cellI f1h rfl)) (rfl : pm_ent 79 = some (3, 3, 7, 0, pmc_79)) rfl rfl (cm_79 (pw_dp hd (by decide)) I c hc (2) (by omega) (by omega) (11) (by omega) (by omega)) ?_
  rintro u3 v2 ⟨rfl, x4, rfl, hx4a, hx4b⟩
  refine ⟨_, rfl, ?_⟩
  show pw X d h 158 7 [some (.ref 16), some (.ref (16 + c))] [pw_i x4] _
  refine pw_iret E rfl ?_
  exact ⟨rfl, ⟨_, rfl, by omega, by omega⟩⟩
set_option maxHeartbeats 4000000 in
theorem cm_155 {X : List (Nat × List Value)} {d : Nat} {h : pm_H} (hd : 2 ≤ d) (I : pw_I h) (c : Nat) (hc : pw_Sc c) : pw X d h 155 0 [some (.ref 16), some (.ref (16 + c))] [] (fun h' v => h = h' ∧ ∃ a : Int, v = .inl (some (pw_i a)) ∧ 0 ≤ a ∧ a ≤ 11) := by
  have E : pm_ent 155 = some (2, 2, 11, 0, pmc_155) := rfl
  refine pw_ld E (pc' := 1) (st' := [.ref (16 + c)]) rfl (fun _ => rfl) ?_
  refine pw_ld E (pc' := 2) (st' := [pw_i 3, .ref (16 + c)]) rfl (fun _ => rfl) ?_
  refine pw_ld E (pc' := 3) (st' := [.ref 16, pw_i 3, .ref (16 + c)]) rfl (fun _ => rfl) ?_
  refine pw_getI2 I E (c := 0) (k := 6) (pc' := 6) rfl rfl rfl rfl rfl rfl (fun hf1a hf1b => ?_)
  obtain ⟨f2l, f2h, -⟩ := pw_obj (c := c) I (pw_Sc_o hc)
  refine pw_call (m' := 79) (As := [.ref (16 + c), pw_i 3, pw_i (pw_g h 0 6)]) (rest := []) (ls'' := [some (.ref (16 + c)), some (pw_i 3), some (pw_i (pw_g h 0 6))]) (Nat.le_trans (by decide) hd) E rfl (fun _ => pw_iV rfl rfl rfl rfl (pw_cellI f2h rfl)) (rfl : pm_ent 79 = some (3, 3, 7, 0, pmc_79)) rfl rfl (cm_79 (pw_dp hd (by decide)) I c hc (3) (by omega) (by omega) (pw_g h 0 6) (by omega) (by omega)) ?_
  rintro u4 v3 ⟨rfl, x5, rfl, hx5a, hx5b⟩
  refine ⟨_, rfl, ?_⟩
  show pw X d h 155 9 [some (.ref 16), some (.ref (16 + c))] [pw_i x5] _
  refine pw_iret E rfl ?_
  exact ⟨rfl, ⟨_, rfl, by omega, by omega⟩⟩
set_option maxHeartbeats 4000000 in
theorem cm_156 {X : List (Nat × List Value)} {d : Nat} {h : pm_H} (hd : 4 ≤ d) (I : pw_I h) (c : Nat) (hc : pw_Sc c) (k : Int) (hk1 : 0 ≤ k) (hk2 : k ≤ 23) (tn : Int) (htn1 : (-2147483648) ≤ tn) (htn2 : tn ≤ 2147483647) : pw X d h 156 0 [some (.ref 16), some (.ref (16 + c)), some (pw_i k), some (pw_i tn), none] [] (fun h' v => pw_I h' ∧ pw_E [95, c + 5] h h' ∧ ∃ a : Int, v = .inl (some (pw_i a)) ∧ 0 ≤ a ∧ a ≤ 1) := by
  have E : pm_ent 156 = some (4, 5, 11, 1, pmc_156) := rfl
  have E0 : pw_E [95, c + 5] h h := pw_E.rf _ _
  refine pw_ld E (pc' := 1) (st' := [.ref (16 + c)]) rfl (fun _ => rfl) ?_
  refine pw_ld E (pc' := 2) (st' := [pw_i 0, .ref (16 + c)]) rfl (fun _ => rfl) ?_
  obtain ⟨f1l, f1h, -⟩ := pw_obj (c := c) I (pw_Sc_o hc)
  refine pw_call (m' := 69) (As := [.ref (16 + c), pw_i 0]) (rest := []) (ls'' := [some (.ref (16 + c)), some (pw_i 0)]) (Nat.le_trans (by decide) hd) E rfl (fun _ => pw_iV rfl rfl rfl rfl (pw_cellI f1h rfl)) (rfl : pm_ent 69 = some (2, 2, 7, 1, pmc_69)) rfl rfl (cm_69 (pw_dp hd (by decide)) I c hc (0) (by omega) (by omega)) ?_
  rintro u3 v2 ⟨rfl, x4, rfl, hx4a, hx4b⟩
  refine ⟨_, rfl, ?_⟩
  show pw X d h 156 5 [some (.ref 16), some (.ref (16 + c)), some (pw_i k), some (pw_i tn), none] [pw_i x4] _
  refine pw_if E (pc' := 10) rfl (by decide) (by omega) (by omega) ?_ ?_
  · intro hc5
    change x4 ≠ (0 : Int) at hc5
    refine pw_ld E (pc' := 11) (st' := [.ref 16]) rfl (fun _ => rfl) ?_
    refine pw_ld E (pc' := 12) (st' := [.ref (16 + c), .ref 16]) rfl (fun _ => rfl) ?_
    obtain ⟨f6l, f6h, -⟩ := pw_obj (c := 0) I rfl
    refine pw_call (m' := 157) (As := [.ref 16, .ref (16 + c)]) (rest := []) (ls'' := [some (.ref 16), some (.ref (16 + c))]) (Nat.le_trans (by decide) hd) E rfl (fun _ => pw_iV rfl rfl rfl rfl (pw_cellI f6h rfl)) (rfl : pm_ent 157 = some (2, 2, 11, 0, pmc_157)) rfl rfl (cm_157 (pw_dp hd (by decide)) I c hc) ?_
    rintro u8 v7 ⟨rfl, x9, rfl, hx9a, hx9b⟩
    refine ⟨_, rfl, ?_⟩
    show pw X d h 156 15 [some (.ref 16), some (.ref (16 + c)), some (pw_i k), some (pw_i tn), none] [pw_i x9] _
    refine pw_ist E (pc' := 17) (ls' := [some (.ref 16), some (.ref (16 + c)), some (pw_i k), some (pw_i tn), some (pw_i x9)]) rfl rfl rfl rfl ?_
    refine pw_ld E (pc' := 18) (st' := [.ref 16]) rfl (fun _ => rfl) ?_
    refine pw_getR (b := 111) I E (c := 0) (k := 16) (pc' := 21) rfl rfl rfl rfl rfl rfl rfl ?_
    refine pw_ld E (pc' := 22) (st' := [pw_i 0, .ref 111]) rfl (fun _ => rfl) ?_
    refine pw_ld E (pc' := 23) (st' := [.ref 16, pw_i 0, .ref 111]) rfl (fun _ => rfl) ?_
    refine pw_getR (b := 17) I E (c := 0) (k := 0) (pc' := 26) rfl rfl rfl rfl rfl rfl rfl ?_
    refine pw_ld E (pc' := 27) (st' := [pw_i k, .ref 17, pw_i 0, .ref 111]) rfl (fun _ => rfl) ?_
    obtain ⟨f10l, f10h, -⟩ := pw_obj (c := 1) I rfl
    refine pw_call (m' := 60) (As := [.ref 17, pw_i k]) (rest := [pw_i 0, .ref 111]) (ls'' := [some (.ref 17), some (pw_i k)]) (Nat.le_trans (by decide) hd) E rfl (fun _ => pw_iV rfl rfl rfl rfl (pw_cellI f10h rfl)) (rfl : pm_ent 60 = some (2, 2, 6, 0, pmc_60)) rfl rfl (cm_60 (pw_dp hd (by decide)) I (k) (by omega) (by omega)) ?_
    rintro u12 v11 ⟨rfl, x13, rfl, hx13a, hx13b, hx13r⟩
    refine ⟨_, rfl, ?_⟩
    show pw X d h 156 30 [some (.ref 16), some (.ref (16 + c)), some (pw_i k), some (pw_i tn), some (pw_i x9)] [pw_i x13, pw_i 0, .ref 111] _
    change x13 = pw_g h 4 k.toNat at hx13r
    refine pw_ast0 I E (c := 95) (pc' := 31) rfl rfl rfl (by decide) rfl (by decide) (by omega) (by omega) rfl (by omega) (by omega) (by omega) (by omega) rfl ?_
    intro h14I h14E
    generalize h14w : pw_w h 95 (Int.toNat 0) (pw_i x13) = h14 at h14I h14E ⊢
    have h14F := E0.tr (h14E.wk (W' := [95, c + 5]) (by first | rfl | simp))
    refine pw_ld E (pc' := 32) (st' := [.ref 16]) rfl (fun _ => rfl) ?_
    refine pw_getR (b := 111) h14I E (c := 0) (k := 16) (pc' := 35) rfl rfl rfl rfl rfl rfl rfl ?_
    refine pw_ld E (pc' := 36) (st' := [pw_i 1, .ref 111]) rfl (fun _ => rfl) ?_
    refine pw_ld E (pc' := 37) (st' := [.ref 16, pw_i 1, .ref 111]) rfl (fun _ => rfl) ?_
    refine pw_getR (b := 17) h14I E (c := 0) (k := 0) (pc' := 40) rfl rfl rfl rfl rfl rfl rfl ?_
    refine pw_ld E (pc' := 41) (st' := [pw_i k, .ref 17, pw_i 1, .ref 111]) rfl (fun _ => rfl) ?_
    obtain ⟨f15l, f15h, -⟩ := pw_obj (c := 1) h14I rfl
    refine pw_call (m' := 64) (As := [.ref 17, pw_i k]) (rest := [pw_i 1, .ref 111]) (ls'' := [some (.ref 17), some (pw_i k)]) (Nat.le_trans (by decide) hd) E rfl (fun _ => pw_iV rfl rfl rfl rfl (pw_cellI f15h rfl)) (rfl : pm_ent 64 = some (2, 2, 6, 0, pmc_64)) rfl rfl (cm_64 (pw_dp hd (by decide)) h14I (k) (by omega) (by omega)) ?_
    rintro u17 v16 ⟨rfl, x18, rfl, hx18a, hx18b, hx18r⟩
    refine ⟨_, rfl, ?_⟩
    show pw X d h14 156 44 [some (.ref 16), some (.ref (16 + c)), some (pw_i k), some (pw_i tn), some (pw_i x9)] [pw_i x18, pw_i 1, .ref 111] _
    change x18 = pw_g h14 5 k.toNat at hx18r
    refine pw_ast0 h14I E (c := 95) (pc' := 45) rfl rfl rfl (by decide) rfl (by decide) (by omega) (by omega) rfl (by omega) (by omega) (by omega) (by omega) rfl ?_
    intro h19I h19E
    generalize h19w : pw_w h14 95 (Int.toNat 1) (pw_i x18) = h19 at h19I h19E ⊢
    have h19F := h14F.tr (h19E.wk (W' := [95, c + 5]) (by first | rfl | simp))
    refine pw_ld E (pc' := 46) (st' := [.ref 16]) rfl (fun _ => rfl) ?_
    refine pw_getR (b := 111) h19I E (c := 0) (k := 16) (pc' := 49) rfl rfl rfl rfl rfl rfl rfl ?_
    refine pw_ld E (pc' := 50) (st' := [pw_i 2, .ref 111]) rfl (fun _ => rfl) ?_
    refine pw_ld E (pc' := 51) (st' := [.ref 16, pw_i 2, .ref 111]) rfl (fun _ => rfl) ?_
    refine pw_getR (b := 17) h19I E (c := 0) (k := 0) (pc' := 54) rfl rfl rfl rfl rfl rfl rfl ?_
    refine pw_ld E (pc' := 55) (st' := [pw_i k, .ref 17, pw_i 2, .ref 111]) rfl (fun _ => rfl) ?_
    obtain ⟨f20l, f20h, -⟩ := pw_obj (c := 1) h19I rfl
    refine pw_call (m' := 61) (As := [.ref 17, pw_i k]) (rest := [pw_i 2, .ref 111]) (ls'' := [some (.ref 17), some (pw_i k)]) (Nat.le_trans (by decide) hd) E rfl (fun _ => pw_iV rfl rfl rfl rfl (pw_cellI f20h rfl)) (rfl : pm_ent 61 = some (2, 2, 6, 0, pmc_61)) rfl rfl (cm_61 (pw_dp hd (by decide)) h19I (k) (by omega) (by omega)) ?_
    rintro u22 v21 ⟨rfl, x23, rfl, hx23a, hx23b, hx23r⟩
    refine ⟨_, rfl, ?_⟩
    show pw X d h19 156 58 [some (.ref 16), some (.ref (16 + c)), some (pw_i k), some (pw_i tn), some (pw_i x9)] [pw_i x23, pw_i 2, .ref 111] _
    change x23 = pw_g h19 6 k.toNat at hx23r
    refine pw_ast0 h19I E (c := 95) (pc' := 59) rfl rfl rfl (by decide) rfl (by decide) (by omega) (by omega) rfl (by omega) (by omega) (by omega) (by omega) rfl ?_
    intro h24I h24E
    generalize h24w : pw_w h19 95 (Int.toNat 2) (pw_i x23) = h24 at h24I h24E ⊢
    have h24F := h19F.tr (h24E.wk (W' := [95, c + 5]) (by first | rfl | simp))
    refine pw_ld E (pc' := 60) (st' := [.ref 16]) rfl (fun _ => rfl) ?_
    refine pw_getR (b := 111) h24I E (c := 0) (k := 16) (pc' := 63) rfl rfl rfl rfl rfl rfl rfl ?_
    refine pw_ld E (pc' := 64) (st' := [pw_i 3, .ref 111]) rfl (fun _ => rfl) ?_
    refine pw_ld E (pc' := 65) (st' := [.ref 16, pw_i 3, .ref 111]) rfl (fun _ => rfl) ?_
    refine pw_getR (b := 17) h24I E (c := 0) (k := 0) (pc' := 68) rfl rfl rfl rfl rfl rfl rfl ?_
    refine pw_ld E (pc' := 69) (st' := [pw_i k, .ref 17, pw_i 3, .ref 111]) rfl (fun _ => rfl) ?_
    obtain ⟨f25l, f25h, -⟩ := pw_obj (c := 1) h24I rfl
    refine pw_call (m' := 65) (As := [.ref 17, pw_i k]) (rest := [pw_i 3, .ref 111]) (ls'' := [some (.ref 17), some (pw_i k)]) (Nat.le_trans (by decide) hd) E rfl (fun _ => pw_iV rfl rfl rfl rfl (pw_cellI f25h rfl)) (rfl : pm_ent 65 = some (2, 2, 6, 1, pmc_65)) rfl rfl (cm_65 (pw_dp hd (by decide)) h24I (k) (by omega) (by omega)) ?_
    rintro u27 v26 ⟨rfl, x28, rfl, hx28a, hx28b, hx28r⟩
    refine ⟨_, rfl, ?_⟩
    show pw X d h24 156 72 [some (.ref 16), some (.ref (16 + c)), some (pw_i k), some (pw_i tn), some (pw_i x9)] [pw_i x28, pw_i 3, .ref 111] _
    change x28 = pw_g h24 3 k.toNat at hx28r
    rcases (by omega : x28 = 1 ∨ x28 = 0) with hb29 | hb29
    · skip
      refine pw_if E (pc' := 79) rfl (by decide) (by omega) (by omega) ?_ ?_
      · intro hc30
        change x28 = (0 : Int) at hc30
        exfalso; omega
      · intro hc31
        change ¬ (x28 = (0 : Int)) at hc31
        refine pw_ld E (pc' := 76) (st' := [pw_i 1, pw_i 3, .ref 111]) rfl (fun _ => rfl) ?_
        refine pw_goto E (pc' := 80) rfl (by decide) ?_
        refine pw_ast0 h24I E (c := 95) (pc' := 81) rfl rfl rfl (by decide) rfl (by decide) (by omega) (by omega) rfl (by omega) (by omega) (by omega) (by omega) rfl ?_
        intro h32I h32E
        generalize h32w : pw_w h24 95 (Int.toNat 3) (pw_i 1) = h32 at h32I h32E ⊢
        have h32F := h24F.tr (h32E.wk (W' := [95, c + 5]) (by first | rfl | simp))
        refine pw_ld E (pc' := 82) (st' := [.ref 16]) rfl (fun _ => rfl) ?_
        refine pw_getR (b := 111) h32I E (c := 0) (k := 16) (pc' := 85) rfl rfl rfl rfl rfl rfl rfl ?_
        refine pw_ld E (pc' := 86) (st' := [pw_i 4, .ref 111]) rfl (fun _ => rfl) ?_
        refine pw_ld E (pc' := 87) (st' := [.ref 16, pw_i 4, .ref 111]) rfl (fun _ => rfl) ?_
        refine pw_getR (b := 26) h32I E (c := 0) (k := 2) (pc' := 90) rfl rfl rfl rfl rfl rfl rfl ?_
        refine pw_ld E (pc' := 91) (st' := [pw_i k, .ref 26, pw_i 4, .ref 111]) rfl (fun _ => rfl) ?_
        obtain ⟨f33l, f33h, -⟩ := pw_obj (c := 10) h32I rfl
        refine pw_call (m' := 27) (As := [.ref 26, pw_i k]) (rest := [pw_i 4, .ref 111]) (ls'' := [some (.ref 26), some (pw_i k), none, none]) (Nat.le_trans (by decide) hd) E rfl (fun _ => pw_iV rfl rfl rfl rfl (pw_cellI f33h rfl)) (rfl : pm_ent 27 = some (2, 4, 2, 0, pmc_27)) rfl rfl (cm_27 (pw_dp hd (by decide)) h32I 10 (by unfold pw_Lg; omega) (k) (by omega) (by omega)) ?_
        rintro u35 v34 ⟨rfl, x36, rfl, hx36a, hx36b⟩
        refine ⟨_, rfl, ?_⟩
        show pw X d h32 156 94 [some (.ref 16), some (.ref (16 + c)), some (pw_i k), some (pw_i tn), some (pw_i x9)] [pw_i x36, pw_i 4, .ref 111] _
        refine pw_ast0 h32I E (c := 95) (pc' := 95) rfl rfl rfl (by decide) rfl (by decide) (by omega) (by omega) rfl (by omega) (by omega) (by omega) (by omega) rfl ?_
        intro h37I h37E
        generalize h37w : pw_w h32 95 (Int.toNat 4) (pw_i x36) = h37 at h37I h37E ⊢
        have h37F := h32F.tr (h37E.wk (W' := [95, c + 5]) (by first | rfl | simp))
        refine pw_ld E (pc' := 96) (st' := [.ref 16]) rfl (fun _ => rfl) ?_
        refine pw_getR (b := 111) h37I E (c := 0) (k := 16) (pc' := 99) rfl rfl rfl rfl rfl rfl rfl ?_
        refine pw_ld E (pc' := 100) (st' := [pw_i 5, .ref 111]) rfl (fun _ => rfl) ?_
        refine pw_ld E (pc' := 101) (st' := [.ref 16, pw_i 5, .ref 111]) rfl (fun _ => rfl) ?_
        refine pw_getR (b := 26) h37I E (c := 0) (k := 2) (pc' := 104) rfl rfl rfl rfl rfl rfl rfl ?_
        refine pw_ld E (pc' := 105) (st' := [pw_i k, .ref 26, pw_i 5, .ref 111]) rfl (fun _ => rfl) ?_
        obtain ⟨f38l, f38h, -⟩ := pw_obj (c := 10) h37I rfl
        refine pw_call (m' := 28) (As := [.ref 26, pw_i k]) (rest := [pw_i 5, .ref 111]) (ls'' := [some (.ref 26), some (pw_i k), none, none]) (Nat.le_trans (by decide) hd) E rfl (fun _ => pw_iV rfl rfl rfl rfl (pw_cellI f38h rfl)) (rfl : pm_ent 28 = some (2, 4, 2, 0, pmc_28)) rfl rfl (cm_28 (pw_dp hd (by decide)) h37I 10 (by unfold pw_Lg; omega) (k) (by omega) (by omega)) ?_
        rintro u40 v39 ⟨rfl, x41, rfl, hx41a, hx41b⟩
        refine ⟨_, rfl, ?_⟩
        show pw X d h37 156 108 [some (.ref 16), some (.ref (16 + c)), some (pw_i k), some (pw_i tn), some (pw_i x9)] [pw_i x41, pw_i 5, .ref 111] _
        refine pw_ast0 h37I E (c := 95) (pc' := 109) rfl rfl rfl (by decide) rfl (by decide) (by omega) (by omega) rfl (by omega) (by omega) (by omega) (by omega) rfl ?_
        intro h42I h42E
        generalize h42w : pw_w h37 95 (Int.toNat 5) (pw_i x41) = h42 at h42I h42E ⊢
        have h42F := h37F.tr (h42E.wk (W' := [95, c + 5]) (by first | rfl | simp))
        refine pw_ld E (pc' := 110) (st' := [.ref 16]) rfl (fun _ => rfl) ?_
        refine pw_getR (b := 111) h42I E (c := 0) (k := 16) (pc' := 113) rfl rfl rfl rfl rfl rfl rfl ?_
        refine pw_bip E (pc' := 115) rfl rfl (by decide) ?_
        refine pw_ld E (pc' := 116) (st' := [.ref 16, pw_i 6, .ref 111]) rfl (fun _ => rfl) ?_
        refine pw_ld E (pc' := 117) (st' := [pw_i k, .ref 16, pw_i 6, .ref 111]) rfl (fun _ => rfl) ?_
        refine pw_ld E (pc' := 118) (st' := [.ref 16, pw_i k, .ref 16, pw_i 6, .ref 111]) rfl (fun _ => rfl) ?_
        refine pw_ld E (pc' := 119) (st' := [.ref (16 + c), .ref 16, pw_i k, .ref 16, pw_i 6, .ref 111]) rfl (fun _ => rfl) ?_
        obtain ⟨f43l, f43h, -⟩ := pw_obj (c := 0) h42I rfl
        refine pw_call (m' := 158) (As := [.ref 16, .ref (16 + c)]) (rest := [pw_i k, .ref 16, pw_i 6, .ref 111]) (ls'' := [some (.ref 16), some (.ref (16 + c))]) (Nat.le_trans (by decide) hd) E rfl (fun _ => pw_iV rfl rfl rfl rfl (pw_cellI f43h rfl)) (rfl : pm_ent 158 = some (2, 2, 11, 0, pmc_158)) rfl rfl (cm_158 (pw_dp hd (by decide)) h42I c hc) ?_
        rintro u45 v44 ⟨rfl, x46, rfl, hx46a, hx46b⟩
        refine ⟨_, rfl, ?_⟩
        show pw X d h42 156 122 [some (.ref 16), some (.ref (16 + c)), some (pw_i k), some (pw_i tn), some (pw_i x9)] [pw_i x46, pw_i k, .ref 16, pw_i 6, .ref 111] _
        obtain ⟨f47l, f47h, -⟩ := pw_obj (c := 0) h42I rfl
        refine pw_call (m' := 159) (As := [.ref 16, pw_i k, pw_i x46]) (rest := [pw_i 6, .ref 111]) (ls'' := [some (.ref 16), some (pw_i k), some (pw_i x46)]) (Nat.le_trans (by decide) hd) E rfl (fun _ => pw_iV rfl rfl rfl rfl (pw_cellI f47h rfl)) (rfl : pm_ent 159 = some (3, 3, 11, 1, pmc_159)) rfl rfl (cm_159 (pw_dp hd (by decide)) h42I (k) (by omega) (by omega) (x46) (by omega) (by omega)) ?_
        rintro u49 v48 ⟨rfl, x50, rfl, hx50a, hx50b⟩
        refine ⟨_, rfl, ?_⟩
        show pw X d h42 156 125 [some (.ref 16), some (.ref (16 + c)), some (pw_i k), some (pw_i tn), some (pw_i x9)] [pw_i x50, pw_i 6, .ref 111] _
        refine pw_if E (pc' := 132) rfl (by decide) (by omega) (by omega) ?_ ?_
        · intro hc51
          change x50 = (0 : Int) at hc51
          refine pw_ld E (pc' := 133) (st' := [pw_i 0, pw_i 6, .ref 111]) rfl (fun _ => rfl) ?_
          refine pw_ast0 h42I E (c := 95) (pc' := 134) rfl rfl rfl (by decide) rfl (by decide) (by omega) (by omega) rfl (by omega) (by omega) (by omega) (by omega) rfl ?_
          intro h52I h52E
          generalize h52w : pw_w h42 95 (Int.toNat 6) (pw_i 0) = h52 at h52I h52E ⊢
          have h52F := h42F.tr (h52E.wk (W' := [95, c + 5]) (by first | rfl | simp))
          refine pw_ld E (pc' := 135) (st' := [.ref 16]) rfl (fun _ => rfl) ?_
          refine pw_getR (b := 111) h52I E (c := 0) (k := 16) (pc' := 138) rfl rfl rfl rfl rfl rfl rfl ?_
          refine pw_bip E (pc' := 140) rfl rfl (by decide) ?_
          refine pw_ld E (pc' := 141) (st' := [.ref 16, pw_i 7, .ref 111]) rfl (fun _ => rfl) ?_
          refine pw_getR (b := 26) h52I E (c := 0) (k := 2) (pc' := 144) rfl rfl rfl rfl rfl rfl rfl ?_
          refine pw_ld E (pc' := 145) (st' := [pw_i k, .ref 26, pw_i 7, .ref 111]) rfl (fun _ => rfl) ?_
          refine pw_ld E (pc' := 147) (st' := [pw_i x9, pw_i k, .ref 26, pw_i 7, .ref 111]) rfl (fun _ => rfl) ?_
          refine pw_ld E (pc' := 148) (st' := [pw_i tn, pw_i x9, pw_i k, .ref 26, pw_i 7, .ref 111]) rfl (fun _ => rfl) ?_
          obtain ⟨f53l, f53h, -⟩ := pw_obj (c := 10) h52I rfl
          refine pw_call (m' := 20) (As := [.ref 26, pw_i k, pw_i x9, pw_i tn]) (rest := [pw_i 7, .ref 111]) (ls'' := [some (.ref 26), some (pw_i k), some (pw_i x9), some (pw_i tn)]) (Nat.le_trans (by decide) hd) E rfl (fun _ => pw_iV rfl rfl rfl rfl (pw_cellI f53h rfl)) (rfl : pm_ent 20 = some (4, 4, 2, 0, pmc_20)) rfl rfl (cm_20 (pw_dp hd (by decide)) h52I 10 (by unfold pw_Lg; omega) (k) (by omega) (by omega) (x9) (by omega) (by omega) (tn) (by omega) (by omega)) ?_
          rintro u55 v54 ⟨rfl, x56, rfl, hx56a, hx56b⟩
          refine ⟨_, rfl, ?_⟩
          show pw X d h52 156 151 [some (.ref 16), some (.ref (16 + c)), some (pw_i k), some (pw_i tn), some (pw_i x9)] [pw_i x56, pw_i 7, .ref 111] _
          refine pw_ast0 h52I E (c := 95) (pc' := 152) rfl rfl rfl (by decide) rfl (by decide) (by omega) (by omega) rfl (by omega) (by omega) (by omega) (by omega) rfl ?_
          intro h57I h57E
          generalize h57w : pw_w h52 95 (Int.toNat 7) (pw_i x56) = h57 at h57I h57E ⊢
          have h57F := h52F.tr (h57E.wk (W' := [95, c + 5]) (by first | rfl | simp))
          refine pw_ld E (pc' := 153) (st' := [.ref 16]) rfl (fun _ => rfl) ?_
          refine pw_getR (b := 111) h57I E (c := 0) (k := 16) (pc' := 156) rfl rfl rfl rfl rfl rfl rfl ?_
          refine pw_bip E (pc' := 158) rfl rfl (by decide) ?_
          refine pw_ld E (pc' := 159) (st' := [pw_i k, pw_i 8, .ref 111]) rfl (fun _ => rfl) ?_
          refine pw_ast0 h57I E (c := 95) (pc' := 160) rfl rfl rfl (by decide) rfl (by decide) (by omega) (by omega) rfl (by omega) (by omega) (by omega) (by omega) rfl ?_
          intro h58I h58E
          generalize h58w : pw_w h57 95 (Int.toNat 8) (pw_i k) = h58 at h58I h58E ⊢
          have h58F := h57F.tr (h58E.wk (W' := [95, c + 5]) (by first | rfl | simp))
          refine pw_ld E (pc' := 161) (st' := [.ref (16 + c)]) rfl (fun _ => rfl) ?_
          refine pw_ld E (pc' := 162) (st' := [pw_i 0, .ref (16 + c)]) rfl (fun _ => rfl) ?_
          refine pw_ld E (pc' := 163) (st' := [.ref 16, pw_i 0, .ref (16 + c)]) rfl (fun _ => rfl) ?_
          refine pw_getR (b := 111) h58I E (c := 0) (k := 16) (pc' := 166) rfl rfl rfl rfl rfl rfl rfl ?_
          obtain ⟨f59l, f59h, -⟩ := pw_obj (c := c) h58I (pw_Sc_o hc)
          refine pw_call (m' := 75) (As := [.ref (16 + c), pw_i 0, .ref 111]) (rest := []) (ls'' := [some (.ref (16 + c)), some (pw_i 0), some (.ref 111), none, none, none]) (Nat.le_trans (by decide) hd) E rfl (fun _ => pw_iV rfl rfl rfl rfl (pw_cellI f59h rfl)) (rfl : pm_ent 75 = some (3, 6, 7, 0, pmc_75)) rfl rfl (cm_75_95 (pw_dp hd (by decide)) h58I c hc (0) (by omega) (by omega)) ?_
          rintro h60 v61 ⟨h60I, h60E, x62, rfl, hx62a, hx62b⟩
          refine ⟨_, rfl, ?_⟩
          have h60F := h58F.tr (h60E.wk (W' := [95, c + 5]) (by first | rfl | simp))
          show pw X d h60 156 169 [some (.ref 16), some (.ref (16 + c)), some (pw_i k), some (pw_i tn), some (pw_i x9)] [pw_i x62] _
          refine pw_if E (pc' := 176) rfl (by decide) (by omega) (by omega) ?_ ?_
          · intro hc63
            change x62 = (0 : Int) at hc63
            refine pw_ld E (pc' := 177) (st' := [pw_i 0]) rfl (fun _ => rfl) ?_
            refine pw_zret E rfl (by omega) ?_
            exact ⟨h60I, h60F, ⟨_, rfl, by omega, by omega⟩⟩
          · intro hc64
            change ¬ (x62 = (0 : Int)) at hc64
            refine pw_ld E (pc' := 173) (st' := [pw_i 1]) rfl (fun _ => rfl) ?_
            refine pw_goto E (pc' := 177) rfl (by decide) ?_
            refine pw_zret E rfl (by omega) ?_
            exact ⟨h60I, h60F, ⟨_, rfl, by omega, by omega⟩⟩
        · intro hc65
          change ¬ (x50 = (0 : Int)) at hc65
          refine pw_ld E (pc' := 129) (st' := [pw_i 1, pw_i 6, .ref 111]) rfl (fun _ => rfl) ?_
          refine pw_goto E (pc' := 133) rfl (by decide) ?_
          refine pw_ast0 h42I E (c := 95) (pc' := 134) rfl rfl rfl (by decide) rfl (by decide) (by omega) (by omega) rfl (by omega) (by omega) (by omega) (by omega) rfl ?_
          intro h66I h66E
          generalize h66w : pw_w h42 95 (Int.toNat 6) (pw_i 1) = h66 at h66I h66E ⊢
          have h66F := h42F.tr (h66E.wk (W' := [95, c + 5]) (by first | rfl | simp))
          refine pw_ld E (pc' := 135) (st' := [.ref 16]) rfl (fun _ => rfl) ?_
          refine pw_getR (b := 111) h66I E (c := 0) (k := 16) (pc' := 138) rfl rfl rfl rfl rfl rfl rfl ?_
          refine pw_bip E (pc' := 140) rfl rfl (by decide) ?_
          refine pw_ld E (pc' := 141) (st' := [.ref 16, pw_i 7, .ref 111]) rfl (fun _ => rfl) ?_
          refine pw_getR (b := 26) h66I E (c := 0) (k := 2) (pc' := 144) rfl rfl rfl rfl rfl rfl rfl ?_
          refine pw_ld E (pc' := 145) (st' := [pw_i k, .ref 26, pw_i 7, .ref 111]) rfl (fun _ => rfl) ?_
          refine pw_ld E (pc' := 147) (st' := [pw_i x9, pw_i k, .ref 26, pw_i 7, .ref 111]) rfl (fun _ => rfl) ?_
          refine pw_ld E (pc' := 148) (st' := [pw_i tn, pw_i x9, pw_i k, .ref 26, pw_i 7, .ref 111]) rfl (fun _ => rfl) ?_
          obtain ⟨f67l, f67h, -⟩ := pw_obj (c := 10) h66I rfl
          refine pw_call (m' := 20) (As := [.ref 26, pw_i k, pw_i x9, pw_i tn]) (rest := [pw_i 7, .ref 111]) (ls'' := [some (.ref 26), some (pw_i k), some (pw_i x9), some (pw_i tn)]) (Nat.le_trans (by decide) hd) E rfl (fun _ => pw_iV rfl rfl rfl rfl (pw_cellI f67h rfl)) (rfl : pm_ent 20 = some (4, 4, 2, 0, pmc_20)) rfl rfl (cm_20 (pw_dp hd (by decide)) h66I 10 (by unfold pw_Lg; omega) (k) (by omega) (by omega) (x9) (by omega) (by omega) (tn) (by omega) (by omega)) ?_
          rintro u69 v68 ⟨rfl, x70, rfl, hx70a, hx70b⟩
          refine ⟨_, rfl, ?_⟩
          show pw X d h66 156 151 [some (.ref 16), some (.ref (16 + c)), some (pw_i k), some (pw_i tn), some (pw_i x9)] [pw_i x70, pw_i 7, .ref 111] _
          refine pw_ast0 h66I E (c := 95) (pc' := 152) rfl rfl rfl (by decide) rfl (by decide) (by omega) (by omega) rfl (by omega) (by omega) (by omega) (by omega) rfl ?_
          intro h71I h71E
          generalize h71w : pw_w h66 95 (Int.toNat 7) (pw_i x70) = h71 at h71I h71E ⊢
          have h71F := h66F.tr (h71E.wk (W' := [95, c + 5]) (by first | rfl | simp))
          refine pw_ld E (pc' := 153) (st' := [.ref 16]) rfl (fun _ => rfl) ?_
          refine pw_getR (b := 111) h71I E (c := 0) (k := 16) (pc' := 156) rfl rfl rfl rfl rfl rfl rfl ?_
          refine pw_bip E (pc' := 158) rfl rfl (by decide) ?_
          refine pw_ld E (pc' := 159) (st' := [pw_i k, pw_i 8, .ref 111]) rfl (fun _ => rfl) ?_
          refine pw_ast0 h71I E (c := 95) (pc' := 160) rfl rfl rfl (by decide) rfl (by decide) (by omega) (by omega) rfl (by omega) (by omega) (by omega) (by omega) rfl ?_
          intro h72I h72E
          generalize h72w : pw_w h71 95 (Int.toNat 8) (pw_i k) = h72 at h72I h72E ⊢
          have h72F := h71F.tr (h72E.wk (W' := [95, c + 5]) (by first | rfl | simp))
          refine pw_ld E (pc' := 161) (st' := [.ref (16 + c)]) rfl (fun _ => rfl) ?_
          refine pw_ld E (pc' := 162) (st' := [pw_i 0, .ref (16 + c)]) rfl (fun _ => rfl) ?_
          refine pw_ld E (pc' := 163) (st' := [.ref 16, pw_i 0, .ref (16 + c)]) rfl (fun _ => rfl) ?_
          refine pw_getR (b := 111) h72I E (c := 0) (k := 16) (pc' := 166) rfl rfl rfl rfl rfl rfl rfl ?_
          obtain ⟨f73l, f73h, -⟩ := pw_obj (c := c) h72I (pw_Sc_o hc)
          refine pw_call (m' := 75) (As := [.ref (16 + c), pw_i 0, .ref 111]) (rest := []) (ls'' := [some (.ref (16 + c)), some (pw_i 0), some (.ref 111), none, none, none]) (Nat.le_trans (by decide) hd) E rfl (fun _ => pw_iV rfl rfl rfl rfl (pw_cellI f73h rfl)) (rfl : pm_ent 75 = some (3, 6, 7, 0, pmc_75)) rfl rfl (cm_75_95 (pw_dp hd (by decide)) h72I c hc (0) (by omega) (by omega)) ?_
          rintro h74 v75 ⟨h74I, h74E, x76, rfl, hx76a, hx76b⟩
          refine ⟨_, rfl, ?_⟩
          have h74F := h72F.tr (h74E.wk (W' := [95, c + 5]) (by first | rfl | simp))
          show pw X d h74 156 169 [some (.ref 16), some (.ref (16 + c)), some (pw_i k), some (pw_i tn), some (pw_i x9)] [pw_i x76] _
          refine pw_if E (pc' := 176) rfl (by decide) (by omega) (by omega) ?_ ?_
          · intro hc77
            change x76 = (0 : Int) at hc77
            refine pw_ld E (pc' := 177) (st' := [pw_i 0]) rfl (fun _ => rfl) ?_
            refine pw_zret E rfl (by omega) ?_
            exact ⟨h74I, h74F, ⟨_, rfl, by omega, by omega⟩⟩
          · intro hc78
            change ¬ (x76 = (0 : Int)) at hc78
            refine pw_ld E (pc' := 173) (st' := [pw_i 1]) rfl (fun _ => rfl) ?_
            refine pw_goto E (pc' := 177) rfl (by decide) ?_
            refine pw_zret E rfl (by omega) ?_
            exact ⟨h74I, h74F, ⟨_, rfl, by omega, by omega⟩⟩
    · skip
      refine pw_if E (pc' := 79) rfl (by decide) (by omega) (by omega) ?_ ?_
      · intro hc80
        change x28 = (0 : Int) at hc80
        refine pw_ld E (pc' := 80) (st' := [pw_i 0, pw_i 3, .ref 111]) rfl (fun _ => rfl) ?_
        refine pw_ast0 h24I E (c := 95) (pc' := 81) rfl rfl rfl (by decide) rfl (by decide) (by omega) (by omega) rfl (by omega) (by omega) (by omega) (by omega) rfl ?_
        intro h81I h81E
        generalize h81w : pw_w h24 95 (Int.toNat 3) (pw_i 0) = h81 at h81I h81E ⊢
        have h81F := h24F.tr (h81E.wk (W' := [95, c + 5]) (by first | rfl | simp))
        refine pw_ld E (pc' := 82) (st' := [.ref 16]) rfl (fun _ => rfl) ?_
        refine pw_getR (b := 111) h81I E (c := 0) (k := 16) (pc' := 85) rfl rfl rfl rfl rfl rfl rfl ?_
        refine pw_ld E (pc' := 86) (st' := [pw_i 4, .ref 111]) rfl (fun _ => rfl) ?_
        refine pw_ld E (pc' := 87) (st' := [.ref 16, pw_i 4, .ref 111]) rfl (fun _ => rfl) ?_
        refine pw_getR (b := 26) h81I E (c := 0) (k := 2) (pc' := 90) rfl rfl rfl rfl rfl rfl rfl ?_
        refine pw_ld E (pc' := 91) (st' := [pw_i k, .ref 26, pw_i 4, .ref 111]) rfl (fun _ => rfl) ?_
        obtain ⟨f82l, f82h, -⟩ := pw_obj (c := 10) h81I rfl
        refine pw_call (m' := 27) (As := [.ref 26, pw_i k]) (rest := [pw_i 4, .ref 111]) (ls'' := [some (.ref 26), some (pw_i k), none, none]) (Nat.le_trans (by decide) hd) E rfl (fun _ => pw_iV rfl rfl rfl rfl (pw_cellI f82h rfl)) (rfl : pm_ent 27 = some (2, 4, 2, 0, pmc_27)) rfl rfl (cm_27 (pw_dp hd (by decide)) h81I 10 (by unfold pw_Lg; omega) (k) (by omega) (by omega)) ?_
        rintro u84 v83 ⟨rfl, x85, rfl, hx85a, hx85b⟩
        refine ⟨_, rfl, ?_⟩
        show pw X d h81 156 94 [some (.ref 16), some (.ref (16 + c)), some (pw_i k), some (pw_i tn), some (pw_i x9)] [pw_i x85, pw_i 4, .ref 111] _
        refine pw_ast0 h81I E (c := 95) (pc' := 95) rfl rfl rfl (by decide) rfl (by decide) (by omega) (by omega) rfl (by omega) (by omega) (by omega) (by omega) rfl ?_
        intro h86I h86E
        generalize h86w : pw_w h81 95 (Int.toNat 4) (pw_i x85) = h86 at h86I h86E ⊢
        have h86F := h81F.tr (h86E.wk (W' := [95, c + 5]) (by first | rfl | simp))
        refine pw_ld E (pc' := 96) (st' := [.ref 16]) rfl (fun _ => rfl) ?_
        refine pw_getR (b := 111) h86I E (c := 0) (k := 16) (pc' := 99) rfl rfl rfl rfl rfl rfl rfl ?_
        refine pw_ld E (pc' := 100) (st' := [pw_i 5, .ref 111]) rfl (fun _ => rfl) ?_
        refine pw_ld E (pc' := 101) (st' := [.ref 16, pw_i 5, .ref 111]) rfl (fun _ => rfl) ?_
        refine pw_getR (b := 26) h86I E (c := 0) (k := 2) (pc' := 104) rfl rfl rfl rfl rfl rfl rfl ?_
        refine pw_ld E (pc' := 105) (st' := [pw_i k, .ref 26, pw_i 5, .ref 111]) rfl (fun _ => rfl) ?_
        obtain ⟨f87l, f87h, -⟩ := pw_obj (c := 10) h86I rfl
        refine pw_call (m' := 28) (As := [.ref 26, pw_i k]) (rest := [pw_i 5, .ref 111]) (ls'' := [some (.ref 26), some (pw_i k), none, none]) (Nat.le_trans (by decide) hd) E rfl (fun _ => pw_iV rfl rfl rfl rfl (pw_cellI f87h rfl)) (rfl : pm_ent 28 = some (2, 4, 2, 0, pmc_28)) rfl rfl (cm_28 (pw_dp hd (by decide)) h86I 10 (by unfold pw_Lg; omega) (k) (by omega) (by omega)) ?_
        rintro u89 v88 ⟨rfl, x90, rfl, hx90a, hx90b⟩
        refine ⟨_, rfl, ?_⟩
        show pw X d h86 156 108 [some (.ref 16), some (.ref (16 + c)), some (pw_i k), some (pw_i tn), some (pw_i x9)] [pw_i x90, pw_i 5, .ref 111] _
        refine pw_ast0 h86I E (c := 95) (pc' := 109) rfl rfl rfl (by decide) rfl (by decide) (by omega) (by omega) rfl (by omega) (by omega) (by omega) (by omega) rfl ?_
        intro h91I h91E
        generalize h91w : pw_w h86 95 (Int.toNat 5) (pw_i x90) = h91 at h91I h91E ⊢
        have h91F := h86F.tr (h91E.wk (W' := [95, c + 5]) (by first | rfl | simp))
        refine pw_ld E (pc' := 110) (st' := [.ref 16]) rfl (fun _ => rfl) ?_
        refine pw_getR (b := 111) h91I E (c := 0) (k := 16) (pc' := 113) rfl rfl rfl rfl rfl rfl rfl ?_
        refine pw_bip E (pc' := 115) rfl rfl (by decide) ?_
        refine pw_ld E (pc' := 116) (st' := [.ref 16, pw_i 6, .ref 111]) rfl (fun _ => rfl) ?_
        refine pw_ld E (pc' := 117) (st' := [pw_i k, .ref 16, pw_i 6, .ref 111]) rfl (fun _ => rfl) ?_
        refine pw_ld E (pc' := 118) (st' := [.ref 16, pw_i k, .ref 16, pw_i 6, .ref 111]) rfl (fun _ => rfl) ?_
        refine pw_ld E (pc' := 119) (st' := [.ref (16 + c), .ref 16, pw_i k, .ref 16, pw_i 6, .ref 111]) rfl (fun _ => rfl) ?_
        obtain ⟨f92l, f92h, -⟩ := pw_obj (c := 0) h91I rfl
        refine pw_call (m' := 158) (As := [.ref 16, .ref (16 + c)]) (rest := [pw_i k, .ref 16, pw_i 6, .ref 111]) (ls'' := [some (.ref 16), some (.ref (16 + c))]) (Nat.le_trans (by decide) hd) E rfl (fun _ => pw_iV rfl rfl rfl rfl (pw_cellI f92h rfl)) (rfl : pm_ent 158 = some (2, 2, 11, 0, pmc_158)) rfl rfl (cm_158 (pw_dp hd (by decide)) h91I c hc) ?_
        rintro u94 v93 ⟨rfl, x95, rfl, hx95a, hx95b⟩
        refine ⟨_, rfl, ?_⟩
        show pw X d h91 156 122 [some (.ref 16), some (.ref (16 + c)), some (pw_i k), some (pw_i tn), some (pw_i x9)] [pw_i x95, pw_i k, .ref 16, pw_i 6, .ref 111] _
        obtain ⟨f96l, f96h, -⟩ := pw_obj (c := 0) h91I rfl
        refine pw_call (m' := 159) (As := [.ref 16, pw_i k, pw_i x95]) (rest := [pw_i 6, .ref 111]) (ls'' := [some (.ref 16), some (pw_i k), some (pw_i x95)]) (Nat.le_trans (by decide) hd) E rfl (fun _ => pw_iV rfl rfl rfl rfl (pw_cellI f96h rfl)) (rfl : pm_ent 159 = some (3, 3, 11, 1, pmc_159)) rfl rfl (cm_159 (pw_dp hd (by decide)) h91I (k) (by omega) (by omega) (x95) (by omega) (by omega)) ?_
        rintro u98 v97 ⟨rfl, x99, rfl, hx99a, hx99b⟩
        refine ⟨_, rfl, ?_⟩
        show pw X d h91 156 125 [some (.ref 16), some (.ref (16 + c)), some (pw_i k), some (pw_i tn), some (pw_i x9)] [pw_i x99, pw_i 6, .ref 111] _
        refine pw_if E (pc' := 132) rfl (by decide) (by omega) (by omega) ?_ ?_
        · intro hc100
          change x99 = (0 : Int) at hc100
          refine pw_ld E (pc' := 133) (st' := [pw_i 0, pw_i 6, .ref 111]) rfl (fun _ => rfl) ?_
          refine pw_ast0 h91I E (c := 95) (pc' := 134) rfl rfl rfl (by decide) rfl (by decide) (by omega) (by omega) rfl (by omega) (by omega) (by omega) (by omega) rfl ?_
          intro h101I h101E
          generalize h101w : pw_w h91 95 (Int.toNat 6) (pw_i 0) = h101 at h101I h101E ⊢
          have h101F := h91F.tr (h101E.wk (W' := [95, c + 5]) (by first | rfl | simp))
          refine pw_ld E (pc' := 135) (st' := [.ref 16]) rfl (fun _ => rfl) ?_
          refine pw_getR (b := 111) h101I E (c := 0) (k := 16) (pc' := 138) rfl rfl rfl rfl rfl rfl rfl ?_
          refine pw_bip E (pc' := 140) rfl rfl (by decide) ?_
          refine pw_ld E (pc' := 141) (st' := [.ref 16, pw_i 7, .ref 111]) rfl (fun _ => rfl) ?_
          refine pw_getR (b := 26) h101I E (c := 0) (k := 2) (pc' := 144) rfl rfl rfl rfl rfl rfl rfl ?_
          refine pw_ld E (pc' := 145) (st' := [pw_i k, .ref 26, pw_i 7, .ref 111]) rfl (fun _ => rfl) ?_
          refine pw_ld E (pc' := 147) (st' := [pw_i x9, pw_i k, .ref 26, pw_i 7, .ref 111]) rfl (fun _ => rfl) ?_
          refine pw_ld E (pc' := 148) (st' := [pw_i tn, pw_i x9, pw_i k, .ref 26, pw_i 7, .ref 111]) rfl (fun _ => rfl) ?_
          obtain ⟨f102l, f102h, -⟩ := pw_obj (c := 10) h101I rfl
          refine pw_call (m' := 20) (As := [.ref 26, pw_i k, pw_i x9, pw_i tn]) (rest := [pw_i 7, .ref 111]) (ls'' := [some (.ref 26), some (pw_i k), some (pw_i x9), some (pw_i tn)]) (Nat.le_trans (by decide) hd) E rfl (fun _ => pw_iV rfl rfl rfl rfl (pw_cellI f102h rfl)) (rfl : pm_ent 20 = some (4, 4, 2, 0, pmc_20)) rfl rfl (cm_20 (pw_dp hd (by decide)) h101I 10 (by unfold pw_Lg; omega) (k) (by omega) (by omega) (x9) (by omega) (by omega) (tn) (by omega) (by omega)) ?_
          rintro u104 v103 ⟨rfl, x105, rfl, hx105a, hx105b⟩
          refine ⟨_, rfl, ?_⟩
          show pw X d h101 156 151 [some (.ref 16), some (.ref (16 + c)), some (pw_i k), some (pw_i tn), some (pw_i x9)] [pw_i x105, pw_i 7, .ref 111] _
          refine pw_ast0 h101I E (c := 95) (pc' := 152) rfl rfl rfl (by decide) rfl (by decide) (by omega) (by omega) rfl (by omega) (by omega) (by omega) (by omega) rfl ?_
          intro h106I h106E
          generalize h106w : pw_w h101 95 (Int.toNat 7) (pw_i x105) = h106 at h106I h106E ⊢
          have h106F := h101F.tr (h106E.wk (W' := [95, c + 5]) (by first | rfl | simp))
          refine pw_ld E (pc' := 153) (st' := [.ref 16]) rfl (fun _ => rfl) ?_
          refine pw_getR (b := 111) h106I E (c := 0) (k := 16) (pc' := 156) rfl rfl rfl rfl rfl rfl rfl ?_
          refine pw_bip E (pc' := 158) rfl rfl (by decide) ?_
          refine pw_ld E (pc' := 159) (st' := [pw_i k, pw_i 8, .ref 111]) rfl (fun _ => rfl) ?_
          refine pw_ast0 h106I E (c := 95) (pc' := 160) rfl rfl rfl (by decide) rfl (by decide) (by omega) (by omega) rfl (by omega) (by omega) (by omega) (by omega) rfl ?_
          intro h107I h107E
          generalize h107w : pw_w h106 95 (Int.toNat 8) (pw_i k) = h107 at h107I h107E ⊢
          have h107F := h106F.tr (h107E.wk (W' := [95, c + 5]) (by first | rfl | simp))
          refine pw_ld E (pc' := 161) (st' := [.ref (16 + c)]) rfl (fun _ => rfl) ?_
          refine pw_ld E (pc' := 162) (st' := [pw_i 0, .ref (16 + c)]) rfl (fun _ => rfl) ?_
          refine pw_ld E (pc' := 163) (st' := [.ref 16, pw_i 0, .ref (16 + c)]) rfl (fun _ => rfl) ?_
          refine pw_getR (b := 111) h107I E (c := 0) (k := 16) (pc' := 166) rfl rfl rfl rfl rfl rfl rfl ?_
          obtain ⟨f108l, f108h, -⟩ := pw_obj (c := c) h107I (pw_Sc_o hc)
          refine pw_call (m' := 75) (As := [.ref (16 + c), pw_i 0, .ref 111]) (rest := []) (ls'' := [some (.ref (16 + c)), some (pw_i 0), some (.ref 111), none, none, none]) (Nat.le_trans (by decide) hd) E rfl (fun _ => pw_iV rfl rfl rfl rfl (pw_cellI f108h rfl)) (rfl : pm_ent 75 = some (3, 6, 7, 0, pmc_75)) rfl rfl (cm_75_95 (pw_dp hd (by decide)) h107I c hc (0) (by omega) (by omega)) ?_
          rintro h109 v110 ⟨h109I, h109E, x111, rfl, hx111a, hx111b⟩
          refine ⟨_, rfl, ?_⟩
          have h109F := h107F.tr (h109E.wk (W' := [95, c + 5]) (by first | rfl | simp))
          show pw X d h109 156 169 [some (.ref 16), some (.ref (16 + c)), some (pw_i k), some (pw_i tn), some (pw_i x9)] [pw_i x111] _
          refine pw_if E (pc' := 176) rfl (by decide) (by omega) (by omega) ?_ ?_
          · intro hc112
            change x111 = (0 : Int) at hc112
            refine pw_ld E (pc' := 177) (st' := [pw_i 0]) rfl (fun _ => rfl) ?_
            refine pw_zret E rfl (by omega) ?_
            exact ⟨h109I, h109F, ⟨_, rfl, by omega, by omega⟩⟩
          · intro hc113
            change ¬ (x111 = (0 : Int)) at hc113
            refine pw_ld E (pc' := 173) (st' := [pw_i 1]) rfl (fun _ => rfl) ?_
            refine pw_goto E (pc' := 177) rfl (by decide) ?_
            refine pw_zret E rfl (by omega) ?_
            exact ⟨h109I, h109F, ⟨_, rfl, by omega, by omega⟩⟩
        · intro hc114
          change ¬ (x99 = (0 : Int)) at hc114
          refine pw_ld E (pc' := 129) (st' := [pw_i 1, pw_i 6, .ref 111]) rfl (fun _ => rfl) ?_
          refine pw_goto E (pc' := 133) rfl (by decide) ?_
          refine pw_ast0 h91I E (c := 95) (pc' := 134) rfl rfl rfl (by decide) rfl (by decide) (by omega) (by omega) rfl (by omega) (by omega) (by omega) (by omega) rfl ?_
          intro h115I h115E
          generalize h115w : pw_w h91 95 (Int.toNat 6) (pw_i 1) = h115 at h115I h115E ⊢
          have h115F := h91F.tr (h115E.wk (W' := [95, c + 5]) (by first | rfl | simp))
          refine pw_ld E (pc' := 135) (st' := [.ref 16]) rfl (fun _ => rfl) ?_
          refine pw_getR (b := 111) h115I E (c := 0) (k := 16) (pc' := 138) rfl rfl rfl rfl rfl rfl rfl ?_
          refine pw_bip E (pc' := 140) rfl rfl (by decide) ?_
          refine pw_ld E (pc' := 141) (st' := [.ref 16, pw_i 7, .ref 111]) rfl (fun _ => rfl) ?_
          refine pw_getR (b := 26) h115I E (c := 0) (k := 2) (pc' := 144) rfl rfl rfl rfl rfl rfl rfl ?_
          refine pw_ld E (pc' := 145) (st' := [pw_i k, .ref 26, pw_i 7, .ref 111]) rfl (fun _ => rfl) ?_
          refine pw_ld E (pc' := 147) (st' := [pw_i x9, pw_i k, .ref 26, pw_i 7, .ref 111]) rfl (fun _ => rfl) ?_
          refine pw_ld E (pc' := 148) (st' := [pw_i tn, pw_i x9, pw_i k, .ref 26, pw_i 7, .ref 111]) rfl (fun _ => rfl) ?_
          obtain ⟨f116l, f116h, -⟩ := pw_obj (c := 10) h115I rfl
          refine pw_call (m' := 20) (As := [.ref 26, pw_i k, pw_i x9, pw_i tn]) (rest := [pw_i 7, .ref 111]) (ls'' := [some (.ref 26), some (pw_i k), some (pw_i x9), some (pw_i tn)]) (Nat.le_trans (by decide) hd) E rfl (fun _ => pw_iV rfl rfl rfl rfl (pw_cellI f116h rfl)) (rfl : pm_ent 20 = some (4, 4, 2, 0, pmc_20)) rfl rfl (cm_20 (pw_dp hd (by decide)) h115I 10 (by unfold pw_Lg; omega) (k) (by omega) (by omega) (x9) (by omega) (by omega) (tn) (by omega) (by omega)) ?_
          rintro u118 v117 ⟨rfl, x119, rfl, hx119a, hx119b⟩
          refine ⟨_, rfl, ?_⟩
          show pw X d h115 156 151 [some (.ref 16), some (.ref (16 + c)), some (pw_i k), some (pw_i tn), some (pw_i x9)] [pw_i x119, pw_i 7, .ref 111] _
          refine pw_ast0 h115I E (c := 95) (pc' := 152) rfl rfl rfl (by decide) rfl (by decide) (by omega) (by omega) rfl (by omega) (by omega) (by omega) (by omega) rfl ?_
          intro h120I h120E
          generalize h120w : pw_w h115 95 (Int.toNat 7) (pw_i x119) = h120 at h120I h120E ⊢
          have h120F := h115F.tr (h120E.wk (W' := [95, c + 5]) (by first | rfl | simp))
          refine pw_ld E (pc' := 153) (st' := [.ref 16]) rfl (fun _ => rfl) ?_
          refine pw_getR (b := 111) h120I E (c := 0) (k := 16) (pc' := 156) rfl rfl rfl rfl rfl rfl rfl ?_
          refine pw_bip E (pc' := 158) rfl rfl (by decide) ?_
          refine pw_ld E (pc' := 159) (st' := [pw_i k, pw_i 8, .ref 111]) rfl (fun _ => rfl) ?_
          refine pw_ast0 h120I E (c := 95) (pc' := 160) rfl rfl rfl (by decide) rfl (by decide) (by omega) (by omega) rfl (by omega) (by omega) (by omega) (by omega) rfl ?_
          intro h121I h121E
          generalize h121w : pw_w h120 95 (Int.toNat 8) (pw_i k) = h121 at h121I h121E ⊢
          have h121F := h120F.tr (h121E.wk (W' := [95, c + 5]) (by first | rfl | simp))
          refine pw_ld E (pc' := 161) (st' := [.ref (16 + c)]) rfl (fun _ => rfl) ?_
          refine pw_ld E (pc' := 162) (st' := [pw_i 0, .ref (16 + c)]) rfl (fun _ => rfl) ?_
          refine pw_ld E (pc' := 163) (st' := [.ref 16, pw_i 0, .ref (16 + c)]) rfl (fun _ => rfl) ?_
          refine pw_getR (b := 111) h121I E (c := 0) (k := 16) (pc' := 166) rfl rfl rfl rfl rfl rfl rfl ?_
          obtain ⟨f122l, f122h, -⟩ := pw_obj (c := c) h121I (pw_Sc_o hc)
          refine pw_call (m' := 75) (As := [.ref (16 + c), pw_i 0, .ref 111]) (rest := []) (ls'' := [some (.ref (16 + c)), some (pw_i 0), some (.ref 111), none, none, none]) (Nat.le_trans (by decide) hd) E rfl (fun _ => pw_iV rfl rfl rfl rfl (pw_cellI f122h rfl)) (rfl : pm_ent 75 = some (3, 6, 7, 0, pmc_75)) rfl rfl (cm_75_95 (pw_dp hd (by decide)) h121I c hc (0) (by omega) (by omega)) ?_
          rintro h123 v124 ⟨h123I, h123E, x125, rfl, hx125a, hx125b⟩
          refine ⟨_, rfl, ?_⟩
          have h123F := h121F.tr (h123E.wk (W' := [95, c + 5]) (by first | rfl | simp))
          show pw X d h123 156 169 [some (.ref 16), some (.ref (16 + c)), some (pw_i k), some (pw_i tn), some (pw_i x9)] [pw_i x125] _
          refine pw_if E (pc' := 176) rfl (by decide) (by omega) (by omega) ?_ ?_
          · intro hc126
            change x125 = (0 : Int) at hc126
            refine pw_ld E (pc' := 177) (st' := [pw_i 0]) rfl (fun _ => rfl) ?_
            refine pw_zret E rfl (by omega) ?_
            exact ⟨h123I, h123F, ⟨_, rfl, by omega, by omega⟩⟩
          · intro hc127
            change ¬ (x125 = (0 : Int)) at hc127
            refine pw_ld E (pc' := 173) (st' := [pw_i 1]) rfl (fun _ => rfl) ?_
            refine pw_goto E (pc' := 177) rfl (by decide) ?_
            refine pw_zret E rfl (by omega) ?_
            exact ⟨h123I, h123F, ⟨_, rfl, by omega, by omega⟩⟩
      · intro hc128
        change ¬ (x28 = (0 : Int)) at hc128
        exfalso; omega
  · intro hc129
    change ¬ (x4 ≠ (0 : Int)) at hc129
    refine pw_ld E (pc' := 9) (st' := [pw_i 1]) rfl (fun _ => rfl) ?_
    refine pw_zret E rfl (by omega) ?_
    exact ⟨I, E0, ⟨_, rfl, by omega, by omega⟩⟩
set_option maxHeartbeats 4000000 in
theorem cm_154 {X : List (Nat × List Value)} {d : Nat} {h : pm_H} (hd : 5 ≤ d) (I : pw_I h) (wr : Int) (hwr1 : (-2147483648) ≤ wr) (hwr2 : wr ≤ 2147483647) (k : Int) (hk1 : (-2147483648) ≤ k) (hk2 : k ≤ 2147483647) : pw X d h 154 0 [some (.ref 16), some (pw_i wr), some (pw_i k), none] [] (fun h' v => pw_I h' ∧ pw_E [95, 51, 65, 79, 93] h h' ∧ ∃ a : Int, v = .inl (some (pw_i a)) ∧ (-2147483648) ≤ a ∧ a ≤ 2147483647) := by
  have E : pm_ent 154 = some (3, 4, 11, 0, pmc_154) := rfl
  have E0 : pw_E [95, 51, 65, 79, 93] h h := pw_E.rf _ _
  refine pw_ld E (pc' := 1) (st' := [pw_i wr]) rfl (fun _ => rfl) ?_
  refine pw_call (m' := 142) (As := [pw_i wr]) (rest := []) (ls'' := [some (pw_i wr)]) (Nat.le_trans (by decide) hd) E rfl (fun _ => pw_iS rfl rfl rfl) (rfl : pm_ent 142 = some (1, 1, 11, 1, pmc_142)) rfl rfl (cm_142 (pw_dp hd (by decide)) I (wr) (by omega) (by omega)) ?_
  rintro u2 v1 ⟨rfl, x3, rfl, hx3a, hx3b, hx3r⟩
  refine ⟨_, rfl, ?_⟩
  show pw X d h 154 4 [some (.ref 16), some (pw_i wr), some (pw_i k), none] [pw_i x3] _
  change (x3 = 1 ∧ 0 ≤ wr ∧ wr ≤ 3) ∨ (x3 = 0 ∧ ¬ (0 ≤ wr ∧ wr ≤ 3)) at hx3r
  rcases (by omega : x3 = 1 ∨ x3 = 0) with hb4 | hb4
  · skip
    refine pw_if E (pc' := 15) rfl (by decide) (by omega) (by omega) ?_ ?_
    · intro hc5
      change x3 = (0 : Int) at hc5
      exfalso; omega
    · intro hc6
      change ¬ (x3 = (0 : Int)) at hc6
      refine pw_ld E (pc' := 8) (st' := [.ref 16]) rfl (fun _ => rfl) ?_
      refine pw_ld E (pc' := 9) (st' := [pw_i k, .ref 16]) rfl (fun _ => rfl) ?_
      obtain ⟨f7l, f7h, -⟩ := pw_obj (c := 0) I rfl
      refine pw_call (m' := 124) (As := [.ref 16, pw_i k]) (rest := []) (ls'' := [some (.ref 16), some (pw_i k)]) (Nat.le_trans (by decide) hd) E rfl (fun _ => pw_iV rfl rfl rfl rfl (pw_cellI f7h rfl)) (rfl : pm_ent 124 = some (2, 2, 11, 1, pmc_124)) rfl rfl (cm_124 (pw_dp hd (by decide)) I (k) (by omega) (by omega)) ?_
      rintro u9 v8 ⟨rfl, x10, rfl, hx10a, hx10b, hx10r⟩
      refine ⟨_, rfl, ?_⟩
      show pw X d h 154 12 [some (.ref 16), some (pw_i wr), some (pw_i k), none] [pw_i x10] _
      change (x10 = 1 ∧ 0 ≤ k ∧ k ≤ 23) ∨ x10 = 0 at hx10r
      rcases (by omega : x10 = 1 ∨ x10 = 0) with hb11 | hb11
      · skip
        refine pw_if E (pc' := 17) rfl (by decide) (by omega) (by omega) ?_ ?_
        · intro hc12
          change x10 ≠ (0 : Int) at hc12
          refine pw_ld E (pc' := 18) (st' := [.ref 16]) rfl (fun _ => rfl) ?_
          refine pw_getR (b := 54) I E (c := 0) (k := 15) (pc' := 21) rfl rfl rfl rfl rfl rfl rfl ?_
          refine pw_ld E (pc' := 22) (st' := [pw_i wr, .ref 54]) rfl (fun _ => rfl) ?_
          rcases (by omega : wr = 0 ∨ wr = 1 ∨ wr = 2 ∨ wr = 3) with hj13 | hj13 | hj13 | hj13
          · refine pw_aald (b := 62) I E (c := 38) (pc' := 23) rfl rfl (by decide) rfl (by decide) (by omega) (by omega) (by rw [hj13]; rfl) rfl ?_
            refine pw_astn E (pc' := 24) (ls' := [some (.ref 16), some (pw_i wr), some (pw_i k), some (.ref 62)]) rfl rfl rfl rfl ?_
            refine pw_ld E (pc' := 25) (st' := [.ref 16]) rfl (fun _ => rfl) ?_
            refine pw_ld E (pc' := 26) (st' := [.ref 62, .ref 16]) rfl (fun _ => rfl) ?_
            refine pw_ld E (pc' := 27) (st' := [pw_i k, .ref 62, .ref 16]) rfl (fun _ => rfl) ?_
            refine pw_ld E (pc' := 28) (st' := [.ref 16, pw_i k, .ref 62, .ref 16]) rfl (fun _ => rfl) ?_
            refine pw_ld E (pc' := 29) (st' := [.ref 62, .ref 16, pw_i k, .ref 62, .ref 16]) rfl (fun _ => rfl) ?_
            obtain ⟨f14l, f14h, -⟩ := pw_obj (c := 0) I rfl
            refine pw_call (m' := 155) (As := [.ref 16, .ref 62]) (rest := [pw_i k, .ref 62, .ref 16]) (ls'' := [some (.ref 16), some (.ref 62)]) (Nat.le_trans (by decide) hd) E rfl (fun _ => pw_iV rfl rfl rfl rfl (pw_cellI f14h rfl)) (rfl : pm_ent 155 = some (2, 2, 11, 0, pmc_155)) rfl rfl (cm_155 (pw_dp hd (by decide)) I 46 (by unfold pw_Sc; omega)) ?_
            rintro u16 v15 ⟨rfl, x17, rfl, hx17a, hx17b⟩
            refine ⟨_, rfl, ?_⟩
            show pw X d h 154 32 [some (.ref 16), some (pw_i wr), some (pw_i k), some (.ref 62)] [pw_i x17, pw_i k, .ref 62, .ref 16] _
            obtain ⟨f18l, f18h, -⟩ := pw_obj (c := 0) I rfl
            refine pw_call (m' := 156) (As := [.ref 16, .ref 62, pw_i k, pw_i x17]) (rest := []) (ls'' := [some (.ref 16), some (.ref 62), some (pw_i k), some (pw_i x17), none]) (Nat.le_trans (by decide) hd) E rfl (fun _ => pw_iV rfl rfl rfl rfl (pw_cellI f18h rfl)) (rfl : pm_ent 156 = some (4, 5, 11, 1, pmc_156)) rfl rfl (cm_156 (pw_dp hd (by decide)) I 46 (by unfold pw_Sc; omega) (k) (by omega) (by omega) (x17) (by omega) (by omega)) ?_
            rintro h19 v20 ⟨h19I, h19E, x21, rfl, hx21a, hx21b⟩
            refine ⟨_, rfl, ?_⟩
            have h19F := E0.tr (h19E.wk (W' := [95, 51, 65, 79, 93]) (by first | rfl | simp))
            show pw X d h19 154 35 [some (.ref 16), some (pw_i wr), some (pw_i k), some (.ref 62)] [pw_i x21] _
            refine pw_if E (pc' := 42) rfl (by decide) (by omega) (by omega) ?_ ?_
            · intro hc22
              change x21 = (0 : Int) at hc22
              refine pw_ld E (pc' := 43) (st' := [pw_i 0]) rfl (fun _ => rfl) ?_
              refine pw_iret E rfl ?_
              exact ⟨h19I, h19F, ⟨_, rfl, by omega, by omega⟩⟩
            · intro hc23
              change ¬ (x21 = (0 : Int)) at hc23
              refine pw_ld E (pc' := 39) (st' := [pw_i 1]) rfl (fun _ => rfl) ?_
              refine pw_goto E (pc' := 43) rfl (by decide) ?_
              refine pw_iret E rfl ?_
              exact ⟨h19I, h19F, ⟨_, rfl, by omega, by omega⟩⟩
          · refine pw_aald (b := 76) I E (c := 38) (pc' := 23) rfl rfl (by decide) rfl (by decide) (by omega) (by omega) (by rw [hj13]; rfl) rfl ?_
            refine pw_astn E (pc' := 24) (ls' := [some (.ref 16), some (pw_i wr), some (pw_i k), some (.ref 76)]) rfl rfl rfl rfl ?_
            refine pw_ld E (pc' := 25) (st' := [.ref 16]) rfl (fun _ => rfl) ?_
            refine pw_ld E (pc' := 26) (st' := [.ref 76, .ref 16]) rfl (fun _ => rfl) ?_
            refine pw_ld E (pc' := 27) (st' := [pw_i k, .ref 76, .ref 16]) rfl (fun _ => rfl) ?_
            refine pw_ld E (pc' := 28) (st' := [.ref 16, pw_i k, .ref 76, .ref 16]) rfl (fun _ => rfl) ?_
            refine pw_ld E (pc' := 29) (st' := [.ref 76, .ref 16, pw_i k, .ref 76, .ref 16]) rfl (fun _ => rfl) ?_
            obtain ⟨f24l, f24h, -⟩ := pw_obj (c := 0) I rfl
            refine pw_call (m' := 155) (As := [.ref 16, .ref 76]) (rest := [pw_i k, .ref 76, .ref 16]) (ls'' := [some (.ref 16), some (.ref 76)]) (Nat.le_trans (by decide) hd) E rfl (fun _ => pw_iV rfl rfl rfl rfl (pw_cellI f24h rfl)) (rfl : pm_ent 155 = some (2, 2, 11, 0, pmc_155)) rfl rfl (cm_155 (pw_dp hd (by decide)) I 60 (by unfold pw_Sc; omega)) ?_
            rintro u26 v25 ⟨rfl, x27, rfl, hx27a, hx27b⟩
            refine ⟨_, rfl, ?_⟩
            show pw X d h 154 32 [some (.ref 16), some (pw_i wr), some (pw_i k), some (.ref 76)] [pw_i x27, pw_i k, .ref 76, .ref 16] _
            obtain ⟨f28l, f28h, -⟩ := pw_obj (c := 0) I rfl
            refine pw_call (m' := 156) (As := [.ref 16, .ref 76, pw_i k, pw_i x27]) (rest := []) (ls'' := [some (.ref 16), some (.ref 76), some (pw_i k), some (pw_i x27), none]) (Nat.le_trans (by decide) hd) E rfl (fun _ => pw_iV rfl rfl rfl rfl (pw_cellI f28h rfl)) (rfl : pm_ent 156 = some (4, 5, 11, 1, pmc_156)) rfl rfl (cm_156 (pw_dp hd (by decide)) I 60 (by unfold pw_Sc; omega) (k) (by omega) (by omega) (x27) (by omega) (by omega)) ?_
            rintro h29 v30 ⟨h29I, h29E, x31, rfl, hx31a, hx31b⟩
            refine ⟨_, rfl, ?_⟩
            have h29F := E0.tr (h29E.wk (W' := [95, 51, 65, 79, 93]) (by first | rfl | simp))
            show pw X d h29 154 35 [some (.ref 16), some (pw_i wr), some (pw_i k), some (.ref 76)] [pw_i x31] _
            refine pw_if E (pc' := 42) rfl (by decide) (by omega) (by omega) ?_ ?_
            · intro hc32
              change x31 = (0 : Int) at hc32
              refine pw_ld E (pc' := 43) (st' := [pw_i 0]) rfl (fun _ => rfl) ?_
              refine pw_iret E rfl ?_
              exact ⟨h29I, h29F, ⟨_, rfl, by omega, by omega⟩⟩
            · intro hc33
              change ¬ (x31 = (0 : Int)) at hc33
              refine pw_ld E (pc' := 39) (st' := [pw_i 1]) rfl (fun _ => rfl) ?_
              refine pw_goto E (pc' := 43) rfl (by decide) ?_
              refine pw_iret E rfl ?_
              exact ⟨h29I, h29F, ⟨_, rfl, by omega, by omega⟩⟩
          · refine pw_aald (b := 90) I E (c := 38) (pc' := 23) rfl rfl (by decide) rfl (by decide) (by omega) (by omega) (by rw [hj13]; rfl) rfl ?_
            refine pw_astn E (pc' := 24) (ls' := [some (.ref 16), some (pw_i wr), some (pw_i k), some (.ref 90)]) rfl rfl rfl rfl ?_
            refine pw_ld E (pc' := 25) (st' := [.ref 16]) rfl (fun _ => rfl) ?_
            refine pw_ld E (pc' := 26) (st' := [.ref 90, .ref 16]) rfl (fun _ => rfl) ?_
            refine pw_ld E (pc' := 27) (st' := [pw_i k, .ref 90, .ref 16]) rfl (fun _ => rfl) ?_
            refine pw_ld E (pc' := 28) (st' := [.ref 16, pw_i k, .ref 90, .ref 16]) rfl (fun _ => rfl) ?_
            refine pw_ld E (pc' := 29) (st' := [.ref 90, .ref 16, pw_i k, .ref 90, .ref 16]) rfl (fun _ => rfl) ?_
            obtain ⟨f34l, f34h, -⟩ := pw_obj (c := 0) I rfl
            refine pw_call (m' := 155) (As := [.ref 16, .ref 90]) (rest := [pw_i k, .ref 90, .ref 16]) (ls'' := [some (.ref 16), some (.ref 90)]) (Nat.le_trans (by decide) hd) E rfl (fun _ => pw_iV rfl rfl rfl rfl (pw_cellI f34h rfl)) (rfl : pm_ent 155 = some (2, 2, 11, 0, pmc_155)) rfl rfl (cm_155 (pw_dp hd (by decide)) I 74 (by unfold pw_Sc; omega)) ?_
            rintro u36 v35 ⟨rfl, x37, rfl, hx37a, hx37b⟩
            refine ⟨_, rfl, ?_⟩
            show pw X d h 154 32 [some (.ref 16), some (pw_i wr), some (pw_i k), some (.ref 90)] [pw_i x37, pw_i k, .ref 90, .ref 16] _
            obtain ⟨f38l, f38h, -⟩ := pw_obj (c := 0) I rfl
            refine pw_call (m' := 156) (As := [.ref 16, .ref 90, pw_i k, pw_i x37]) (rest := []) (ls'' := [some (.ref 16), some (.ref 90), some (pw_i k), some (pw_i x37), none]) (Nat.le_trans (by decide) hd) E rfl (fun _ => pw_iV rfl rfl rfl rfl (pw_cellI f38h rfl)) (rfl : pm_ent 156 = some (4, 5, 11, 1, pmc_156)) rfl rfl (cm_156 (pw_dp hd (by decide)) I 74 (by unfold pw_Sc; omega) (k) (by omega) (by omega) (x37) (by omega) (by omega)) ?_
            rintro h39 v40 ⟨h39I, h39E, x41, rfl, hx41a, hx41b⟩
            refine ⟨_, rfl, ?_⟩
            have h39F := E0.tr (h39E.wk (W' := [95, 51, 65, 79, 93]) (by first | rfl | simp))
            show pw X d h39 154 35 [some (.ref 16), some (pw_i wr), some (pw_i k), some (.ref 90)] [pw_i x41] _
            refine pw_if E (pc' := 42) rfl (by decide) (by omega) (by omega) ?_ ?_
            · intro hc42
              change x41 = (0 : Int) at hc42
              refine pw_ld E (pc' := 43) (st' := [pw_i 0]) rfl (fun _ => rfl) ?_
              refine pw_iret E rfl ?_
              exact ⟨h39I, h39F, ⟨_, rfl, by omega, by omega⟩⟩
            · intro hc43
              change ¬ (x41 = (0 : Int)) at hc43
              refine pw_ld E (pc' := 39) (st' := [pw_i 1]) rfl (fun _ => rfl) ?_
              refine pw_goto E (pc' := 43) rfl (by decide) ?_
              refine pw_iret E rfl ?_
              exact ⟨h39I, h39F, ⟨_, rfl, by omega, by omega⟩⟩
          · refine pw_aald (b := 104) I E (c := 38) (pc' := 23) rfl rfl (by decide) rfl (by decide) (by omega) (by omega) (by rw [hj13]; rfl) rfl ?_
            refine pw_astn E (pc' := 24) (ls' := [some (.ref 16), some (pw_i wr), some (pw_i k), some (.ref 104)]) rfl rfl rfl rfl ?_
            refine pw_ld E (pc' := 25) (st' := [.ref 16]) rfl (fun _ => rfl) ?_
            refine pw_ld E (pc' := 26) (st' := [.ref 104, .ref 16]) rfl (fun _ => rfl) ?_
            refine pw_ld E (pc' := 27) (st' := [pw_i k, .ref 104, .ref 16]) rfl (fun _ => rfl) ?_
            refine pw_ld E (pc' := 28) (st' := [.ref 16, pw_i k, .ref 104, .ref 16]) rfl (fun _ => rfl) ?_
            refine pw_ld E (pc' := 29) (st' := [.ref 104, .ref 16, pw_i k, .ref 104, .ref 16]) rfl (fun _ => rfl) ?_
            obtain ⟨f44l, f44h, -⟩ := pw_obj (c := 0) I rfl
            refine pw_call (m' := 155) (As := [.ref 16, .ref 104]) (rest := [pw_i k, .ref 104, .ref 16]) (ls'' := [some (.ref 16), some (.ref 104)]) (Nat.le_trans (by decide) hd) E rfl (fun _ => pw_iV rfl rfl rfl rfl (pw_cellI f44h rfl)) (rfl : pm_ent 155 = some (2, 2, 11, 0, pmc_155)) rfl rfl (cm_155 (pw_dp hd (by decide)) I 88 (by unfold pw_Sc; omega)) ?_
            rintro u46 v45 ⟨rfl, x47, rfl, hx47a, hx47b⟩
            refine ⟨_, rfl, ?_⟩
            show pw X d h 154 32 [some (.ref 16), some (pw_i wr), some (pw_i k), some (.ref 104)] [pw_i x47, pw_i k, .ref 104, .ref 16] _
            obtain ⟨f48l, f48h, -⟩ := pw_obj (c := 0) I rfl
            refine pw_call (m' := 156) (As := [.ref 16, .ref 104, pw_i k, pw_i x47]) (rest := []) (ls'' := [some (.ref 16), some (.ref 104), some (pw_i k), some (pw_i x47), none]) (Nat.le_trans (by decide) hd) E rfl (fun _ => pw_iV rfl rfl rfl rfl (pw_cellI f48h rfl)) (rfl : pm_ent 156 = some (4, 5, 11, 1, pmc_156)) rfl rfl (cm_156 (pw_dp hd (by decide)) I 88 (by unfold pw_Sc; omega) (k) (by omega) (by omega) (x47) (by omega) (by omega)) ?_
            rintro h49 v50 ⟨h49I, h49E, x51, rfl, hx51a, hx51b⟩
            refine ⟨_, rfl, ?_⟩
            have h49F := E0.tr (h49E.wk (W' := [95, 51, 65, 79, 93]) (by first | rfl | simp))
            show pw X d h49 154 35 [some (.ref 16), some (pw_i wr), some (pw_i k), some (.ref 104)] [pw_i x51] _
            refine pw_if E (pc' := 42) rfl (by decide) (by omega) (by omega) ?_ ?_
            · intro hc52
              change x51 = (0 : Int) at hc52
              refine pw_ld E (pc' := 43) (st' := [pw_i 0]) rfl (fun _ => rfl) ?_
              refine pw_iret E rfl ?_
              exact ⟨h49I, h49F, ⟨_, rfl, by omega, by omega⟩⟩
            · intro hc53
              change ¬ (x51 = (0 : Int)) at hc53
              refine pw_ld E (pc' := 39) (st' := [pw_i 1]) rfl (fun _ => rfl) ?_
              refine pw_goto E (pc' := 43) rfl (by decide) ?_
              refine pw_iret E rfl ?_
              exact ⟨h49I, h49F, ⟨_, rfl, by omega, by omega⟩⟩
        · intro hc54
          change ¬ (x10 ≠ (0 : Int)) at hc54
          exfalso; omega
      · skip
        refine pw_if E (pc' := 17) rfl (by decide) (by omega) (by omega) ?_ ?_
        · intro hc56
          change x10 ≠ (0 : Int) at hc56
          exfalso; omega
        · intro hc57
          change ¬ (x10 ≠ (0 : Int)) at hc57
          refine pw_ld E (pc' := 16) (st' := [pw_i ((-1))]) rfl (fun _ => rfl) ?_
          refine pw_iret E rfl ?_
          exact ⟨I, E0, ⟨_, rfl, by omega, by omega⟩⟩
  · skip
    refine pw_if E (pc' := 15) rfl (by decide) (by omega) (by omega) ?_ ?_
    · intro hc59
      change x3 = (0 : Int) at hc59
      refine pw_ld E (pc' := 16) (st' := [pw_i ((-1))]) rfl (fun _ => rfl) ?_
      refine pw_iret E rfl ?_
      exact ⟨I, E0, ⟨_, rfl, by omega, by omega⟩⟩
    · intro hc60
      change ¬ (x3 = (0 : Int)) at hc60
      exfalso; omega
set_option maxHeartbeats 4000000 in
theorem cm_162 {X : List (Nat × List Value)} {d : Nat} {h : pm_H} (hd : 5 ≤ d) (I : pw_I h) (b : Int) (hb1 : 0 ≤ b) (hb2 : b ≤ 11) (e : Int) (he1 : 0 ≤ e) (he2 : e ≤ 11) : pw X d h 162 0 [some (.ref 16), some (pw_i b), some (pw_i e)] [] (fun h' v => pw_I h' ∧ pw_E [17, 18] h h' ∧ ∃ a : Int, v = .inl (some (pw_i a)) ∧ 0 ≤ a ∧ a ≤ 24) := by
  have E : pm_ent 162 = some (3, 3, 11, 0, pmc_162) := rfl
  have E0 : pw_E [17, 18] h h := pw_E.rf _ _
  refine pw_ld E (pc' := 1) (st' := [.ref 16]) rfl (fun _ => rfl) ?_
  refine pw_ld E (pc' := 2) (st' := [pw_i b, .ref 16]) rfl (fun _ => rfl) ?_
  refine pw_ld E (pc' := 3) (st' := [pw_i e, pw_i b, .ref 16]) rfl (fun _ => rfl) ?_
  obtain ⟨f1l, f1h, -⟩ := pw_obj (c := 0) I rfl
  refine pw_call (m' := 138) (As := [.ref 16, pw_i b, pw_i e]) (rest := []) (ls'' := [some (.ref 16), some (pw_i b), some (pw_i e), none]) (Nat.le_trans (by decide) hd) E rfl (fun _ => pw_iV rfl rfl rfl rfl (pw_cellI f1h rfl)) (rfl : pm_ent 138 = some (3, 4, 11, 4, pmc_138)) rfl rfl (cm_138 (pw_dp hd (by decide)) I (b) (by omega) (by omega) (e) (by omega) (by omega)) ?_
  rintro h2 v3 ⟨h2I, h2E, rfl⟩
  refine ⟨_, rfl, ?_⟩
  have h2F := E0.tr (h2E.wk (W' := [17, 18]) (by first | rfl | simp))
  show pw X d h2 162 6 [some (.ref 16), some (pw_i b), some (pw_i e)] [] _
  refine pw_ld E (pc' := 7) (st' := [.ref 16]) rfl (fun _ => rfl) ?_
  refine pw_getR (b := 32) h2I E (c := 0) (k := 7) (pc' := 10) rfl rfl rfl rfl rfl rfl rfl ?_
  refine pw_ld E (pc' := 11) (st' := [pw_i 0, .ref 32]) rfl (fun _ => rfl) ?_
  obtain ⟨f4l, f4h, -⟩ := pw_obj (c := 16) h2I rfl
  refine pw_call (m' := 84) (As := [.ref 32, pw_i 0]) (rest := []) (ls'' := [some (.ref 32), some (pw_i 0), none, none]) (Nat.le_trans (by decide) hd) E rfl (fun _ => pw_iV rfl rfl rfl rfl (pw_cellI f4h rfl)) (rfl : pm_ent 84 = some (2, 4, 8, 0, pmc_84)) rfl rfl (cm_84 (pw_dp hd (by decide)) h2I (0) (by omega) (by omega)) ?_
  rintro u6 v5 ⟨rfl, x7, rfl, hx7a, hx7b⟩
  refine ⟨_, rfl, ?_⟩
  show pw X d h2 162 14 [some (.ref 16), some (pw_i b), some (pw_i e)] [pw_i x7] _
  refine pw_bip E (pc' := 16) rfl rfl (by decide) ?_
  refine pw_if2 E (pc' := 32) rfl (by decide) (by omega) (by omega) (by decide) (by decide) ?_ ?_
  · intro hc8
    change (9 : Int) < x7 at hc8
    refine pw_ld E (pc' := 33) (st' := [pw_i 0]) rfl (fun _ => rfl) ?_
    refine pw_iret E rfl ?_
    exact ⟨h2I, h2F, ⟨_, rfl, by omega, by omega⟩⟩
  · intro hc9
    change ¬ ((9 : Int) < x7) at hc9
    refine pw_ld E (pc' := 20) (st' := [.ref 16]) rfl (fun _ => rfl) ?_
    refine pw_getR (b := 32) h2I E (c := 0) (k := 7) (pc' := 23) rfl rfl rfl rfl rfl rfl rfl ?_
    refine pw_ld E (pc' := 24) (st' := [pw_i 1, .ref 32]) rfl (fun _ => rfl) ?_
    obtain ⟨f10l, f10h, -⟩ := pw_obj (c := 16) h2I rfl
    refine pw_call (m' := 84) (As := [.ref 32, pw_i 1]) (rest := []) (ls'' := [some (.ref 32), some (pw_i 1), none, none]) (Nat.le_trans (by decide) hd) E rfl (fun _ => pw_iV rfl rfl rfl rfl (pw_cellI f10h rfl)) (rfl : pm_ent 84 = some (2, 4, 8, 0, pmc_84)) rfl rfl (cm_84 (pw_dp hd (by decide)) h2I (1) (by omega) (by omega)) ?_
    rintro u12 v11 ⟨rfl, x13, rfl, hx13a, hx13b⟩
    refine ⟨_, rfl, ?_⟩
    show pw X d h2 162 27 [some (.ref 16), some (pw_i b), some (pw_i e)] [pw_i x13] _
    refine pw_bip E (pc' := 29) rfl rfl (by decide) ?_
    refine pw_if2 E (pc' := 34) rfl (by decide) (by omega) (by omega) (by decide) (by decide) ?_ ?_
    · intro hc14
      change x13 ≤ (9 : Int) at hc14
      refine pw_ld E (pc' := 35) (st' := [.ref 16]) rfl (fun _ => rfl) ?_
      refine pw_getR (b := 32) h2I E (c := 0) (k := 7) (pc' := 38) rfl rfl rfl rfl rfl rfl rfl ?_
      refine pw_ld E (pc' := 39) (st' := [pw_i 0, .ref 32]) rfl (fun _ => rfl) ?_
      obtain ⟨f15l, f15h, -⟩ := pw_obj (c := 16) h2I rfl
      refine pw_call (m' := 84) (As := [.ref 32, pw_i 0]) (rest := []) (ls'' := [some (.ref 32), some (pw_i 0), none, none]) (Nat.le_trans (by decide) hd) E rfl (fun _ => pw_iV rfl rfl rfl rfl (pw_cellI f15h rfl)) (rfl : pm_ent 84 = some (2, 4, 8, 0, pmc_84)) rfl rfl (cm_84 (pw_dp hd (by decide)) h2I (0) (by omega) (by omega)) ?_
      rintro u17 v16 ⟨rfl, x18, rfl, hx18a, hx18b⟩
      refine ⟨_, rfl, ?_⟩
      show pw X d h2 162 42 [some (.ref 16), some (pw_i b), some (pw_i e)] [pw_i x18] _
      refine pw_ld E (pc' := 43) (st' := [.ref 16, pw_i x18]) rfl (fun _ => rfl) ?_
      refine pw_getR (b := 32) h2I E (c := 0) (k := 7) (pc' := 46) rfl rfl rfl rfl rfl rfl rfl ?_
      refine pw_ld E (pc' := 47) (st' := [pw_i 1, .ref 32, pw_i x18]) rfl (fun _ => rfl) ?_
      obtain ⟨f19l, f19h, -⟩ := pw_obj (c := 16) h2I rfl
      refine pw_call (m' := 84) (As := [.ref 32, pw_i 1]) (rest := [pw_i x18]) (ls'' := [some (.ref 32), some (pw_i 1), none, none]) (Nat.le_trans (by decide) hd) E rfl (fun _ => pw_iV rfl rfl rfl rfl (pw_cellI f19h rfl)) (rfl : pm_ent 84 = some (2, 4, 8, 0, pmc_84)) rfl rfl (cm_84 (pw_dp hd (by decide)) h2I (1) (by omega) (by omega)) ?_
      rintro u21 v20 ⟨rfl, x22, rfl, hx22a, hx22b⟩
      refine ⟨_, rfl, ?_⟩
      show pw X d h2 162 50 [some (.ref 16), some (pw_i b), some (pw_i e)] [pw_i x22, pw_i x18] _
      refine pw_min E rfl rfl (by omega) (by omega) (by omega) (by omega) rfl ?_
      refine pw_iret E rfl ?_
      exact ⟨h2I, h2F, ⟨_, rfl, by omega, by omega⟩⟩
    · intro hc23
      change ¬ (x13 ≤ (9 : Int)) at hc23
      refine pw_ld E (pc' := 33) (st' := [pw_i 0]) rfl (fun _ => rfl) ?_
      refine pw_iret E rfl ?_
      exact ⟨h2I, h2F, ⟨_, rfl, by omega, by omega⟩⟩
set_option maxHeartbeats 4000000 in
theorem cm_161 {X : List (Nat × List Value)} {d : Nat} {h : pm_H} (hd : 6 ≤ d) (I : pw_I h) (b : Int) (hb1 : (-2147483648) ≤ b) (hb2 : b ≤ 2147483647) (e : Int) (he1 : (-2147483648) ≤ e) (he2 : e ≤ 2147483647) (k : Int) (hk1 : (-2147483648) ≤ k) (hk2 : k ≤ 2147483647) (wt : Int) (hwt1 : (-2147483648) ≤ wt) (hwt2 : wt ≤ 2147483647) : pw X d h 161 0 [some (.ref 16), some (pw_i b), some (pw_i e), some (pw_i k), some (pw_i wt)] [] (fun h' v => pw_I h' ∧ pw_E [17, 18, 19, 20, 21, 22] h h' ∧ ∃ w : Int64, v = .inl (some (.long w))) := by
  have E : pm_ent 161 = some (5, 5, 11, 2, pmc_161) := rfl
  have E0 : pw_E [17, 18, 19, 20, 21, 22] h h := pw_E.rf _ _
  refine pw_ld E (pc' := 1) (st' := [pw_i b]) rfl (fun _ => rfl) ?_
  refine pw_ld E (pc' := 2) (st' := [pw_i e, pw_i b]) rfl (fun _ => rfl) ?_
  refine pw_call (m' := 131) (As := [pw_i b, pw_i e]) (rest := []) (ls'' := [some (pw_i b), some (pw_i e)]) (Nat.le_trans (by decide) hd) E rfl (fun _ => pw_iS rfl rfl rfl) (rfl : pm_ent 131 = some (2, 2, 11, 1, pmc_131)) rfl rfl (cm_131 (pw_dp hd (by decide)) I (b) (by omega) (by omega) (e) (by omega) (by omega)) ?_
  rintro u2 v1 ⟨rfl, x3, rfl, hx3a, hx3b, hx3r⟩
  refine ⟨_, rfl, ?_⟩
  show pw X d h 161 5 [some (.ref 16), some (pw_i b), some (pw_i e), some (pw_i k), some (pw_i wt)] [pw_i x3] _
  change (x3 = 1 ∧ 0 ≤ b ∧ b ≤ 11 ∧ 0 ≤ e ∧ e ≤ 11) ∨ x3 = 0 at hx3r
  rcases (by omega : x3 = 1 ∨ x3 = 0) with hb4 | hb4
  · skip
    refine pw_if E (pc' := 26) rfl (by decide) (by omega) (by omega) ?_ ?_
    · intro hc5
      change x3 = (0 : Int) at hc5
      exfalso; omega
    · intro hc6
      change ¬ (x3 = (0 : Int)) at hc6
      refine pw_ld E (pc' := 9) (st' := [pw_i k]) rfl (fun _ => rfl) ?_
      refine pw_ld E (pc' := 10) (st' := [pw_i 1, pw_i k]) rfl (fun _ => rfl) ?_
      refine pw_bip E (pc' := 12) rfl rfl (by decide) ?_
      refine pw_call (m' := 121) (As := [pw_i k, pw_i 1, pw_i 9]) (rest := []) (ls'' := [some (pw_i k), some (pw_i 1), some (pw_i 9)]) (Nat.le_trans (by decide) hd) E rfl (fun _ => pw_iS rfl rfl rfl) (rfl : pm_ent 121 = some (3, 3, 11, 1, pmc_121)) rfl rfl (cm_121 (pw_dp hd (by decide)) I (k) (by omega) (by omega) (1) (by omega) (by omega) (9) (by omega) (by omega)) ?_
      rintro u8 v7 ⟨rfl, x9, rfl, hx9a, hx9b, hx9r⟩
      refine ⟨_, rfl, ?_⟩
      show pw X d h 161 15 [some (.ref 16), some (pw_i b), some (pw_i e), some (pw_i k), some (pw_i wt)] [pw_i x9] _
      change (x9 = 1 ∧ 1 ≤ k ∧ k ≤ 9) ∨ (x9 = 0 ∧ ¬ (1 ≤ k ∧ k ≤ 9)) at hx9r
      rcases (by omega : x9 = 1 ∨ x9 = 0) with hb10 | hb10
      · skip
        refine pw_if E (pc' := 26) rfl (by decide) (by omega) (by omega) ?_ ?_
        · intro hc11
          change x9 = (0 : Int) at hc11
          exfalso; omega
        · intro hc12
          change ¬ (x9 = (0 : Int)) at hc12
          refine pw_ld E (pc' := 20) (st' := [pw_i wt]) rfl (fun _ => rfl) ?_
          refine pw_call (m' := 137) (As := [pw_i wt]) (rest := []) (ls'' := [some (pw_i wt)]) (Nat.le_trans (by decide) hd) E rfl (fun _ => pw_iS rfl rfl rfl) (rfl : pm_ent 137 = some (1, 1, 11, 1, pmc_137)) rfl rfl (cm_137 (pw_dp hd (by decide)) I (wt) (by omega) (by omega)) ?_
          rintro u14 v13 ⟨rfl, x15, rfl, hx15a, hx15b, hx15r⟩
          refine ⟨_, rfl, ?_⟩
          show pw X d h 161 23 [some (.ref 16), some (pw_i b), some (pw_i e), some (pw_i k), some (pw_i wt)] [pw_i x15] _
          change (x15 = 1 ∧ 0 ≤ wt ∧ wt ≤ 1) ∨ (x15 = 0 ∧ ¬ (0 ≤ wt ∧ wt ≤ 1)) at hx15r
          rcases (by omega : x15 = 1 ∨ x15 = 0) with hb16 | hb16
          · skip
            refine pw_if E (pc' := 30) rfl (by decide) (by omega) (by omega) ?_ ?_
            · intro hc17
              change x15 ≠ (0 : Int) at hc17
              refine pw_ld E (pc' := 31) (st' := [pw_i k]) rfl (fun _ => rfl) ?_
              refine pw_ld E (pc' := 32) (st' := [.ref 16, pw_i k]) rfl (fun _ => rfl) ?_
              refine pw_ld E (pc' := 33) (st' := [pw_i b, .ref 16, pw_i k]) rfl (fun _ => rfl) ?_
              refine pw_ld E (pc' := 34) (st' := [pw_i e, pw_i b, .ref 16, pw_i k]) rfl (fun _ => rfl) ?_
              obtain ⟨f18l, f18h, -⟩ := pw_obj (c := 0) I rfl
              refine pw_call (m' := 162) (As := [.ref 16, pw_i b, pw_i e]) (rest := [pw_i k]) (ls'' := [some (.ref 16), some (pw_i b), some (pw_i e)]) (Nat.le_trans (by decide) hd) E rfl (fun _ => pw_iV rfl rfl rfl rfl (pw_cellI f18h rfl)) (rfl : pm_ent 162 = some (3, 3, 11, 0, pmc_162)) rfl rfl (cm_162 (pw_dp hd (by decide)) I (b) (by omega) (by omega) (e) (by omega) (by omega)) ?_
              rintro h19 v20 ⟨h19I, h19E, x21, rfl, hx21a, hx21b⟩
              refine ⟨_, rfl, ?_⟩
              have h19F := E0.tr (h19E.wk (W' := [17, 18, 19, 20, 21, 22]) (by first | rfl | simp))
              show pw X d h19 161 37 [some (.ref 16), some (pw_i b), some (pw_i e), some (pw_i k), some (pw_i wt)] [pw_i x21, pw_i k] _
              refine pw_if2 E (pc' := 44) rfl (by decide) (by omega) (by omega) (by omega) (by omega) ?_ ?_
              · intro hc22
                change k ≤ x21 at hc22
                refine pw_ld E (pc' := 45) (st' := [.ref 16]) rfl (fun _ => rfl) ?_
                refine pw_getR (b := 32) h19I E (c := 0) (k := 7) (pc' := 48) rfl rfl rfl rfl rfl rfl rfl ?_
                refine pw_ld E (pc' := 49) (st' := [pw_i k, .ref 32]) rfl (fun _ => rfl) ?_
                refine pw_ld E (pc' := 50) (st' := [.ref 16, pw_i k, .ref 32]) rfl (fun _ => rfl) ?_
                refine pw_getR (b := 38) h19I E (c := 0) (k := 8) (pc' := 53) rfl rfl rfl rfl rfl rfl rfl ?_
                obtain ⟨f23l, f23h, -⟩ := pw_obj (c := 16) h19I rfl
                refine pw_call (m' := 90) (As := [.ref 32, pw_i k, .ref 38]) (rest := []) (ls'' := [some (.ref 32), some (pw_i k), some (.ref 38), none, none, none, none, none, none, none]) (Nat.le_trans (by decide) hd) E rfl (fun _ => pw_iV rfl rfl rfl rfl (pw_cellI f23h rfl)) (rfl : pm_ent 90 = some (3, 10, 8, 4, pmc_90)) rfl rfl (cm_90 (pw_dp hd (by decide)) h19I (k) (by omega) (by omega) 22 (by unfold pw_Fr; omega)) ?_
                rintro h24 v25 ⟨h24I, h24E, rfl⟩
                refine ⟨_, rfl, ?_⟩
                have h24F := h19F.tr (h24E.wk (W' := [17, 18, 19, 20, 21, 22]) (by first | rfl | simp))
                show pw X d h24 161 56 [some (.ref 16), some (pw_i b), some (pw_i e), some (pw_i k), some (pw_i wt)] [] _
                refine pw_ld E (pc' := 57) (st' := [.ref 16]) rfl (fun _ => rfl) ?_
                refine pw_getR (b := 38) h24I E (c := 0) (k := 8) (pc' := 60) rfl rfl rfl rfl rfl rfl rfl ?_
                refine pw_ld E (pc' := 62) (st' := [pw_i wt, .ref 38]) rfl (fun _ => rfl) ?_
                obtain ⟨f26l, f26h, -⟩ := pw_obj (c := 22) h24I rfl
                refine pw_call (m' := 9) (As := [.ref 38, pw_i wt]) (rest := []) (ls'' := [some (.ref 38), some (pw_i wt)]) (Nat.le_trans (by decide) hd) E rfl (fun _ => pw_iV rfl rfl rfl rfl (pw_cellI f26h rfl)) (rfl : pm_ent 9 = some (2, 2, 1, 2, pmc_9)) rfl rfl (cm_9 (pw_dp hd (by decide)) h24I 22 (by unfold pw_Fr; omega) (wt) (by omega) (by omega)) ?_
                rintro u28 v27 ⟨rfl, w29, rfl⟩
                refine ⟨_, rfl, ?_⟩
                show pw X d h24 161 65 [some (.ref 16), some (pw_i b), some (pw_i e), some (pw_i k), some (pw_i wt)] [.long w29] _
                refine pw_lret E rfl ?_
                exact ⟨h24I, h24F, ⟨_, rfl⟩⟩
              · intro hc30
                change ¬ (k ≤ x21) at hc30
                refine pw_ld E (pc' := 43) (st' := [.long (Int64.ofNat 18446744073709551615)]) rfl (fun _ => rfl) ?_
                refine pw_lret E rfl ?_
                exact ⟨h19I, h19F, ⟨_, rfl⟩⟩
            · intro hc31
              change ¬ (x15 ≠ (0 : Int)) at hc31
              exfalso; omega
          · skip
            refine pw_if E (pc' := 30) rfl (by decide) (by omega) (by omega) ?_ ?_
            · intro hc33
              change x15 ≠ (0 : Int) at hc33
              exfalso; omega
            · intro hc34
              change ¬ (x15 ≠ (0 : Int)) at hc34
              refine pw_ld E (pc' := 29) (st' := [.long (Int64.ofNat 18446744073709551615)]) rfl (fun _ => rfl) ?_
              refine pw_lret E rfl ?_
              exact ⟨I, E0, ⟨_, rfl⟩⟩
      · skip
        refine pw_if E (pc' := 26) rfl (by decide) (by omega) (by omega) ?_ ?_
        · intro hc36
          change x9 = (0 : Int) at hc36
          refine pw_ld E (pc' := 29) (st' := [.long (Int64.ofNat 18446744073709551615)]) rfl (fun _ => rfl) ?_
          refine pw_lret E rfl ?_
          exact ⟨I, E0, ⟨_, rfl⟩⟩
        · intro hc37
          change ¬ (x9 = (0 : Int)) at hc37
          exfalso; omega
  · skip
    refine pw_if E (pc' := 26) rfl (by decide) (by omega) (by omega) ?_ ?_
    · intro hc39
      change x3 = (0 : Int) at hc39
      refine pw_ld E (pc' := 29) (st' := [.long (Int64.ofNat 18446744073709551615)]) rfl (fun _ => rfl) ?_
      refine pw_lret E rfl ?_
      exact ⟨I, E0, ⟨_, rfl⟩⟩
    · intro hc40
      change ¬ (x3 = (0 : Int)) at hc40
      exfalso; omega
set_option maxHeartbeats 4000000 in
theorem cm_163 {X : List (Nat × List Value)} {d : Nat} {h : pm_H} (hd : 6 ≤ d) (I : pw_I h) (b : Int) (hb1 : (-2147483648) ≤ b) (hb2 : b ≤ 2147483647) (e : Int) (he1 : (-2147483648) ≤ e) (he2 : e ≤ 2147483647) (p : Int) (hp1 : (-2147483648) ≤ p) (hp2 : p ≤ 2147483647) : pw X d h 163 0 [some (.ref 16), some (pw_i b), some (pw_i e), some (pw_i p), none, none] [] (fun h' v => pw_I h' ∧ pw_E [17, 18, 19, 20, 21, 22] h h' ∧ ∃ a : Int, v = .inl (some (pw_i a)) ∧ (-2147483648) ≤ a ∧ a ≤ 2147483647) := by
  have E : pm_ent 163 = some (4, 6, 11, 0, pmc_163) := rfl
  have E0 : pw_E [17, 18, 19, 20, 21, 22] h h := pw_E.rf _ _
  refine pw_ld E (pc' := 1) (st' := [pw_i b]) rfl (fun _ => rfl) ?_
  refine pw_ld E (pc' := 2) (st' := [pw_i e, pw_i b]) rfl (fun _ => rfl) ?_
  refine pw_call (m' := 131) (As := [pw_i b, pw_i e]) (rest := []) (ls'' := [some (pw_i b), some (pw_i e)]) (Nat.le_trans (by decide) hd) E rfl (fun _ => pw_iS rfl rfl rfl) (rfl : pm_ent 131 = some (2, 2, 11, 1, pmc_131)) rfl rfl (cm_131 (pw_dp hd (by decide)) I (b) (by omega) (by omega) (e) (by omega) (by omega)) ?_
  rintro u2 v1 ⟨rfl, x3, rfl, hx3a, hx3b, hx3r⟩
  refine ⟨_, rfl, ?_⟩
  show pw X d h 163 5 [some (.ref 16), some (pw_i b), some (pw_i e), some (pw_i p), none, none] [pw_i x3] _
  change (x3 = 1 ∧ 0 ≤ b ∧ b ≤ 11 ∧ 0 ≤ e ∧ e ≤ 11) ∨ x3 = 0 at hx3r
  rcases (by omega : x3 = 1 ∨ x3 = 0) with hb4 | hb4
  · skip
    refine pw_if E (pc' := 18) rfl (by decide) (by omega) (by omega) ?_ ?_
    · intro hc5
      change x3 = (0 : Int) at hc5
      exfalso; omega
    · intro hc6
      change ¬ (x3 = (0 : Int)) at hc6
      refine pw_ld E (pc' := 9) (st' := [pw_i p]) rfl (fun _ => rfl) ?_
      refine pw_ld E (pc' := 10) (st' := [pw_i 1, pw_i p]) rfl (fun _ => rfl) ?_
      refine pw_bip E (pc' := 12) rfl rfl (by decide) ?_
      refine pw_call (m' := 121) (As := [pw_i p, pw_i 1, pw_i 100]) (rest := []) (ls'' := [some (pw_i p), some (pw_i 1), some (pw_i 100)]) (Nat.le_trans (by decide) hd) E rfl (fun _ => pw_iS rfl rfl rfl) (rfl : pm_ent 121 = some (3, 3, 11, 1, pmc_121)) rfl rfl (cm_121 (pw_dp hd (by decide)) I (p) (by omega) (by omega) (1) (by omega) (by omega) (100) (by omega) (by omega)) ?_
      rintro u8 v7 ⟨rfl, x9, rfl, hx9a, hx9b, hx9r⟩
      refine ⟨_, rfl, ?_⟩
      show pw X d h 163 15 [some (.ref 16), some (pw_i b), some (pw_i e), some (pw_i p), none, none] [pw_i x9] _
      change (x9 = 1 ∧ 1 ≤ p ∧ p ≤ 100) ∨ (x9 = 0 ∧ ¬ (1 ≤ p ∧ p ≤ 100)) at hx9r
      rcases (by omega : x9 = 1 ∨ x9 = 0) with hb10 | hb10
      · skip
        refine pw_if E (pc' := 20) rfl (by decide) (by omega) (by omega) ?_ ?_
        · intro hc11
          change x9 ≠ (0 : Int) at hc11
          refine pw_ld E (pc' := 21) (st' := [.ref 16]) rfl (fun _ => rfl) ?_
          refine pw_ld E (pc' := 22) (st' := [pw_i b, .ref 16]) rfl (fun _ => rfl) ?_
          refine pw_ld E (pc' := 23) (st' := [pw_i e, pw_i b, .ref 16]) rfl (fun _ => rfl) ?_
          obtain ⟨f12l, f12h, -⟩ := pw_obj (c := 0) I rfl
          refine pw_call (m' := 162) (As := [.ref 16, pw_i b, pw_i e]) (rest := []) (ls'' := [some (.ref 16), some (pw_i b), some (pw_i e)]) (Nat.le_trans (by decide) hd) E rfl (fun _ => pw_iV rfl rfl rfl rfl (pw_cellI f12h rfl)) (rfl : pm_ent 162 = some (3, 3, 11, 0, pmc_162)) rfl rfl (cm_162 (pw_dp hd (by decide)) I (b) (by omega) (by omega) (e) (by omega) (by omega)) ?_
          rintro h13 v14 ⟨h13I, h13E, x15, rfl, hx15a, hx15b⟩
          refine ⟨_, rfl, ?_⟩
          have h13F := E0.tr (h13E.wk (W' := [17, 18, 19, 20, 21, 22]) (by first | rfl | simp))
          show pw X d h13 163 26 [some (.ref 16), some (pw_i b), some (pw_i e), some (pw_i p), none, none] [pw_i x15] _
          refine pw_ist E (pc' := 28) (ls' := [some (.ref 16), some (pw_i b), some (pw_i e), some (pw_i p), some (pw_i x15), none]) rfl rfl rfl rfl ?_
          refine pw_ld E (pc' := 29) (st' := [pw_i 1]) rfl (fun _ => rfl) ?_
          refine pw_ist E (pc' := 31) (ls' := [some (.ref 16), some (pw_i b), some (pw_i e), some (pw_i p), some (pw_i x15), some (pw_i 1)]) rfl rfl rfl rfl ?_
          have L31 : ∀ (n31 : Nat) (k31_5 : Int) (h31 : pm_H), pw_I h31 → pw_E [17, 18, 19, 20, 21, 22] h h31 → 1 ≤ k31_5 → k31_5 ≤ 25 → (25 - k31_5).toNat = n31 → pw X d h31 163 31 [some (.ref 16), some (pw_i b), some (pw_i e), some (pw_i p), some (pw_i x15), some (pw_i k31_5)] [] (fun h' v => pw_I h' ∧ pw_E [17, 18, 19, 20, 21, 22] h h' ∧ ∃ a : Int, v = .inl (some (pw_i a)) ∧ (-2147483648) ≤ a ∧ a ≤ 2147483647) := by
            intro n31
            induction n31 using Nat.strongRecOn with
            | ind n31 ih31 =>
              intro k31_5 h31 I31 E31 k31_5a k31_5b hm31
              refine pw_ld E (pc' := 33) (st' := [pw_i k31_5]) rfl (fun _ => rfl) ?_
              refine pw_ld E (pc' := 35) (st' := [pw_i x15, pw_i k31_5]) rfl (fun _ => rfl) ?_
              refine pw_if2 E (pc' := 75) rfl (by decide) (by omega) (by omega) (by omega) (by omega) ?_ ?_
              · intro hc16
                change x15 < k31_5 at hc16
                refine pw_ld E (pc' := 76) (st' := [pw_i ((-1))]) rfl (fun _ => rfl) ?_
                refine pw_iret E rfl ?_
                exact ⟨I31, E31, ⟨_, rfl, by omega, by omega⟩⟩
              · intro hc17
                change ¬ (x15 < k31_5) at hc17
                refine pw_ld E (pc' := 39) (st' := [.ref 16]) rfl (fun _ => rfl) ?_
                refine pw_getR (b := 32) I31 E (c := 0) (k := 7) (pc' := 42) rfl rfl rfl rfl rfl rfl rfl ?_
                refine pw_ld E (pc' := 44) (st' := [pw_i k31_5, .ref 32]) rfl (fun _ => rfl) ?_
                refine pw_ld E (pc' := 45) (st' := [.ref 16, pw_i k31_5, .ref 32]) rfl (fun _ => rfl) ?_
                refine pw_getR (b := 38) I31 E (c := 0) (k := 8) (pc' := 48) rfl rfl rfl rfl rfl rfl rfl ?_
                obtain ⟨f18l, f18h, -⟩ := pw_obj (c := 16) I31 rfl
                refine pw_call (m' := 90) (As := [.ref 32, pw_i k31_5, .ref 38]) (rest := []) (ls'' := [some (.ref 32), some (pw_i k31_5), some (.ref 38), none, none, none, none, none, none, none]) (Nat.le_trans (by decide) hd) E rfl (fun _ => pw_iV rfl rfl rfl rfl (pw_cellI f18h rfl)) (rfl : pm_ent 90 = some (3, 10, 8, 4, pmc_90)) rfl rfl (cm_90 (pw_dp hd (by decide)) I31 (k31_5) (by omega) (by omega) 22 (by unfold pw_Fr; omega)) ?_
                rintro h19 v20 ⟨h19I, h19E, rfl⟩
                refine ⟨_, rfl, ?_⟩
                have h19F := E31.tr (h19E.wk (W' := [17, 18, 19, 20, 21, 22]) (by first | rfl | simp))
                show pw X d h19 163 51 [some (.ref 16), some (pw_i b), some (pw_i e), some (pw_i p), some (pw_i x15), some (pw_i k31_5)] [] _
                refine pw_ld E (pc' := 52) (st' := [.ref 16]) rfl (fun _ => rfl) ?_
                refine pw_getR (b := 38) h19I E (c := 0) (k := 8) (pc' := 55) rfl rfl rfl rfl rfl rfl rfl ?_
                refine pw_ld E (pc' := 56) (st' := [pw_i p, .ref 38]) rfl (fun _ => rfl) ?_
                refine pw_ld E (pc' := 57) (st' := [.long ((Int32.ofInt p).toInt64), .ref 38]) rfl (fun _ => rfl) ?_
                refine pw_ld E (pc' := 60) (st' := [.long (Int64.ofNat 100), .long ((Int32.ofInt p).toInt64), .ref 38]) rfl (fun _ => rfl) ?_
                obtain ⟨f21l, f21h, -⟩ := pw_obj (c := 22) h19I rfl
                refine pw_call (m' := 13) (As := [.ref 38, .long ((Int32.ofInt p).toInt64), .long (Int64.ofNat 100)]) (rest := []) (ls'' := [some (.ref 38), some (.long ((Int32.ofInt p).toInt64)), none, some (.long (Int64.ofNat 100)), none]) (Nat.le_trans (by decide) hd) E rfl (fun _ => pw_iV rfl rfl rfl rfl (pw_cellI f21h rfl)) (rfl : pm_ent 13 = some (3, 5, 1, 1, pmc_13)) rfl rfl (cm_13 (pw_dp hd (by decide)) h19I 22 (by unfold pw_Fr; omega) ((Int32.ofInt p).toInt64) (Int64.ofNat 100)) ?_
                rintro u23 v22 ⟨rfl, x24, rfl, hx24a, hx24b⟩
                refine ⟨_, rfl, ?_⟩
                show pw X d h19 163 63 [some (.ref 16), some (pw_i b), some (pw_i e), some (pw_i p), some (pw_i x15), some (pw_i k31_5)] [pw_i x24] _
                refine pw_if E (pc' := 69) rfl (by decide) (by omega) (by omega) ?_ ?_
                · intro hc25
                  change x24 = (0 : Int) at hc25
                  refine pw_inc E (pc' := 72) (ls' := [some (.ref 16), some (pw_i b), some (pw_i e), some (pw_i p), some (pw_i x15), some (pw_i (k31_5 + 1))]) rfl rfl rfl rfl ?_
                  refine pw_goto E (pc' := 31) rfl (by decide) ?_
                  exact ih31 _ (by omega) (k31_5 + 1) h19 h19I h19F (by omega) (by omega)  rfl
                · intro hc26
                  change ¬ (x24 = (0 : Int)) at hc26
                  refine pw_ld E (pc' := 68) (st' := [pw_i k31_5]) rfl (fun _ => rfl) ?_
                  refine pw_iret E rfl ?_
                  exact ⟨h19I, h19F, ⟨_, rfl, by omega, by omega⟩⟩
          exact L31 _ (1) h13 h13I h13F (by omega) (by omega)  rfl
        · intro hc27
          change ¬ (x9 ≠ (0 : Int)) at hc27
          exfalso; omega
      · skip
        refine pw_if E (pc' := 20) rfl (by decide) (by omega) (by omega) ?_ ?_
        · intro hc29
          change x9 ≠ (0 : Int) at hc29
          exfalso; omega
        · intro hc30
          change ¬ (x9 ≠ (0 : Int)) at hc30
          refine pw_ld E (pc' := 19) (st' := [pw_i ((-1))]) rfl (fun _ => rfl) ?_
          refine pw_iret E rfl ?_
          exact ⟨I, E0, ⟨_, rfl, by omega, by omega⟩⟩
  · skip
    refine pw_if E (pc' := 18) rfl (by decide) (by omega) (by omega) ?_ ?_
    · intro hc32
      change x3 = (0 : Int) at hc32
      refine pw_ld E (pc' := 19) (st' := [pw_i ((-1))]) rfl (fun _ => rfl) ?_
      refine pw_iret E rfl ?_
      exact ⟨I, E0, ⟨_, rfl, by omega, by omega⟩⟩
    · intro hc33
      change ¬ (x3 = (0 : Int)) at hc33
      exfalso; omega

