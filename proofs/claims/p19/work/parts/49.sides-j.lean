section
/-! contracts (printed by wip/tool/pwspec.py) -/
set_option maxHeartbeats 4000000 in
theorem cm_95 {X : List (Nat × List Value)} {d : Nat} {h : pm_H} (hd : 1 ≤ d) (I : pw_I h) (n : Int) (hn1 : 0 ≤ n) (hn2 : n ≤ 24) : pw X d h 95 0 [some (.ref 32), some (pw_i n), none, none, none] [] (fun h' v => pw_I h' ∧ pw_E [19] h h' ∧ v = .inl none) := by
  have E : pm_ent 95 = some (2, 5, 8, 4, pmc_95) := rfl
  have E0 : pw_E [19] h h := pw_E.rf _ _
  refine pw_ld E (pc' := 1) (st' := [pw_i 1]) rfl (fun _ => rfl) ?_
  refine pw_istn E (pc' := 2) (ls' := [some (.ref 32), some (pw_i n), some (pw_i 1), none, none]) rfl rfl rfl rfl ?_
  have L2 : ∀ (n2 : Nat) (k2_2 : Int) (k2_3 : Option Value) (k2_4 : Option Value) (h2 : pm_H), pw_I h2 → pw_E [19] h h2 → 1 ≤ k2_2 → k2_2 ≤ 24 → (24 - k2_2).toNat = n2 → pw X d h2 95 2 [some (.ref 32), some (pw_i n), some (pw_i k2_2), k2_3, k2_4] [] (fun h' v => pw_I h' ∧ pw_E [19] h h' ∧ v = .inl none) := by
    intro n2
    induction n2 using Nat.strongRecOn with
    | ind n2 ih2 =>
      intro k2_2 k2_3 k2_4 h2 I2 E2 k2_2a k2_2b hm2
      refine pw_ld E (pc' := 3) (st' := [pw_i k2_2]) rfl (fun _ => rfl) ?_
      refine pw_ld E (pc' := 4) (st' := [pw_i n, pw_i k2_2]) rfl (fun _ => rfl) ?_
      refine pw_if2 E (pc' := 71) rfl (by decide) (by omega) (by omega) (by omega) (by omega) ?_ ?_
      · intro hc1
        change n ≤ k2_2 at hc1
        refine pw_vret E rfl ?_
        exact ⟨I2, E2, rfl⟩
      · intro hc2
        change ¬ (n ≤ k2_2) at hc2
        refine pw_ld E (pc' := 8) (st' := [.ref 32]) rfl (fun _ => rfl) ?_
        refine pw_getR (b := 35) I2 E (c := 16) (k := 2) (pc' := 11) rfl rfl rfl rfl rfl rfl rfl ?_
        refine pw_ld E (pc' := 12) (st' := [pw_i k2_2, .ref 35]) rfl (fun _ => rfl) ?_
        refine pw_ald2 I2 E (c := 19) (pc' := 13) rfl rfl rfl (by decide) rfl (by decide) (by omega) (by omega) rfl (fun hf3a hf3b => ?_)
        refine pw_istn E (pc' := 14) (ls' := [some (.ref 32), some (pw_i n), some (pw_i k2_2), some (pw_i (pw_g h2 19 (k2_2.toNat))), k2_4]) rfl rfl rfl rfl ?_
        refine pw_ld E (pc' := 15) (st' := [pw_i k2_2]) rfl (fun _ => rfl) ?_
        refine pw_ist E (pc' := 17) (ls' := [some (.ref 32), some (pw_i n), some (pw_i k2_2), some (pw_i (pw_g h2 19 (k2_2.toNat))), some (pw_i k2_2)]) rfl rfl rfl rfl ?_
        have L17 : ∀ (n17 : Nat) (k17_4 : Int) (h17 : pm_H), pw_I h17 → pw_E [19] h h17 → 0 ≤ k17_4 → k17_4 ≤ 23 → k17_4 ≤ k2_2 → (k17_4).toNat = n17 → pw X d h17 95 17 [some (.ref 32), some (pw_i n), some (pw_i k2_2), some (pw_i (pw_g h2 19 (k2_2.toNat))), some (pw_i k17_4)] [] (fun h' v => pw_I h' ∧ pw_E [19] h h' ∧ v = .inl none) := by
          intro n17
          induction n17 using Nat.strongRecOn with
          | ind n17 ih17 =>
            intro k17_4 h17 I17 E17 k17_4a k17_4b hx17_0 hm17
            refine pw_ld E (pc' := 19) (st' := [pw_i k17_4]) rfl (fun _ => rfl) ?_
            refine pw_if E (pc' := 57) rfl (by decide) (by omega) (by omega) ?_ ?_
            · intro hc4
              change k17_4 ≤ (0 : Int) at hc4
              refine pw_ld E (pc' := 58) (st' := [.ref 32]) rfl (fun _ => rfl) ?_
              refine pw_getR (b := 35) I17 E (c := 16) (k := 2) (pc' := 61) rfl rfl rfl rfl rfl rfl rfl ?_
              refine pw_ld E (pc' := 63) (st' := [pw_i k17_4, .ref 35]) rfl (fun _ => rfl) ?_
              refine pw_ld E (pc' := 64) (st' := [pw_i (pw_g h2 19 (k2_2.toNat)), pw_i k17_4, .ref 35]) rfl (fun _ => rfl) ?_
              refine pw_ast0 I17 E (c := 19) (pc' := 65) rfl rfl rfl (by decide) rfl (by decide) (by omega) (by omega) rfl (by omega) (by omega) (by omega) (by omega) rfl ?_
              intro h5I h5E
              generalize h5w : pw_w h17 19 (k17_4.toNat) (pw_i (pw_g h2 19 (k2_2.toNat))) = h5 at h5I h5E ⊢
              have h5F := E17.tr (h5E.wk (W' := [19]) (by first | rfl | simp))
              refine pw_inc E (pc' := 68) (ls' := [some (.ref 32), some (pw_i n), some (pw_i (k2_2 + 1)), some (pw_i (pw_g h2 19 (k2_2.toNat))), some (pw_i k17_4)]) rfl rfl rfl rfl ?_
              refine pw_goto E (pc' := 2) rfl (by decide) ?_
              exact ih2 _ (by omega) (k2_2 + 1) (some (pw_i (pw_g h2 19 (k2_2.toNat)))) (some (pw_i k17_4)) h5 h5I h5F (by omega) (by omega)  rfl
            · intro hc6
              change ¬ (k17_4 ≤ (0 : Int)) at hc6
              refine pw_ld E (pc' := 23) (st' := [.ref 32]) rfl (fun _ => rfl) ?_
              refine pw_getR (b := 35) I17 E (c := 16) (k := 2) (pc' := 26) rfl rfl rfl rfl rfl rfl rfl ?_
              refine pw_ld E (pc' := 28) (st' := [pw_i k17_4, .ref 35]) rfl (fun _ => rfl) ?_
              refine pw_ld E (pc' := 29) (st' := [pw_i 1, pw_i k17_4, .ref 35]) rfl (fun _ => rfl) ?_
              refine pw_sub E (pc' := 30) rfl rfl ?_
              refine pw_ald2 I17 E (c := 19) (pc' := 31) rfl rfl rfl (by decide) rfl (by decide) (by omega) (by omega) rfl (fun hf7a hf7b => ?_)
              refine pw_ld E (pc' := 32) (st' := [pw_i (pw_g h2 19 (k2_2.toNat)), pw_i (pw_g h17 19 ((k17_4 - 1).toNat))]) rfl (fun _ => rfl) ?_
              refine pw_if2 E (pc' := 57) rfl (by decide) (by omega) (by omega) (by omega) (by omega) ?_ ?_
              · intro hc8
                change pw_g h17 19 ((k17_4 - 1).toNat) ≤ pw_g h2 19 (k2_2.toNat) at hc8
                refine pw_ld E (pc' := 58) (st' := [.ref 32]) rfl (fun _ => rfl) ?_
                refine pw_getR (b := 35) I17 E (c := 16) (k := 2) (pc' := 61) rfl rfl rfl rfl rfl rfl rfl ?_
                refine pw_ld E (pc' := 63) (st' := [pw_i k17_4, .ref 35]) rfl (fun _ => rfl) ?_
                refine pw_ld E (pc' := 64) (st' := [pw_i (pw_g h2 19 (k2_2.toNat)), pw_i k17_4, .ref 35]) rfl (fun _ => rfl) ?_
                refine pw_ast0 I17 E (c := 19) (pc' := 65) rfl rfl rfl (by decide) rfl (by decide) (by omega) (by omega) rfl (by omega) (by omega) (by omega) (by omega) rfl ?_
                intro h9I h9E
                generalize h9w : pw_w h17 19 (k17_4.toNat) (pw_i (pw_g h2 19 (k2_2.toNat))) = h9 at h9I h9E ⊢
                have h9F := E17.tr (h9E.wk (W' := [19]) (by first | rfl | simp))
                refine pw_inc E (pc' := 68) (ls' := [some (.ref 32), some (pw_i n), some (pw_i (k2_2 + 1)), some (pw_i (pw_g h2 19 (k2_2.toNat))), some (pw_i k17_4)]) rfl rfl rfl rfl ?_
                refine pw_goto E (pc' := 2) rfl (by decide) ?_
                exact ih2 _ (by omega) (k2_2 + 1) (some (pw_i (pw_g h2 19 (k2_2.toNat)))) (some (pw_i k17_4)) h9 h9I h9F (by omega) (by omega)  rfl
              · intro hc10
                change ¬ (pw_g h17 19 ((k17_4 - 1).toNat) ≤ pw_g h2 19 (k2_2.toNat)) at hc10
                refine pw_ld E (pc' := 36) (st' := [.ref 32]) rfl (fun _ => rfl) ?_
                refine pw_getR (b := 35) I17 E (c := 16) (k := 2) (pc' := 39) rfl rfl rfl rfl rfl rfl rfl ?_
                refine pw_ld E (pc' := 41) (st' := [pw_i k17_4, .ref 35]) rfl (fun _ => rfl) ?_
                refine pw_ld E (pc' := 42) (st' := [.ref 32, pw_i k17_4, .ref 35]) rfl (fun _ => rfl) ?_
                refine pw_getR (b := 35) I17 E (c := 16) (k := 2) (pc' := 45) rfl rfl rfl rfl rfl rfl rfl ?_
                refine pw_ld E (pc' := 47) (st' := [pw_i k17_4, .ref 35, pw_i k17_4, .ref 35]) rfl (fun _ => rfl) ?_
                refine pw_ld E (pc' := 48) (st' := [pw_i 1, pw_i k17_4, .ref 35, pw_i k17_4, .ref 35]) rfl (fun _ => rfl) ?_
                refine pw_sub E (pc' := 49) rfl rfl ?_
                refine pw_ald2 I17 E (c := 19) (pc' := 50) rfl rfl rfl (by decide) rfl (by decide) (by omega) (by omega) rfl (fun hf11a hf11b => ?_)
                refine pw_ast0 I17 E (c := 19) (pc' := 51) rfl rfl rfl (by decide) rfl (by decide) (by omega) (by omega) rfl (by omega) (by omega) (by omega) (by omega) rfl ?_
                intro h12I h12E
                generalize h12w : pw_w h17 19 (k17_4.toNat) (pw_i (pw_g h17 19 ((k17_4 - 1).toNat))) = h12 at h12I h12E ⊢
                have h12F := E17.tr (h12E.wk (W' := [19]) (by first | rfl | simp))
                refine pw_inc E (pc' := 54) (ls' := [some (.ref 32), some (pw_i n), some (pw_i k2_2), some (pw_i (pw_g h2 19 (k2_2.toNat))), some (pw_i (k17_4 + (-1)))]) rfl rfl rfl rfl ?_
                refine pw_goto E (pc' := 17) rfl (by decide) ?_
                exact ih17 _ (by omega) (k17_4 + (-1)) h12 h12I h12F (by omega) (by omega) (by omega) rfl
        exact L17 _ (k2_2) h2 I2 E2 (by omega) (by omega) (by omega) rfl
  exact L2 _ (1) (none) (none) h I E0 (by omega) (by omega)  rfl
set_option maxHeartbeats 4000000 in
theorem cm_94 {X : List (Nat × List Value)} {d : Nat} {h : pm_H} (hd : 2 ≤ d) (I : pw_I h) (sd : Int) (hsd1 : (-2147483648) ≤ sd) (hsd2 : sd ≤ 2147483647) (k0 : Int) (hk01 : (-2147483648) ≤ k0) (hk02 : k0 ≤ 2147483647) (z : Int) (hz1 : 0 ≤ z) (hz2 : z ≤ 1) : pw X d h 94 0 [some (.ref 32), some (pw_i sd), some (pw_i k0), some (pw_i z), none, none, none, none] [] (fun h' v => pw_I h' ∧ pw_E [19] h h' ∧ ∃ w : Int64, v = .inl (some (.long w))) := by
  have E : pm_ent 94 = some (4, 8, 8, 2, pmc_94) := rfl
  have E0 : pw_E [19] h h := pw_E.rf _ _
  refine pw_ld E (pc' := 1) (st' := [.ref 32]) rfl (fun _ => rfl) ?_
  refine pw_ld E (pc' := 2) (st' := [pw_i sd, .ref 32]) rfl (fun _ => rfl) ?_
  obtain ⟨f1l, f1h, -⟩ := pw_obj (c := 16) I rfl
  refine pw_call (m' := 92) (As := [.ref 32, pw_i sd]) (rest := []) (ls'' := [some (.ref 32), some (pw_i sd), none, none]) (Nat.le_trans (by decide) hd) E rfl (fun _ => pw_iV rfl rfl rfl rfl (pw_cellI f1h rfl)) (rfl : pm_ent 92 = some (2, 4, 8, 0, pmc_92)) rfl rfl (cm_92 (pw_dp hd (by decide)) I (sd) (by omega) (by omega)) ?_
  rintro h2 v3 ⟨h2I, h2E, x4, rfl, hx4a, hx4b⟩
  refine ⟨_, rfl, ?_⟩
  have h2F := E0.tr (h2E.wk (W' := [19]) (by first | rfl | simp))
  show pw X d h2 94 5 [some (.ref 32), some (pw_i sd), some (pw_i k0), some (pw_i z), none, none, none, none] [pw_i x4] _
  refine pw_ist E (pc' := 7) (ls' := [some (.ref 32), some (pw_i sd), some (pw_i k0), some (pw_i z), some (pw_i x4), none, none, none]) rfl rfl rfl rfl ?_
  refine pw_ld E (pc' := 8) (st' := [.ref 32]) rfl (fun _ => rfl) ?_
  refine pw_ld E (pc' := 10) (st' := [pw_i x4, .ref 32]) rfl (fun _ => rfl) ?_
  obtain ⟨f5l, f5h, -⟩ := pw_obj (c := 16) h2I rfl
  refine pw_call (m' := 95) (As := [.ref 32, pw_i x4]) (rest := []) (ls'' := [some (.ref 32), some (pw_i x4), none, none, none]) (Nat.le_trans (by decide) hd) E rfl (fun _ => pw_iV rfl rfl rfl rfl (pw_cellI f5h rfl)) (rfl : pm_ent 95 = some (2, 5, 8, 4, pmc_95)) rfl rfl (cm_95 (pw_dp hd (by decide)) h2I (x4) (by omega) (by omega)) ?_
  rintro h6 v7 ⟨h6I, h6E, rfl⟩
  refine ⟨_, rfl, ?_⟩
  have h6F := h2F.tr (h6E.wk (W' := [19]) (by first | rfl | simp))
  show pw X d h6 94 13 [some (.ref 32), some (pw_i sd), some (pw_i k0), some (pw_i z), some (pw_i x4), none, none, none] [] _
  refine pw_ld E (pc' := 14) (st' := [.long (Int64.ofNat 0)]) rfl (fun _ => rfl) ?_
  refine pw_lst E (pc' := 16) (ls' := [some (.ref 32), some (pw_i sd), some (pw_i k0), some (pw_i z), some (pw_i x4), some (.long (Int64.ofNat 0)), none, none]) rfl rfl rfl rfl ?_
  refine pw_ld E (pc' := 17) (st' := [pw_i 0]) rfl (fun _ => rfl) ?_
  refine pw_ist E (pc' := 19) (ls' := [some (.ref 32), some (pw_i sd), some (pw_i k0), some (pw_i z), some (pw_i x4), some (.long (Int64.ofNat 0)), none, some (pw_i 0)]) rfl rfl rfl rfl ?_
  have L19 : ∀ (n19 : Nat) (k19_5 : Int64) (k19_7 : Int), 0 ≤ k19_7 → k19_7 ≤ 2147483647 → (2147483647 - k19_7).toNat = n19 → pw X d h6 94 19 [some (.ref 32), some (pw_i sd), some (pw_i k0), some (pw_i z), some (pw_i x4), some (.long k19_5), none, some (pw_i k19_7)] [] (fun h' v => pw_I h' ∧ pw_E [19] h h' ∧ ∃ w : Int64, v = .inl (some (.long w))) := by
    intro n19
    induction n19 using Nat.strongRecOn with
    | ind n19 ih19 =>
      intro k19_5 k19_7 k19_7a k19_7b hm19
      refine pw_ld E (pc' := 21) (st' := [pw_i k19_7]) rfl (fun _ => rfl) ?_
      refine pw_ld E (pc' := 22) (st' := [pw_i k0, pw_i k19_7]) rfl (fun _ => rfl) ?_
      refine pw_if2 E (pc' := 65) rfl (by decide) (by omega) (by omega) (by omega) (by omega) ?_ ?_
      · intro hc8
        change k0 ≤ k19_7 at hc8
        refine pw_ld E (pc' := 67) (st' := [.long k19_5]) rfl (fun _ => rfl) ?_
        refine pw_lret E rfl ?_
        exact ⟨h6I, h6F, ⟨_, rfl⟩⟩
      · intro hc9
        change ¬ (k0 ≤ k19_7) at hc9
        refine pw_ld E (pc' := 27) (st' := [pw_i k19_7]) rfl (fun _ => rfl) ?_
        refine pw_ld E (pc' := 29) (st' := [pw_i x4, pw_i k19_7]) rfl (fun _ => rfl) ?_
        refine pw_if2 E (pc' := 65) rfl (by decide) (by omega) (by omega) (by omega) (by omega) ?_ ?_
        · intro hc10
          change x4 ≤ k19_7 at hc10
          refine pw_ld E (pc' := 67) (st' := [.long k19_5]) rfl (fun _ => rfl) ?_
          refine pw_lret E rfl ?_
          exact ⟨h6I, h6F, ⟨_, rfl⟩⟩
        · intro hc11
          change ¬ (x4 ≤ k19_7) at hc11
          refine pw_ld E (pc' := 34) (st' := [.long k19_5]) rfl (fun _ => rfl) ?_
          refine pw_ld E (pc' := 35) (st' := [.ref 32, .long k19_5]) rfl (fun _ => rfl) ?_
          refine pw_getR (b := 35) h6I E (c := 16) (k := 2) (pc' := 38) rfl rfl rfl rfl rfl rfl rfl ?_
          refine pw_ld E (pc' := 39) (st' := [pw_i z, .ref 35, .long k19_5]) rfl (fun _ => rfl) ?_
          refine pw_if E (pc' := 52) rfl (by decide) (by omega) (by omega) ?_ ?_
          · intro hc12
            change z = (0 : Int) at hc12
            refine pw_ld E (pc' := 54) (st' := [pw_i k19_7, .ref 35, .long k19_5]) rfl (fun _ => rfl) ?_
            refine pw_ald2 h6I E (c := 19) (pc' := 55) rfl rfl rfl (by decide) rfl (by decide) (by omega) (by omega) rfl (fun hf13a hf13b => ?_)
            refine pw_ld E (pc' := 56) (st' := [.long ((Int32.ofInt (pw_g h6 19 (k19_7.toNat))).toInt64), .long k19_5]) rfl (fun _ => rfl) ?_
            refine pw_ld E (pc' := 57) (st' := [.long (k19_5 + ((Int32.ofInt (pw_g h6 19 (k19_7.toNat))).toInt64))]) rfl (fun _ => rfl) ?_
            refine pw_lst E (pc' := 59) (ls' := [some (.ref 32), some (pw_i sd), some (pw_i k0), some (pw_i z), some (pw_i x4), some (.long (k19_5 + ((Int32.ofInt (pw_g h6 19 (k19_7.toNat))).toInt64))), none, some (pw_i k19_7)]) rfl rfl rfl rfl ?_
            refine pw_inc E (pc' := 62) (ls' := [some (.ref 32), some (pw_i sd), some (pw_i k0), some (pw_i z), some (pw_i x4), some (.long (k19_5 + ((Int32.ofInt (pw_g h6 19 (k19_7.toNat))).toInt64))), none, some (pw_i (k19_7 + 1))]) rfl rfl rfl rfl ?_
            refine pw_goto E (pc' := 19) rfl (by decide) ?_
            exact ih19 _ (by omega) (k19_5 + ((Int32.ofInt (pw_g h6 19 (k19_7.toNat))).toInt64)) (k19_7 + 1)  (by omega) (by omega)  rfl
          · intro hc14
            change ¬ (z = (0 : Int)) at hc14
            refine pw_ld E (pc' := 44) (st' := [pw_i x4, .ref 35, .long k19_5]) rfl (fun _ => rfl) ?_
            refine pw_ld E (pc' := 45) (st' := [pw_i 1, pw_i x4, .ref 35, .long k19_5]) rfl (fun _ => rfl) ?_
            refine pw_sub E (pc' := 46) rfl rfl ?_
            refine pw_ld E (pc' := 48) (st' := [pw_i k19_7, pw_i (x4 - 1), .ref 35, .long k19_5]) rfl (fun _ => rfl) ?_
            refine pw_sub E (pc' := 49) rfl rfl ?_
            refine pw_goto E (pc' := 54) rfl (by decide) ?_
            refine pw_ald2 h6I E (c := 19) (pc' := 55) rfl rfl rfl (by decide) rfl (by decide) (by omega) (by omega) rfl (fun hf15a hf15b => ?_)
            refine pw_ld E (pc' := 56) (st' := [.long ((Int32.ofInt (pw_g h6 19 (((x4 - 1) - k19_7).toNat))).toInt64), .long k19_5]) rfl (fun _ => rfl) ?_
            refine pw_ld E (pc' := 57) (st' := [.long (k19_5 + ((Int32.ofInt (pw_g h6 19 (((x4 - 1) - k19_7).toNat))).toInt64))]) rfl (fun _ => rfl) ?_
            refine pw_lst E (pc' := 59) (ls' := [some (.ref 32), some (pw_i sd), some (pw_i k0), some (pw_i z), some (pw_i x4), some (.long (k19_5 + ((Int32.ofInt (pw_g h6 19 (((x4 - 1) - k19_7).toNat))).toInt64))), none, some (pw_i k19_7)]) rfl rfl rfl rfl ?_
            refine pw_inc E (pc' := 62) (ls' := [some (.ref 32), some (pw_i sd), some (pw_i k0), some (pw_i z), some (pw_i x4), some (.long (k19_5 + ((Int32.ofInt (pw_g h6 19 (((x4 - 1) - k19_7).toNat))).toInt64))), none, some (pw_i (k19_7 + 1))]) rfl rfl rfl rfl ?_
            refine pw_goto E (pc' := 19) rfl (by decide) ?_
            exact ih19 _ (by omega) (k19_5 + ((Int32.ofInt (pw_g h6 19 (((x4 - 1) - k19_7).toNat))).toInt64)) (k19_7 + 1)  (by omega) (by omega)  rfl
  exact L19 _ (Int64.ofNat 0) (0)  (by omega) (by omega)  rfl
set_option maxHeartbeats 4000000 in
theorem cm_91_20 {X : List (Nat × List Value)} {d : Nat} {h : pm_H} (hd : 2 ≤ d) (I : pw_I h) (sd : Int) (hsd1 : (-2147483648) ≤ sd) (hsd2 : sd ≤ 2147483647) (k0 : Int) (hk01 : (-2147483648) ≤ k0) (hk02 : k0 ≤ 2147483647) : pw X d h 91 0 [some (.ref 32), some (pw_i sd), some (pw_i k0), some (.ref 36), none, none, none] [] (fun h' v => pw_I h' ∧ pw_E [19, 20] h h' ∧ ∃ a : Int, v = .inl (some (pw_i a)) ∧ 0 ≤ a ∧ a ≤ 512) := by
  have E : pm_ent 91 = some (4, 7, 8, 0, pmc_91) := rfl
  have E0 : pw_E [19, 20] h h := pw_E.rf _ _
  refine pw_ld E (pc' := 1) (st' := [.ref 32]) rfl (fun _ => rfl) ?_
  refine pw_ld E (pc' := 2) (st' := [pw_i sd, .ref 32]) rfl (fun _ => rfl) ?_
  obtain ⟨f1l, f1h, -⟩ := pw_obj (c := 16) I rfl
  refine pw_call (m' := 92) (As := [.ref 32, pw_i sd]) (rest := []) (ls'' := [some (.ref 32), some (pw_i sd), none, none]) (Nat.le_trans (by decide) hd) E rfl (fun _ => pw_iV rfl rfl rfl rfl (pw_cellI f1h rfl)) (rfl : pm_ent 92 = some (2, 4, 8, 0, pmc_92)) rfl rfl (cm_92 (pw_dp hd (by decide)) I (sd) (by omega) (by omega)) ?_
  rintro h2 v3 ⟨h2I, h2E, x4, rfl, hx4a, hx4b⟩
  refine ⟨_, rfl, ?_⟩
  have h2F := E0.tr (h2E.wk (W' := [19, 20]) (by first | rfl | simp))
  show pw X d h2 91 5 [some (.ref 32), some (pw_i sd), some (pw_i k0), some (.ref 36), none, none, none] [pw_i x4] _
  refine pw_bip E (pc' := 7) rfl rfl (by decide) ?_
  refine pw_min E rfl rfl (by omega) (by omega) (by decide) (by decide) rfl ?_
  refine pw_ist E (pc' := 12) (ls' := [some (.ref 32), some (pw_i sd), some (pw_i k0), some (.ref 36), some (pw_i (min x4 9)), none, none]) rfl rfl rfl rfl ?_
  refine pw_ld E (pc' := 13) (st' := [pw_i 0]) rfl (fun _ => rfl) ?_
  refine pw_ist E (pc' := 15) (ls' := [some (.ref 32), some (pw_i sd), some (pw_i k0), some (.ref 36), some (pw_i (min x4 9)), some (pw_i 0), none]) rfl rfl rfl rfl ?_
  refine pw_ld E (pc' := 16) (st' := [pw_i 0]) rfl (fun _ => rfl) ?_
  refine pw_ist E (pc' := 18) (ls' := [some (.ref 32), some (pw_i sd), some (pw_i k0), some (.ref 36), some (pw_i (min x4 9)), some (pw_i 0), some (pw_i 0)]) rfl rfl rfl rfl ?_
  have L18 : ∀ (n18 : Nat) (k18_5 : Int) (k18_6 : Int) (h18 : pm_H), pw_I h18 → pw_E [19, 20] h h18 → 0 ≤ k18_5 → k18_5 ≤ 512 → 0 ≤ k18_6 → k18_6 ≤ 512 → k18_5 ≤ k18_6 → (512 - k18_6).toNat = n18 → pw X d h18 91 18 [some (.ref 32), some (pw_i sd), some (pw_i k0), some (.ref 36), some (pw_i (min x4 9)), some (pw_i k18_5), some (pw_i k18_6)] [] (fun h' v => pw_I h' ∧ pw_E [19, 20] h h' ∧ ∃ a : Int, v = .inl (some (pw_i a)) ∧ 0 ≤ a ∧ a ≤ 512) := by
    intro n18
    induction n18 using Nat.strongRecOn with
    | ind n18 ih18 =>
      intro k18_5 k18_6 h18 I18 E18 k18_5a k18_5b k18_6a k18_6b hx18_0 hm18
      refine pw_ld E (pc' := 20) (st' := [pw_i k18_6]) rfl (fun _ => rfl) ?_
      refine pw_ld E (pc' := 21) (st' := [pw_i 1, pw_i k18_6]) rfl (fun _ => rfl) ?_
      refine pw_ld E (pc' := 23) (st' := [pw_i (min x4 9), pw_i 1, pw_i k18_6]) rfl (fun _ => rfl) ?_
      refine pw_shl1 (n := 9) E (pc' := 24) rfl rfl (by omega) (by omega) (by decide) (fun x5 hx5a hx5b => ?_)
      change x5 ≤ 512 at hx5b
      refine pw_if2 E (pc' := 55) rfl (by decide) (by omega) (by omega) (by omega) (by omega) ?_ ?_
      · intro hc6
        change x5 ≤ k18_6 at hc6
        refine pw_ld E (pc' := 57) (st' := [pw_i k18_5]) rfl (fun _ => rfl) ?_
        refine pw_iret E rfl ?_
        exact ⟨I18, E18, ⟨_, rfl, by omega, by omega⟩⟩
      · intro hc7
        change ¬ (x5 ≤ k18_6) at hc7
        refine pw_ld E (pc' := 29) (st' := [pw_i k18_6]) rfl (fun _ => rfl) ?_
        refine pw_call (m' := 326) (As := [pw_i k18_6]) (rest := []) (ls'' := [some (pw_i k18_6)]) (Nat.le_trans (by decide) hd) E rfl (fun _ => pw_iS rfl rfl rfl) (rfl : pm_ent 326 = some (1, 1, 15, 0, pmc_326)) rfl rfl (cm_326 (pw_dp hd (by decide)) I18 (k18_6) (by omega) (by omega)) ?_
        rintro u9 v8 ⟨rfl, x10, rfl, hx10a, hx10b⟩
        refine ⟨_, rfl, ?_⟩
        show pw X d h18 91 32 [some (.ref 32), some (pw_i sd), some (pw_i k0), some (.ref 36), some (pw_i (min x4 9)), some (pw_i k18_5), some (pw_i k18_6)] [pw_i x10] _
        refine pw_ld E (pc' := 33) (st' := [pw_i k0, pw_i x10]) rfl (fun _ => rfl) ?_
        refine pw_if2 E (pc' := 49) rfl (by decide) (by omega) (by omega) (by omega) (by omega) ?_ ?_
        · intro hc11
          change x10 ≠ k0 at hc11
          refine pw_inc E (pc' := 52) (ls' := [some (.ref 32), some (pw_i sd), some (pw_i k0), some (.ref 36), some (pw_i (min x4 9)), some (pw_i k18_5), some (pw_i (k18_6 + 1))]) rfl rfl rfl rfl ?_
          refine pw_goto E (pc' := 18) rfl (by decide) ?_
          exact ih18 _ (by omega) (k18_5) (k18_6 + 1) h18 I18 E18 (by omega) (by omega) (by omega) (by omega) (by omega) rfl
        · intro hc12
          change ¬ (x10 ≠ k0) at hc12
          refine pw_ld E (pc' := 37) (st' := [.ref 36]) rfl (fun _ => rfl) ?_
          refine pw_ld E (pc' := 39) (st' := [pw_i k18_5, .ref 36]) rfl (fun _ => rfl) ?_
          refine pw_ld E (pc' := 40) (st' := [.ref 32, pw_i k18_5, .ref 36]) rfl (fun _ => rfl) ?_
          refine pw_ld E (pc' := 42) (st' := [pw_i k18_6, .ref 32, pw_i k18_5, .ref 36]) rfl (fun _ => rfl) ?_
          obtain ⟨f13l, f13h, -⟩ := pw_obj (c := 16) I18 rfl
          refine pw_call (m' := 89) (As := [.ref 32, pw_i k18_6]) (rest := [pw_i k18_5, .ref 36]) (ls'' := [some (.ref 32), some (pw_i k18_6), none, none]) (Nat.le_trans (by decide) hd) E rfl (fun _ => pw_iV rfl rfl rfl rfl (pw_cellI f13h rfl)) (rfl : pm_ent 89 = some (2, 4, 8, 0, pmc_89)) rfl rfl (cm_89 (pw_dp hd (by decide)) I18 (k18_6) (by omega) (by omega)) ?_
          rintro u15 v14 ⟨rfl, x16, rfl, hx16a, hx16b⟩
          refine ⟨_, rfl, ?_⟩
          show pw X d h18 91 45 [some (.ref 32), some (pw_i sd), some (pw_i k0), some (.ref 36), some (pw_i (min x4 9)), some (pw_i k18_5), some (pw_i k18_6)] [pw_i x16, pw_i k18_5, .ref 36] _
          refine pw_ast0 I18 E (c := 20) (pc' := 46) rfl rfl rfl (by decide) rfl (by decide) (by omega) (by omega) rfl (by omega) (by omega) (by omega) (by omega) rfl ?_
          intro h17I h17E
          generalize h17w : pw_w h18 20 (k18_5.toNat) (pw_i x16) = h17 at h17I h17E ⊢
          have h17F := E18.tr (h17E.wk (W' := [19, 20]) (by first | rfl | simp))
          refine pw_inc E (pc' := 49) (ls' := [some (.ref 32), some (pw_i sd), some (pw_i k0), some (.ref 36), some (pw_i (min x4 9)), some (pw_i (k18_5 + 1)), some (pw_i k18_6)]) rfl rfl rfl rfl ?_
          refine pw_inc E (pc' := 52) (ls' := [some (.ref 32), some (pw_i sd), some (pw_i k0), some (.ref 36), some (pw_i (min x4 9)), some (pw_i (k18_5 + 1)), some (pw_i (k18_6 + 1))]) rfl rfl rfl rfl ?_
          refine pw_goto E (pc' := 18) rfl (by decide) ?_
          exact ih18 _ (by omega) (k18_5 + 1) (k18_6 + 1) h17 h17I h17F (by omega) (by omega) (by omega) (by omega) (by omega) rfl
  exact L18 _ (0) (0) h2 h2I h2F (by omega) (by omega) (by omega) (by omega) (by omega) rfl
set_option maxHeartbeats 4000000 in
theorem cm_91_21 {X : List (Nat × List Value)} {d : Nat} {h : pm_H} (hd : 2 ≤ d) (I : pw_I h) (sd : Int) (hsd1 : (-2147483648) ≤ sd) (hsd2 : sd ≤ 2147483647) (k0 : Int) (hk01 : (-2147483648) ≤ k0) (hk02 : k0 ≤ 2147483647) : pw X d h 91 0 [some (.ref 32), some (pw_i sd), some (pw_i k0), some (.ref 37), none, none, none] [] (fun h' v => pw_I h' ∧ pw_E [19, 21] h h' ∧ ∃ a : Int, v = .inl (some (pw_i a)) ∧ 0 ≤ a ∧ a ≤ 512) := by
  have E : pm_ent 91 = some (4, 7, 8, 0, pmc_91) := rfl
  have E0 : pw_E [19, 21] h h := pw_E.rf _ _
  refine pw_ld E (pc' := 1) (st' := [.ref 32]) rfl (fun _ => rfl) ?_
  refine pw_ld E (pc' := 2) (st' := [pw_i sd, .ref 32]) rfl (fun _ => rfl) ?_
  obtain ⟨f1l, f1h, -⟩ := pw_obj (c := 16) I rfl
  refine pw_call (m' := 92) (As := [.ref 32, pw_i sd]) (rest := []) (ls'' := [some (.ref 32), some (pw_i sd), none, none]) (Nat.le_trans (by decide) hd) E rfl (fun _ => pw_iV rfl rfl rfl rfl (pw_cellI f1h rfl)) (rfl : pm_ent 92 = some (2, 4, 8, 0, pmc_92)) rfl rfl (cm_92 (pw_dp hd (by decide)) I (sd) (by omega) (by omega)) ?_
  rintro h2 v3 ⟨h2I, h2E, x4, rfl, hx4a, hx4b⟩
  refine ⟨_, rfl, ?_⟩
  have h2F := E0.tr (h2E.wk (W' := [19, 21]) (by first | rfl | simp))
  show pw X d h2 91 5 [some (.ref 32), some (pw_i sd), some (pw_i k0), some (.ref 37), none, none, none] [pw_i x4] _
  refine pw_bip E (pc' := 7) rfl rfl (by decide) ?_
  refine pw_min E rfl rfl (by omega) (by omega) (by decide) (by decide) rfl ?_
  refine pw_ist E (pc' := 12) (ls' := [some (.ref 32), some (pw_i sd), some (pw_i k0), some (.ref 37), some (pw_i (min x4 9)), none, none]) rfl rfl rfl rfl ?_
  refine pw_ld E (pc' := 13) (st' := [pw_i 0]) rfl (fun _ => rfl) ?_
  refine pw_ist E (pc' := 15) (ls' := [some (.ref 32), some (pw_i sd), some (pw_i k0), some (.ref 37), some (pw_i (min x4 9)), some (pw_i 0), none]) rfl rfl rfl rfl ?_
  refine pw_ld E (pc' := 16) (st' := [pw_i 0]) rfl (fun _ => rfl) ?_
  refine pw_ist E (pc' := 18) (ls' := [some (.ref 32), some (pw_i sd), some (pw_i k0), some (.ref 37), some (pw_i (min x4 9)), some (pw_i 0), some (pw_i 0)]) rfl rfl rfl rfl ?_
  have L18 : ∀ (n18 : Nat) (k18_5 : Int) (k18_6 : Int) (h18 : pm_H), pw_I h18 → pw_E [19, 21] h h18 → 0 ≤ k18_5 → k18_5 ≤ 512 → 0 ≤ k18_6 → k18_6 ≤ 512 → k18_5 ≤ k18_6 → (512 - k18_6).toNat = n18 → pw X d h18 91 18 [some (.ref 32), some (pw_i sd), some (pw_i k0), some (.ref 37), some (pw_i (min x4 9)), some (pw_i k18_5), some (pw_i k18_6)] [] (fun h' v => pw_I h' ∧ pw_E [19, 21] h h' ∧ ∃ a : Int, v = .inl (some (pw_i a)) ∧ 0 ≤ a ∧ a ≤ 512) := by
    intro n18
    induction n18 using Nat.strongRecOn with
    | ind n18 ih18 =>
      intro k18_5 k18_6 h18 I18 E18 k18_5a k18_5b k18_6a k18_6b hx18_0 hm18
      refine pw_ld E (pc' := 20) (st' := [pw_i k18_6]) rfl (fun _ => rfl) ?_
      refine pw_ld E (pc' := 21) (st' := [pw_i 1, pw_i k18_6]) rfl (fun _ => rfl) ?_
      refine pw_ld E (pc' := 23) (st' := [pw_i (min x4 9), pw_i 1, pw_i k18_6]) rfl (fun _ => rfl) ?_
      refine pw_shl1 (n := 9) E (pc' := 24) rfl rfl (by omega) (by omega) (by decide) (fun x5 hx5a hx5b => ?_)
      change x5 ≤ 512 at hx5b
      refine pw_if2 E (pc' := 55) rfl (by decide) (by omega) (by omega) (by omega) (by omega) ?_ ?_
      · intro hc6
        change x5 ≤ k18_6 at hc6
        refine pw_ld E (pc' := 57) (st' := [pw_i k18_5]) rfl (fun _ => rfl) ?_
        refine pw_iret E rfl ?_
        exact ⟨I18, E18, ⟨_, rfl, by omega, by omega⟩⟩
      · intro hc7
        change ¬ (x5 ≤ k18_6) at hc7
        refine pw_ld E (pc' := 29) (st' := [pw_i k18_6]) rfl (fun _ => rfl) ?_
        refine pw_call (m' := 326) (As := [pw_i k18_6]) (rest := []) (ls'' := [some (pw_i k18_6)]) (Nat.le_trans (by decide) hd) E rfl (fun _ => pw_iS rfl rfl rfl) (rfl : pm_ent 326 = some (1, 1, 15, 0, pmc_326)) rfl rfl (cm_326 (pw_dp hd (by decide)) I18 (k18_6) (by omega) (by omega)) ?_
        rintro u9 v8 ⟨rfl, x10, rfl, hx10a, hx10b⟩
        refine ⟨_, rfl, ?_⟩
        show pw X d h18 91 32 [some (.ref 32), some (pw_i sd), some (pw_i k0), some (.ref 37), some (pw_i (min x4 9)), some (pw_i k18_5), some (pw_i k18_6)] [pw_i x10] _
        refine pw_ld E (pc' := 33) (st' := [pw_i k0, pw_i x10]) rfl (fun _ => rfl) ?_
        refine pw_if2 E (pc' := 49) rfl (by decide) (by omega) (by omega) (by omega) (by omega) ?_ ?_
        · intro hc11
          change x10 ≠ k0 at hc11
          refine pw_inc E (pc' := 52) (ls' := [some (.ref 32), some (pw_i sd), some (pw_i k0), some (.ref 37), some (pw_i (min x4 9)), some (pw_i k18_5), some (pw_i (k18_6 + 1))]) rfl rfl rfl rfl ?_
          refine pw_goto E (pc' := 18) rfl (by decide) ?_
          exact ih18 _ (by omega) (k18_5) (k18_6 + 1) h18 I18 E18 (by omega) (by omega) (by omega) (by omega) (by omega) rfl
        · intro hc12
          change ¬ (x10 ≠ k0) at hc12
          refine pw_ld E (pc' := 37) (st' := [.ref 37]) rfl (fun _ => rfl) ?_
          refine pw_ld E (pc' := 39) (st' := [pw_i k18_5, .ref 37]) rfl (fun _ => rfl) ?_
          refine pw_ld E (pc' := 40) (st' := [.ref 32, pw_i k18_5, .ref 37]) rfl (fun _ => rfl) ?_
          refine pw_ld E (pc' := 42) (st' := [pw_i k18_6, .ref 32, pw_i k18_5, .ref 37]) rfl (fun _ => rfl) ?_
          obtain ⟨f13l, f13h, -⟩ := pw_obj (c := 16) I18 rfl
          refine pw_call (m' := 89) (As := [.ref 32, pw_i k18_6]) (rest := [pw_i k18_5, .ref 37]) (ls'' := [some (.ref 32), some (pw_i k18_6), none, none]) (Nat.le_trans (by decide) hd) E rfl (fun _ => pw_iV rfl rfl rfl rfl (pw_cellI f13h rfl)) (rfl : pm_ent 89 = some (2, 4, 8, 0, pmc_89)) rfl rfl (cm_89 (pw_dp hd (by decide)) I18 (k18_6) (by omega) (by omega)) ?_
          rintro u15 v14 ⟨rfl, x16, rfl, hx16a, hx16b⟩
          refine ⟨_, rfl, ?_⟩
          show pw X d h18 91 45 [some (.ref 32), some (pw_i sd), some (pw_i k0), some (.ref 37), some (pw_i (min x4 9)), some (pw_i k18_5), some (pw_i k18_6)] [pw_i x16, pw_i k18_5, .ref 37] _
          refine pw_ast0 I18 E (c := 21) (pc' := 46) rfl rfl rfl (by decide) rfl (by decide) (by omega) (by omega) rfl (by omega) (by omega) (by omega) (by omega) rfl ?_
          intro h17I h17E
          generalize h17w : pw_w h18 21 (k18_5.toNat) (pw_i x16) = h17 at h17I h17E ⊢
          have h17F := E18.tr (h17E.wk (W' := [19, 21]) (by first | rfl | simp))
          refine pw_inc E (pc' := 49) (ls' := [some (.ref 32), some (pw_i sd), some (pw_i k0), some (.ref 37), some (pw_i (min x4 9)), some (pw_i (k18_5 + 1)), some (pw_i k18_6)]) rfl rfl rfl rfl ?_
          refine pw_inc E (pc' := 52) (ls' := [some (.ref 32), some (pw_i sd), some (pw_i k0), some (.ref 37), some (pw_i (min x4 9)), some (pw_i (k18_5 + 1)), some (pw_i (k18_6 + 1))]) rfl rfl rfl rfl ?_
          refine pw_goto E (pc' := 18) rfl (by decide) ?_
          exact ih18 _ (by omega) (k18_5 + 1) (k18_6 + 1) h17 h17I h17F (by omega) (by omega) (by omega) (by omega) (by omega) rfl
  exact L18 _ (0) (0) h2 h2I h2F (by omega) (by omega) (by omega) (by omega) (by omega) rfl
set_option maxHeartbeats 4000000 in
theorem cm_87 {X : List (Nat × List Value)} {d : Nat} {h : pm_H} (hd : 3 ≤ d) (I : pw_I h) (c : Nat) (hc : pw_Fr c) : pw X d h 87 0 [some (.ref 32), some (.ref (16 + c)), none, none, none, none, none, none, none, none, none] [] (fun h' v => pw_I h' ∧ pw_E [c, 19] h h' ∧ v = .inl none) := by
  have E : pm_ent 87 = some (2, 11, 8, 4, pmc_87) := rfl
  have E0 : pw_E [c, 19] h h := pw_E.rf _ _
  refine pw_ld E (pc' := 1) (st' := [.ref 32]) rfl (fun _ => rfl) ?_
  refine pw_ld E (pc' := 2) (st' := [pw_i 0, .ref 32]) rfl (fun _ => rfl) ?_
  obtain ⟨f1l, f1h, -⟩ := pw_obj (c := 16) I rfl
  refine pw_call (m' := 84) (As := [.ref 32, pw_i 0]) (rest := []) (ls'' := [some (.ref 32), some (pw_i 0), none, none]) (Nat.le_trans (by decide) hd) E rfl (fun _ => pw_iV rfl rfl rfl rfl (pw_cellI f1h rfl)) (rfl : pm_ent 84 = some (2, 4, 8, 0, pmc_84)) rfl rfl (cm_84 (pw_dp hd (by decide)) I (0) (by omega) (by omega)) ?_
  rintro u3 v2 ⟨rfl, x4, rfl, hx4a, hx4b⟩
  refine ⟨_, rfl, ?_⟩
  show pw X d h 87 5 [some (.ref 32), some (.ref (16 + c)), none, none, none, none, none, none, none, none, none] [pw_i x4] _
  refine pw_istn E (pc' := 6) (ls' := [some (.ref 32), some (.ref (16 + c)), some (pw_i x4), none, none, none, none, none, none, none, none]) rfl rfl rfl rfl ?_
  refine pw_ld E (pc' := 7) (st' := [pw_i x4]) rfl (fun _ => rfl) ?_
  refine pw_ld E (pc' := 8) (st' := [.ref 32, pw_i x4]) rfl (fun _ => rfl) ?_
  refine pw_ld E (pc' := 9) (st' := [pw_i 1, .ref 32, pw_i x4]) rfl (fun _ => rfl) ?_
  obtain ⟨f5l, f5h, -⟩ := pw_obj (c := 16) I rfl
  refine pw_call (m' := 84) (As := [.ref 32, pw_i 1]) (rest := [pw_i x4]) (ls'' := [some (.ref 32), some (pw_i 1), none, none]) (Nat.le_trans (by decide) hd) E rfl (fun _ => pw_iV rfl rfl rfl rfl (pw_cellI f5h rfl)) (rfl : pm_ent 84 = some (2, 4, 8, 0, pmc_84)) rfl rfl (cm_84 (pw_dp hd (by decide)) I (1) (by omega) (by omega)) ?_
  rintro u7 v6 ⟨rfl, x8, rfl, hx8a, hx8b⟩
  refine ⟨_, rfl, ?_⟩
  show pw X d h 87 12 [some (.ref 32), some (.ref (16 + c)), some (pw_i x4), none, none, none, none, none, none, none, none] [pw_i x8, pw_i x4] _
  refine pw_add E (pc' := 13) rfl rfl ?_
  refine pw_istn E (pc' := 14) (ls' := [some (.ref 32), some (.ref (16 + c)), some (pw_i x4), some (pw_i (x4 + x8)), none, none, none, none, none, none, none]) rfl rfl rfl rfl ?_
  refine pw_ld E (pc' := 15) (st' := [.ref 32]) rfl (fun _ => rfl) ?_
  refine pw_ld E (pc' := 16) (st' := [pw_i 0, .ref 32]) rfl (fun _ => rfl) ?_
  obtain ⟨f9l, f9h, -⟩ := pw_obj (c := 16) I rfl
  refine pw_call (m' := 85) (As := [.ref 32, pw_i 0]) (rest := []) (ls'' := [some (.ref 32), some (pw_i 0), none, none]) (Nat.le_trans (by decide) hd) E rfl (fun _ => pw_iV rfl rfl rfl rfl (pw_cellI f9h rfl)) (rfl : pm_ent 85 = some (2, 4, 8, 0, pmc_85)) rfl rfl (cm_85 (pw_dp hd (by decide)) I (0) (by omega) (by omega)) ?_
  rintro u11 v10 ⟨rfl, x12, rfl, hx12a, hx12b⟩
  refine ⟨_, rfl, ?_⟩
  show pw X d h 87 19 [some (.ref 32), some (.ref (16 + c)), some (pw_i x4), some (pw_i (x4 + x8)), none, none, none, none, none, none, none] [pw_i x12] _
  refine pw_ld E (pc' := 20) (st' := [.ref 32, pw_i x12]) rfl (fun _ => rfl) ?_
  refine pw_ld E (pc' := 21) (st' := [pw_i 1, .ref 32, pw_i x12]) rfl (fun _ => rfl) ?_
  obtain ⟨f13l, f13h, -⟩ := pw_obj (c := 16) I rfl
  refine pw_call (m' := 85) (As := [.ref 32, pw_i 1]) (rest := [pw_i x12]) (ls'' := [some (.ref 32), some (pw_i 1), none, none]) (Nat.le_trans (by decide) hd) E rfl (fun _ => pw_iV rfl rfl rfl rfl (pw_cellI f13h rfl)) (rfl : pm_ent 85 = some (2, 4, 8, 0, pmc_85)) rfl rfl (cm_85 (pw_dp hd (by decide)) I (1) (by omega) (by omega)) ?_
  rintro u15 v14 ⟨rfl, x16, rfl, hx16a, hx16b⟩
  refine ⟨_, rfl, ?_⟩
  show pw X d h 87 24 [some (.ref 32), some (.ref (16 + c)), some (pw_i x4), some (pw_i (x4 + x8)), none, none, none, none, none, none, none] [pw_i x16, pw_i x12] _
  refine pw_add E (pc' := 25) rfl rfl ?_
  refine pw_nm (fun x17 hx17a hx17b => ?_)
  refine pw_ist E (pc' := 27) (ls' := [some (.ref 32), some (.ref (16 + c)), some (pw_i x4), some (pw_i (x4 + x8)), some (pw_i x17), none, none, none, none, none, none]) rfl rfl rfl rfl ?_
  refine pw_ld E (pc' := 28) (st' := [.ref 32]) rfl (fun _ => rfl) ?_
  refine pw_ld E (pc' := 29) (st' := [pw_i 0, .ref 32]) rfl (fun _ => rfl) ?_
  obtain ⟨f18l, f18h, -⟩ := pw_obj (c := 16) I rfl
  refine pw_call (m' := 85) (As := [.ref 32, pw_i 0]) (rest := []) (ls'' := [some (.ref 32), some (pw_i 0), none, none]) (Nat.le_trans (by decide) hd) E rfl (fun _ => pw_iV rfl rfl rfl rfl (pw_cellI f18h rfl)) (rfl : pm_ent 85 = some (2, 4, 8, 0, pmc_85)) rfl rfl (cm_85 (pw_dp hd (by decide)) I (0) (by omega) (by omega)) ?_
  rintro u20 v19 ⟨rfl, x21, rfl, hx21a, hx21b⟩
  refine ⟨_, rfl, ?_⟩
  show pw X d h 87 32 [some (.ref 32), some (.ref (16 + c)), some (pw_i x4), some (pw_i (x4 + x8)), some (pw_i x17), none, none, none, none, none, none] [pw_i x21] _
  refine pw_ld E (pc' := 33) (st' := [pw_i (x4 + x8), pw_i x21]) rfl (fun _ => rfl) ?_
  refine pw_mul E (pc' := 34) rfl rfl ?_
  refine pw_nm (fun x22 hx22a hx22b => ?_)
  refine pw_ld E (pc' := 36) (st' := [pw_i x17, pw_i x22]) rfl (fun _ => rfl) ?_
  refine pw_ld E (pc' := 37) (st' := [pw_i x4, pw_i x17, pw_i x22]) rfl (fun _ => rfl) ?_
  refine pw_mul E (pc' := 38) rfl rfl ?_
  refine pw_nm (fun x23 hx23a hx23b => ?_)
  refine pw_sub E (pc' := 39) rfl rfl ?_
  refine pw_nm (fun x24 hx24a hx24b => ?_)
  refine pw_abs E rfl rfl rfl (fun x25 hx25a hx25b hx25c hx25d => ?_)
  refine pw_ist E (pc' := 44) (ls' := [some (.ref 32), some (.ref (16 + c)), some (pw_i x4), some (pw_i (x4 + x8)), some (pw_i x17), some (pw_i x25), none, none, none, none, none]) rfl rfl rfl rfl ?_
  refine pw_ld E (pc' := 45) (st' := [.ref 32]) rfl (fun _ => rfl) ?_
  obtain ⟨f26l, f26h, -⟩ := pw_obj (c := 16) I rfl
  refine pw_call (m' := 88) (As := [.ref 32]) (rest := []) (ls'' := [some (.ref 32), none, none]) (Nat.le_trans (by decide) hd) E rfl (fun _ => pw_iV rfl rfl rfl rfl (pw_cellI f26h rfl)) (rfl : pm_ent 88 = some (1, 3, 8, 4, pmc_88)) rfl rfl (cm_88 (pw_dp hd (by decide)) I ) ?_
  rintro h27 v28 ⟨h27I, h27E, rfl⟩
  refine ⟨_, rfl, ?_⟩
  have h27F := E0.tr (h27E.wk (W' := [c, 19]) (by first | rfl | simp))
  show pw X d h27 87 48 [some (.ref 32), some (.ref (16 + c)), some (pw_i x4), some (pw_i (x4 + x8)), some (pw_i x17), some (pw_i x25), none, none, none, none, none] [] _
  refine pw_ld E (pc' := 49) (st' := [.long (Int64.ofNat 0)]) rfl (fun _ => rfl) ?_
  refine pw_lst E (pc' := 51) (ls' := [some (.ref 32), some (.ref (16 + c)), some (pw_i x4), some (pw_i (x4 + x8)), some (pw_i x17), some (pw_i x25), some (.long (Int64.ofNat 0)), none, none, none, none]) rfl rfl rfl rfl ?_
  refine pw_ld E (pc' := 52) (st' := [.long (Int64.ofNat 0)]) rfl (fun _ => rfl) ?_
  refine pw_lst E (pc' := 54) (ls' := [some (.ref 32), some (.ref (16 + c)), some (pw_i x4), some (pw_i (x4 + x8)), some (pw_i x17), some (pw_i x25), some (.long (Int64.ofNat 0)), none, some (.long (Int64.ofNat 0)), none, none]) rfl rfl rfl rfl ?_
  refine pw_ld E (pc' := 55) (st' := [pw_i 0]) rfl (fun _ => rfl) ?_
  refine pw_ist E (pc' := 57) (ls' := [some (.ref 32), some (.ref (16 + c)), some (pw_i x4), some (pw_i (x4 + x8)), some (pw_i x17), some (pw_i x25), some (.long (Int64.ofNat 0)), none, some (.long (Int64.ofNat 0)), none, some (pw_i 0)]) rfl rfl rfl rfl ?_
  have L57 : ∀ (n57 : Nat) (k57_6 : Int64) (k57_8 : Int64) (k57_10 : Int), 0 ≤ k57_10 → k57_10 ≤ 16384 → (16384 - k57_10).toNat = n57 → pw X d h27 87 57 [some (.ref 32), some (.ref (16 + c)), some (pw_i x4), some (pw_i (x4 + x8)), some (pw_i x17), some (pw_i x25), some (.long k57_6), none, some (.long k57_8), none, some (pw_i k57_10)] [] (fun h' v => pw_I h' ∧ pw_E [c, 19] h h' ∧ v = .inl none) := by
    intro n57
    induction n57 using Nat.strongRecOn with
    | ind n57 ih57 =>
      intro k57_6 k57_8 k57_10 k57_10a k57_10b hm57
      refine pw_ld E (pc' := 59) (st' := [pw_i k57_10]) rfl (fun _ => rfl) ?_
      refine pw_ld E (pc' := 60) (st' := [pw_i 1, pw_i k57_10]) rfl (fun _ => rfl) ?_
      refine pw_ld E (pc' := 61) (st' := [pw_i (x4 + x8), pw_i 1, pw_i k57_10]) rfl (fun _ => rfl) ?_
      refine pw_bip E (pc' := 63) rfl rfl (by decide) ?_
      refine pw_min E rfl rfl (by omega) (by omega) (by decide) (by decide) rfl ?_
      refine pw_shl1 (n := 14) E (pc' := 67) rfl rfl (by omega) (by omega) (by decide) (fun x29 hx29a hx29b => ?_)
      change x29 ≤ 16384 at hx29b
      refine pw_if2 E (pc' := 122) rfl (by decide) (by omega) (by omega) (by omega) (by omega) ?_ ?_
      · intro hc30
        change x29 ≤ k57_10 at hc30
        refine pw_ld E (pc' := 123) (st' := [.ref (16 + c)]) rfl (fun _ => rfl) ?_
        refine pw_ld E (pc' := 125) (st' := [.long k57_8, .ref (16 + c)]) rfl (fun _ => rfl) ?_
        refine pw_ld E (pc' := 127) (st' := [.long k57_6, .long k57_8, .ref (16 + c)]) rfl (fun _ => rfl) ?_
        obtain ⟨f31l, f31h, -⟩ := pw_obj (c := c) h27I (pw_Fr_o hc)
        refine pw_call (m' := 6) (As := [.ref (16 + c), .long k57_8, .long k57_6]) (rest := []) (ls'' := [some (.ref (16 + c)), some (.long k57_8), none, some (.long k57_6), none, none, none]) (Nat.le_trans (by decide) hd) E rfl (fun _ => pw_iV rfl rfl rfl rfl (pw_cellI f31h rfl)) (rfl : pm_ent 6 = some (3, 7, 1, 4, pmc_6)) rfl rfl (cm_6 (pw_dp hd (by decide)) h27I c hc (k57_8) (k57_6)) ?_
        rintro h32 v33 ⟨h32I, h32E, rfl⟩
        refine ⟨_, rfl, ?_⟩
        have h32F := h27F.tr (h32E.wk (W' := [c, 19]) (by first | rfl | simp))
        show pw X d h32 87 130 [some (.ref 32), some (.ref (16 + c)), some (pw_i x4), some (pw_i (x4 + x8)), some (pw_i x17), some (pw_i x25), some (.long k57_6), none, some (.long k57_8), none, some (pw_i k57_10)] [] _
        refine pw_vret E rfl ?_
        exact ⟨h32I, h32F, rfl⟩
      · intro hc34
        change ¬ (x29 ≤ k57_10) at hc34
        refine pw_ld E (pc' := 72) (st' := [pw_i k57_10]) rfl (fun _ => rfl) ?_
        refine pw_call (m' := 326) (As := [pw_i k57_10]) (rest := []) (ls'' := [some (pw_i k57_10)]) (Nat.le_trans (by decide) hd) E rfl (fun _ => pw_iS rfl rfl rfl) (rfl : pm_ent 326 = some (1, 1, 15, 0, pmc_326)) rfl rfl (cm_326 (pw_dp hd (by decide)) h27I (k57_10) (by omega) (by omega)) ?_
        rintro u36 v35 ⟨rfl, x37, rfl, hx37a, hx37b⟩
        refine ⟨_, rfl, ?_⟩
        show pw X d h27 87 75 [some (.ref 32), some (.ref (16 + c)), some (pw_i x4), some (pw_i (x4 + x8)), some (pw_i x17), some (pw_i x25), some (.long k57_6), none, some (.long k57_8), none, some (pw_i k57_10)] [pw_i x37] _
        refine pw_ld E (pc' := 76) (st' := [pw_i x4, pw_i x37]) rfl (fun _ => rfl) ?_
        refine pw_if2 E (pc' := 116) rfl (by decide) (by omega) (by omega) (by omega) (by omega) ?_ ?_
        · intro hc38
          change x37 ≠ x4 at hc38
          refine pw_inc E (pc' := 119) (ls' := [some (.ref 32), some (.ref (16 + c)), some (pw_i x4), some (pw_i (x4 + x8)), some (pw_i x17), some (pw_i x25), some (.long k57_6), none, some (.long k57_8), none, some (pw_i (k57_10 + 1))]) rfl rfl rfl rfl ?_
          refine pw_goto E (pc' := 57) rfl (by decide) ?_
          exact ih57 _ (by omega) (k57_6) (k57_8) (k57_10 + 1)  (by omega) (by omega)  rfl
        · intro hc39
          change ¬ (x37 ≠ x4) at hc39
          refine pw_ld E (pc' := 81) (st' := [.long k57_6]) rfl (fun _ => rfl) ?_
          refine pw_ld E (pc' := 82) (st' := [.long (Int64.ofNat 1), .long k57_6]) rfl (fun _ => rfl) ?_
          refine pw_ld E (pc' := 83) (st' := [.long (k57_6 + (Int64.ofNat 1))]) rfl (fun _ => rfl) ?_
          refine pw_lst E (pc' := 85) (ls' := [some (.ref 32), some (.ref (16 + c)), some (pw_i x4), some (pw_i (x4 + x8)), some (pw_i x17), some (pw_i x25), some (.long (k57_6 + (Int64.ofNat 1))), none, some (.long k57_8), none, some (pw_i k57_10)]) rfl rfl rfl rfl ?_
          refine pw_ld E (pc' := 87) (st' := [.long k57_8]) rfl (fun _ => rfl) ?_
          refine pw_ld E (pc' := 88) (st' := [.ref 32, .long k57_8]) rfl (fun _ => rfl) ?_
          refine pw_ld E (pc' := 90) (st' := [pw_i k57_10, .ref 32, .long k57_8]) rfl (fun _ => rfl) ?_
          obtain ⟨f40l, f40h, -⟩ := pw_obj (c := 16) h27I rfl
          refine pw_call (m' := 89) (As := [.ref 32, pw_i k57_10]) (rest := [.long k57_8]) (ls'' := [some (.ref 32), some (pw_i k57_10), none, none]) (Nat.le_trans (by decide) hd) E rfl (fun _ => pw_iV rfl rfl rfl rfl (pw_cellI f40h rfl)) (rfl : pm_ent 89 = some (2, 4, 8, 0, pmc_89)) rfl rfl (cm_89 (pw_dp hd (by decide)) h27I (k57_10) (by omega) (by omega)) ?_
          rintro u42 v41 ⟨rfl, x43, rfl, hx43a, hx43b⟩
          refine ⟨_, rfl, ?_⟩
          show pw X d h27 87 93 [some (.ref 32), some (.ref (16 + c)), some (pw_i x4), some (pw_i (x4 + x8)), some (pw_i x17), some (pw_i x25), some (.long (k57_6 + (Int64.ofNat 1))), none, some (.long k57_8), none, some (pw_i k57_10)] [pw_i x43, .long k57_8] _
          refine pw_ld E (pc' := 94) (st' := [pw_i (x4 + x8), pw_i x43, .long k57_8]) rfl (fun _ => rfl) ?_
          refine pw_mul E (pc' := 95) rfl rfl ?_
          refine pw_nm (fun x44 hx44a hx44b => ?_)
          refine pw_ld E (pc' := 97) (st' := [pw_i x17, pw_i x44, .long k57_8]) rfl (fun _ => rfl) ?_
          refine pw_ld E (pc' := 98) (st' := [pw_i x4, pw_i x17, pw_i x44, .long k57_8]) rfl (fun _ => rfl) ?_
          refine pw_mul E (pc' := 99) rfl rfl ?_
          refine pw_nm (fun x45 hx45a hx45b => ?_)
          refine pw_sub E (pc' := 100) rfl rfl ?_
          refine pw_nm (fun x46 hx46a hx46b => ?_)
          refine pw_abs E rfl rfl rfl (fun x47 hx47a hx47b hx47c hx47d => ?_)
          refine pw_ld E (pc' := 105) (st' := [pw_i x25, pw_i x47, .long k57_8]) rfl (fun _ => rfl) ?_
          refine pw_if2 E (pc' := 112) rfl (by decide) (by omega) (by omega) (by omega) (by omega) ?_ ?_
          · intro hc48
            change x47 < x25 at hc48
            refine pw_ld E (pc' := 113) (st' := [.long (Int64.ofNat 0), .long k57_8]) rfl (fun _ => rfl) ?_
            refine pw_ld E (pc' := 114) (st' := [.long (k57_8 + (Int64.ofNat 0))]) rfl (fun _ => rfl) ?_
            refine pw_lst E (pc' := 116) (ls' := [some (.ref 32), some (.ref (16 + c)), some (pw_i x4), some (pw_i (x4 + x8)), some (pw_i x17), some (pw_i x25), some (.long (k57_6 + (Int64.ofNat 1))), none, some (.long (k57_8 + (Int64.ofNat 0))), none, some (pw_i k57_10)]) rfl rfl rfl rfl ?_
            refine pw_inc E (pc' := 119) (ls' := [some (.ref 32), some (.ref (16 + c)), some (pw_i x4), some (pw_i (x4 + x8)), some (pw_i x17), some (pw_i x25), some (.long (k57_6 + (Int64.ofNat 1))), none, some (.long (k57_8 + (Int64.ofNat 0))), none, some (pw_i (k57_10 + 1))]) rfl rfl rfl rfl ?_
            refine pw_goto E (pc' := 57) rfl (by decide) ?_
            exact ih57 _ (by omega) (k57_6 + (Int64.ofNat 1)) (k57_8 + (Int64.ofNat 0)) (k57_10 + 1)  (by omega) (by omega)  rfl
          · intro hc49
            change ¬ (x47 < x25) at hc49
            refine pw_ld E (pc' := 109) (st' := [.long (Int64.ofNat 1), .long k57_8]) rfl (fun _ => rfl) ?_
            refine pw_goto E (pc' := 113) rfl (by decide) ?_
            refine pw_ld E (pc' := 114) (st' := [.long (k57_8 + (Int64.ofNat 1))]) rfl (fun _ => rfl) ?_
            refine pw_lst E (pc' := 116) (ls' := [some (.ref 32), some (.ref (16 + c)), some (pw_i x4), some (pw_i (x4 + x8)), some (pw_i x17), some (pw_i x25), some (.long (k57_6 + (Int64.ofNat 1))), none, some (.long (k57_8 + (Int64.ofNat 1))), none, some (pw_i k57_10)]) rfl rfl rfl rfl ?_
            refine pw_inc E (pc' := 119) (ls' := [some (.ref 32), some (.ref (16 + c)), some (pw_i x4), some (pw_i (x4 + x8)), some (pw_i x17), some (pw_i x25), some (.long (k57_6 + (Int64.ofNat 1))), none, some (.long (k57_8 + (Int64.ofNat 1))), none, some (pw_i (k57_10 + 1))]) rfl rfl rfl rfl ?_
            refine pw_goto E (pc' := 57) rfl (by decide) ?_
            exact ih57 _ (by omega) (k57_6 + (Int64.ofNat 1)) (k57_8 + (Int64.ofNat 1)) (k57_10 + 1)  (by omega) (by omega)  rfl
  exact L57 _ (Int64.ofNat 0) (Int64.ofNat 0) (0)  (by omega) (by omega)  rfl
set_option maxHeartbeats 4000000 in
theorem cm_90 {X : List (Nat × List Value)} {d : Nat} {h : pm_H} (hd : 3 ≤ d) (I : pw_I h) (k0 : Int) (hk01 : (-2147483648) ≤ k0) (hk02 : k0 ≤ 2147483647) (c : Nat) (hc : pw_Fr c) : pw X d h 90 0 [some (.ref 32), some (pw_i k0), some (.ref (16 + c)), none, none, none, none, none, none, none] [] (fun h' v => pw_I h' ∧ pw_E [c, 19, 20, 21] h h' ∧ v = .inl none) := by
  have E : pm_ent 90 = some (3, 10, 8, 4, pmc_90) := rfl
  have E0 : pw_E [c, 19, 20, 21] h h := pw_E.rf _ _
  refine pw_ld E (pc' := 1) (st' := [.ref 32]) rfl (fun _ => rfl) ?_
  refine pw_ld E (pc' := 2) (st' := [pw_i 0, .ref 32]) rfl (fun _ => rfl) ?_
  obtain ⟨f1l, f1h, -⟩ := pw_obj (c := 16) I rfl
  refine pw_call (m' := 85) (As := [.ref 32, pw_i 0]) (rest := []) (ls'' := [some (.ref 32), some (pw_i 0), none, none]) (Nat.le_trans (by decide) hd) E rfl (fun _ => pw_iV rfl rfl rfl rfl (pw_cellI f1h rfl)) (rfl : pm_ent 85 = some (2, 4, 8, 0, pmc_85)) rfl rfl (cm_85 (pw_dp hd (by decide)) I (0) (by omega) (by omega)) ?_
  rintro u3 v2 ⟨rfl, x4, rfl, hx4a, hx4b⟩
  refine ⟨_, rfl, ?_⟩
  show pw X d h 90 5 [some (.ref 32), some (pw_i k0), some (.ref (16 + c)), none, none, none, none, none, none, none] [pw_i x4] _
  refine pw_ld E (pc' := 6) (st' := [.long ((Int32.ofInt x4).toInt64)]) rfl (fun _ => rfl) ?_
  refine pw_ld E (pc' := 7) (st' := [.ref 32, .long ((Int32.ofInt x4).toInt64)]) rfl (fun _ => rfl) ?_
  refine pw_ld E (pc' := 8) (st' := [pw_i 1, .ref 32, .long ((Int32.ofInt x4).toInt64)]) rfl (fun _ => rfl) ?_
  obtain ⟨f5l, f5h, -⟩ := pw_obj (c := 16) I rfl
  refine pw_call (m' := 84) (As := [.ref 32, pw_i 1]) (rest := [.long ((Int32.ofInt x4).toInt64)]) (ls'' := [some (.ref 32), some (pw_i 1), none, none]) (Nat.le_trans (by decide) hd) E rfl (fun _ => pw_iV rfl rfl rfl rfl (pw_cellI f5h rfl)) (rfl : pm_ent 84 = some (2, 4, 8, 0, pmc_84)) rfl rfl (cm_84 (pw_dp hd (by decide)) I (1) (by omega) (by omega)) ?_
  rintro u7 v6 ⟨rfl, x8, rfl, hx8a, hx8b⟩
  refine ⟨_, rfl, ?_⟩
  show pw X d h 90 11 [some (.ref 32), some (pw_i k0), some (.ref (16 + c)), none, none, none, none, none, none, none] [pw_i x8, .long ((Int32.ofInt x4).toInt64)] _
  refine pw_ld E (pc' := 12) (st' := [.long ((Int32.ofInt x8).toInt64), .long ((Int32.ofInt x4).toInt64)]) rfl (fun _ => rfl) ?_
  refine pw_ld E (pc' := 13) (st' := [.long (((Int32.ofInt x4).toInt64) * ((Int32.ofInt x8).toInt64))]) rfl (fun _ => rfl) ?_
  refine pw_ld E (pc' := 14) (st' := [.ref 32, .long (((Int32.ofInt x4).toInt64) * ((Int32.ofInt x8).toInt64))]) rfl (fun _ => rfl) ?_
  refine pw_ld E (pc' := 15) (st' := [pw_i 1, .ref 32, .long (((Int32.ofInt x4).toInt64) * ((Int32.ofInt x8).toInt64))]) rfl (fun _ => rfl) ?_
  obtain ⟨f9l, f9h, -⟩ := pw_obj (c := 16) I rfl
  refine pw_call (m' := 85) (As := [.ref 32, pw_i 1]) (rest := [.long (((Int32.ofInt x4).toInt64) * ((Int32.ofInt x8).toInt64))]) (ls'' := [some (.ref 32), some (pw_i 1), none, none]) (Nat.le_trans (by decide) hd) E rfl (fun _ => pw_iV rfl rfl rfl rfl (pw_cellI f9h rfl)) (rfl : pm_ent 85 = some (2, 4, 8, 0, pmc_85)) rfl rfl (cm_85 (pw_dp hd (by decide)) I (1) (by omega) (by omega)) ?_
  rintro u11 v10 ⟨rfl, x12, rfl, hx12a, hx12b⟩
  refine ⟨_, rfl, ?_⟩
  show pw X d h 90 18 [some (.ref 32), some (pw_i k0), some (.ref (16 + c)), none, none, none, none, none, none, none] [pw_i x12, .long (((Int32.ofInt x4).toInt64) * ((Int32.ofInt x8).toInt64))] _
  refine pw_ld E (pc' := 19) (st' := [.long ((Int32.ofInt x12).toInt64), .long (((Int32.ofInt x4).toInt64) * ((Int32.ofInt x8).toInt64))]) rfl (fun _ => rfl) ?_
  refine pw_ld E (pc' := 20) (st' := [.ref 32, .long ((Int32.ofInt x12).toInt64), .long (((Int32.ofInt x4).toInt64) * ((Int32.ofInt x8).toInt64))]) rfl (fun _ => rfl) ?_
  refine pw_ld E (pc' := 21) (st' := [pw_i 0, .ref 32, .long ((Int32.ofInt x12).toInt64), .long (((Int32.ofInt x4).toInt64) * ((Int32.ofInt x8).toInt64))]) rfl (fun _ => rfl) ?_
  obtain ⟨f13l, f13h, -⟩ := pw_obj (c := 16) I rfl
  refine pw_call (m' := 84) (As := [.ref 32, pw_i 0]) (rest := [.long ((Int32.ofInt x12).toInt64), .long (((Int32.ofInt x4).toInt64) * ((Int32.ofInt x8).toInt64))]) (ls'' := [some (.ref 32), some (pw_i 0), none, none]) (Nat.le_trans (by decide) hd) E rfl (fun _ => pw_iV rfl rfl rfl rfl (pw_cellI f13h rfl)) (rfl : pm_ent 84 = some (2, 4, 8, 0, pmc_84)) rfl rfl (cm_84 (pw_dp hd (by decide)) I (0) (by omega) (by omega)) ?_
  rintro u15 v14 ⟨rfl, x16, rfl, hx16a, hx16b⟩
  refine ⟨_, rfl, ?_⟩
  show pw X d h 90 24 [some (.ref 32), some (pw_i k0), some (.ref (16 + c)), none, none, none, none, none, none, none] [pw_i x16, .long ((Int32.ofInt x12).toInt64), .long (((Int32.ofInt x4).toInt64) * ((Int32.ofInt x8).toInt64))] _
  refine pw_ld E (pc' := 25) (st' := [.long ((Int32.ofInt x16).toInt64), .long ((Int32.ofInt x12).toInt64), .long (((Int32.ofInt x4).toInt64) * ((Int32.ofInt x8).toInt64))]) rfl (fun _ => rfl) ?_
  refine pw_ld E (pc' := 26) (st' := [.long (((Int32.ofInt x12).toInt64) * ((Int32.ofInt x16).toInt64)), .long (((Int32.ofInt x4).toInt64) * ((Int32.ofInt x8).toInt64))]) rfl (fun _ => rfl) ?_
  refine pw_call (m' := 328) (As := [.long (((Int32.ofInt x4).toInt64) * ((Int32.ofInt x8).toInt64)), .long (((Int32.ofInt x12).toInt64) * ((Int32.ofInt x16).toInt64))]) (rest := []) (ls'' := [some (.long (((Int32.ofInt x4).toInt64) * ((Int32.ofInt x8).toInt64))), none, some (.long (((Int32.ofInt x12).toInt64) * ((Int32.ofInt x16).toInt64))), none]) (Nat.le_trans (by decide) hd) E rfl (fun _ => pw_iS rfl rfl rfl) (rfl : pm_ent 328 = some (2, 4, 16, 0, pmc_328)) rfl rfl (cm_328 (pw_dp hd (by decide)) I (((Int32.ofInt x4).toInt64) * ((Int32.ofInt x8).toInt64)) (((Int32.ofInt x12).toInt64) * ((Int32.ofInt x16).toInt64))) ?_
  rintro u18 v17 ⟨rfl, x19, rfl, hx19a, hx19b⟩
  refine ⟨_, rfl, ?_⟩
  show pw X d h 90 29 [some (.ref 32), some (pw_i k0), some (.ref (16 + c)), none, none, none, none, none, none, none] [pw_i x19] _
  refine pw_istn E (pc' := 30) (ls' := [some (.ref 32), some (pw_i k0), some (.ref (16 + c)), some (pw_i x19), none, none, none, none, none, none]) rfl rfl rfl rfl ?_
  refine pw_ld E (pc' := 31) (st' := [.ref 32]) rfl (fun _ => rfl) ?_
  refine pw_ld E (pc' := 32) (st' := [pw_i 0, .ref 32]) rfl (fun _ => rfl) ?_
  refine pw_ld E (pc' := 33) (st' := [pw_i k0, pw_i 0, .ref 32]) rfl (fun _ => rfl) ?_
  refine pw_ld E (pc' := 34) (st' := [.ref 32, pw_i k0, pw_i 0, .ref 32]) rfl (fun _ => rfl) ?_
  refine pw_getR (b := 36) I E (c := 16) (k := 3) (pc' := 37) rfl rfl rfl rfl rfl rfl rfl ?_
  obtain ⟨f20l, f20h, -⟩ := pw_obj (c := 16) I rfl
  refine pw_call (m' := 91) (As := [.ref 32, pw_i 0, pw_i k0, .ref 36]) (rest := []) (ls'' := [some (.ref 32), some (pw_i 0), some (pw_i k0), some (.ref 36), none, none, none]) (Nat.le_trans (by decide) hd) E rfl (fun _ => pw_iV rfl rfl rfl rfl (pw_cellI f20h rfl)) (rfl : pm_ent 91 = some (4, 7, 8, 0, pmc_91)) rfl rfl (cm_91_20 (pw_dp hd (by decide)) I (0) (by omega) (by omega) (k0) (by omega) (by omega)) ?_
  rintro h21 v22 ⟨h21I, h21E, x23, rfl, hx23a, hx23b⟩
  refine ⟨_, rfl, ?_⟩
  have h21F := E0.tr (h21E.wk (W' := [c, 19, 20, 21]) (by first | rfl | simp))
  show pw X d h21 90 40 [some (.ref 32), some (pw_i k0), some (.ref (16 + c)), some (pw_i x19), none, none, none, none, none, none] [pw_i x23] _
  refine pw_ist E (pc' := 42) (ls' := [some (.ref 32), some (pw_i k0), some (.ref (16 + c)), some (pw_i x19), some (pw_i x23), none, none, none, none, none]) rfl rfl rfl rfl ?_
  refine pw_ld E (pc' := 43) (st' := [.ref 32]) rfl (fun _ => rfl) ?_
  refine pw_ld E (pc' := 44) (st' := [pw_i 1, .ref 32]) rfl (fun _ => rfl) ?_
  refine pw_ld E (pc' := 45) (st' := [pw_i k0, pw_i 1, .ref 32]) rfl (fun _ => rfl) ?_
  refine pw_ld E (pc' := 46) (st' := [.ref 32, pw_i k0, pw_i 1, .ref 32]) rfl (fun _ => rfl) ?_
  refine pw_getR (b := 37) h21I E (c := 16) (k := 4) (pc' := 49) rfl rfl rfl rfl rfl rfl rfl ?_
  obtain ⟨f24l, f24h, -⟩ := pw_obj (c := 16) h21I rfl
  refine pw_call (m' := 91) (As := [.ref 32, pw_i 1, pw_i k0, .ref 37]) (rest := []) (ls'' := [some (.ref 32), some (pw_i 1), some (pw_i k0), some (.ref 37), none, none, none]) (Nat.le_trans (by decide) hd) E rfl (fun _ => pw_iV rfl rfl rfl rfl (pw_cellI f24h rfl)) (rfl : pm_ent 91 = some (4, 7, 8, 0, pmc_91)) rfl rfl (cm_91_21 (pw_dp hd (by decide)) h21I (1) (by omega) (by omega) (k0) (by omega) (by omega)) ?_
  rintro h25 v26 ⟨h25I, h25E, x27, rfl, hx27a, hx27b⟩
  refine ⟨_, rfl, ?_⟩
  have h25F := h21F.tr (h25E.wk (W' := [c, 19, 20, 21]) (by first | rfl | simp))
  show pw X d h25 90 52 [some (.ref 32), some (pw_i k0), some (.ref (16 + c)), some (pw_i x19), some (pw_i x23), none, none, none, none, none] [pw_i x27] _
  refine pw_ist E (pc' := 54) (ls' := [some (.ref 32), some (pw_i k0), some (.ref (16 + c)), some (pw_i x19), some (pw_i x23), some (pw_i x27), none, none, none, none]) rfl rfl rfl rfl ?_
  refine pw_ld E (pc' := 55) (st' := [.long (Int64.ofNat 0)]) rfl (fun _ => rfl) ?_
  refine pw_lst E (pc' := 57) (ls' := [some (.ref 32), some (pw_i k0), some (.ref (16 + c)), some (pw_i x19), some (pw_i x23), some (pw_i x27), some (.long (Int64.ofNat 0)), none, none, none]) rfl rfl rfl rfl ?_
  refine pw_ld E (pc' := 58) (st' := [pw_i 0]) rfl (fun _ => rfl) ?_
  refine pw_ist E (pc' := 60) (ls' := [some (.ref 32), some (pw_i k0), some (.ref (16 + c)), some (pw_i x19), some (pw_i x23), some (pw_i x27), some (.long (Int64.ofNat 0)), none, some (pw_i 0), none]) rfl rfl rfl rfl ?_
  have L60 : ∀ (n60 : Nat) (k60_6 : Int64) (k60_8 : Int) (k60_9 : Option Value), 0 ≤ k60_8 → k60_8 ≤ 512 → (512 - k60_8).toNat = n60 → pw X d h25 90 60 [some (.ref 32), some (pw_i k0), some (.ref (16 + c)), some (pw_i x19), some (pw_i x23), some (pw_i x27), some (.long k60_6), none, some (pw_i k60_8), k60_9] [] (fun h' v => pw_I h' ∧ pw_E [c, 19, 20, 21] h h' ∧ v = .inl none) := by
    intro n60
    induction n60 using Nat.strongRecOn with
    | ind n60 ih60 =>
      intro k60_6 k60_8 k60_9 k60_8a k60_8b hm60
      refine pw_ld E (pc' := 62) (st' := [pw_i k60_8]) rfl (fun _ => rfl) ?_
      refine pw_ld E (pc' := 64) (st' := [pw_i x23, pw_i k60_8]) rfl (fun _ => rfl) ?_
      refine pw_if2 E (pc' := 120) rfl (by decide) (by omega) (by omega) (by omega) (by omega) ?_ ?_
      · intro hc28
        change x23 ≤ k60_8 at hc28
        refine pw_ld E (pc' := 121) (st' := [.ref (16 + c)]) rfl (fun _ => rfl) ?_
        refine pw_ld E (pc' := 123) (st' := [.long k60_6, .ref (16 + c)]) rfl (fun _ => rfl) ?_
        refine pw_ld E (pc' := 125) (st' := [pw_i x23, .long k60_6, .ref (16 + c)]) rfl (fun _ => rfl) ?_
        refine pw_ld E (pc' := 126) (st' := [.long ((Int32.ofInt x23).toInt64), .long k60_6, .ref (16 + c)]) rfl (fun _ => rfl) ?_
        refine pw_ld E (pc' := 128) (st' := [pw_i x27, .long ((Int32.ofInt x23).toInt64), .long k60_6, .ref (16 + c)]) rfl (fun _ => rfl) ?_
        refine pw_ld E (pc' := 129) (st' := [.long ((Int32.ofInt x27).toInt64), .long ((Int32.ofInt x23).toInt64), .long k60_6, .ref (16 + c)]) rfl (fun _ => rfl) ?_
        refine pw_ld E (pc' := 130) (st' := [.long (((Int32.ofInt x23).toInt64) * ((Int32.ofInt x27).toInt64)), .long k60_6, .ref (16 + c)]) rfl (fun _ => rfl) ?_
        obtain ⟨f29l, f29h, -⟩ := pw_obj (c := c) h25I (pw_Fr_o hc)
        refine pw_call (m' := 6) (As := [.ref (16 + c), .long k60_6, .long (((Int32.ofInt x23).toInt64) * ((Int32.ofInt x27).toInt64))]) (rest := []) (ls'' := [some (.ref (16 + c)), some (.long k60_6), none, some (.long (((Int32.ofInt x23).toInt64) * ((Int32.ofInt x27).toInt64))), none, none, none]) (Nat.le_trans (by decide) hd) E rfl (fun _ => pw_iV rfl rfl rfl rfl (pw_cellI f29h rfl)) (rfl : pm_ent 6 = some (3, 7, 1, 4, pmc_6)) rfl rfl (cm_6 (pw_dp hd (by decide)) h25I c hc (k60_6) (((Int32.ofInt x23).toInt64) * ((Int32.ofInt x27).toInt64))) ?_
        rintro h30 v31 ⟨h30I, h30E, rfl⟩
        refine ⟨_, rfl, ?_⟩
        have h30F := h25F.tr (h30E.wk (W' := [c, 19, 20, 21]) (by first | rfl | simp))
        show pw X d h30 90 133 [some (.ref 32), some (pw_i k0), some (.ref (16 + c)), some (pw_i x19), some (pw_i x23), some (pw_i x27), some (.long k60_6), none, some (pw_i k60_8), k60_9] [] _
        refine pw_vret E rfl ?_
        exact ⟨h30I, h30F, rfl⟩
      · intro hc32
        change ¬ (x23 ≤ k60_8) at hc32
        refine pw_ld E (pc' := 68) (st' := [pw_i 0]) rfl (fun _ => rfl) ?_
        refine pw_ist E (pc' := 70) (ls' := [some (.ref 32), some (pw_i k0), some (.ref (16 + c)), some (pw_i x19), some (pw_i x23), some (pw_i x27), some (.long k60_6), none, some (pw_i k60_8), some (pw_i 0)]) rfl rfl rfl rfl ?_
        have L70 : ∀ (n70 : Nat) (k70_6 : Int64) (k70_9 : Int), 0 ≤ k70_9 → k70_9 ≤ 512 → (512 - k70_9).toNat = n70 → pw X d h25 90 70 [some (.ref 32), some (pw_i k0), some (.ref (16 + c)), some (pw_i x19), some (pw_i x23), some (pw_i x27), some (.long k70_6), none, some (pw_i k60_8), some (pw_i k70_9)] [] (fun h' v => pw_I h' ∧ pw_E [c, 19, 20, 21] h h' ∧ v = .inl none) := by
          intro n70
          induction n70 using Nat.strongRecOn with
          | ind n70 ih70 =>
            intro k70_6 k70_9 k70_9a k70_9b hm70
            refine pw_ld E (pc' := 72) (st' := [pw_i k70_9]) rfl (fun _ => rfl) ?_
            refine pw_ld E (pc' := 74) (st' := [pw_i x27, pw_i k70_9]) rfl (fun _ => rfl) ?_
            refine pw_if2 E (pc' := 114) rfl (by decide) (by omega) (by omega) (by omega) (by omega) ?_ ?_
            · intro hc33
              change x27 ≤ k70_9 at hc33
              refine pw_inc E (pc' := 117) (ls' := [some (.ref 32), some (pw_i k0), some (.ref (16 + c)), some (pw_i x19), some (pw_i x23), some (pw_i x27), some (.long k70_6), none, some (pw_i (k60_8 + 1)), some (pw_i k70_9)]) rfl rfl rfl rfl ?_
              refine pw_goto E (pc' := 60) rfl (by decide) ?_
              exact ih60 _ (by omega) (k70_6) (k60_8 + 1) (some (pw_i k70_9))  (by omega) (by omega)  rfl
            · intro hc34
              change ¬ (x27 ≤ k70_9) at hc34
              refine pw_ld E (pc' := 79) (st' := [.long k70_6]) rfl (fun _ => rfl) ?_
              refine pw_ld E (pc' := 80) (st' := [.ref 32, .long k70_6]) rfl (fun _ => rfl) ?_
              refine pw_getR (b := 36) h25I E (c := 16) (k := 3) (pc' := 83) rfl rfl rfl rfl rfl rfl rfl ?_
              refine pw_ld E (pc' := 85) (st' := [pw_i k60_8, .ref 36, .long k70_6]) rfl (fun _ => rfl) ?_
              refine pw_ald2 h25I E (c := 20) (pc' := 86) rfl rfl rfl (by decide) rfl (by decide) (by omega) (by omega) rfl (fun hf35a hf35b => ?_)
              refine pw_ld E (pc' := 87) (st' := [.ref 32, pw_i (pw_g h25 20 (k60_8.toNat)), .long k70_6]) rfl (fun _ => rfl) ?_
              refine pw_getR (b := 37) h25I E (c := 16) (k := 4) (pc' := 90) rfl rfl rfl rfl rfl rfl rfl ?_
              refine pw_ld E (pc' := 92) (st' := [pw_i k70_9, .ref 37, pw_i (pw_g h25 20 (k60_8.toNat)), .long k70_6]) rfl (fun _ => rfl) ?_
              refine pw_ald2 h25I E (c := 21) (pc' := 93) rfl rfl rfl (by decide) rfl (by decide) (by omega) (by omega) rfl (fun hf36a hf36b => ?_)
              refine pw_call (m' := 327) (As := [pw_i (pw_g h25 20 (k60_8.toNat)), pw_i (pw_g h25 21 (k70_9.toNat))]) (rest := [.long k70_6]) (ls'' := [some (pw_i (pw_g h25 20 (k60_8.toNat))), some (pw_i (pw_g h25 21 (k70_9.toNat)))]) (Nat.le_trans (by decide) hd) E rfl (fun _ => pw_iS rfl rfl rfl) (rfl : pm_ent 327 = some (2, 2, 15, 0, pmc_327)) rfl rfl (cm_327 (pw_dp hd (by decide)) h25I (pw_g h25 20 (k60_8.toNat)) (by omega) (by omega) (pw_g h25 21 (k70_9.toNat)) (by omega) (by omega)) ?_
              rintro u38 v37 ⟨rfl, x39, rfl, hx39a, hx39b⟩
              refine ⟨_, rfl, ?_⟩
              show pw X d h25 90 96 [some (.ref 32), some (pw_i k0), some (.ref (16 + c)), some (pw_i x19), some (pw_i x23), some (pw_i x27), some (.long k70_6), none, some (pw_i k60_8), some (pw_i k70_9)] [pw_i x39, .long k70_6] _
              refine pw_ld E (pc' := 97) (st' := [pw_i x19, pw_i x39, .long k70_6]) rfl (fun _ => rfl) ?_
              refine pw_if2 E (pc' := 104) rfl (by decide) (by omega) (by omega) (by omega) (by omega) ?_ ?_
              · intro hc40
                change x39 ≠ x19 at hc40
                refine pw_ld E (pc' := 105) (st' := [.long (Int64.ofNat 0), .long k70_6]) rfl (fun _ => rfl) ?_
                refine pw_ld E (pc' := 106) (st' := [.long (k70_6 + (Int64.ofNat 0))]) rfl (fun _ => rfl) ?_
                refine pw_lst E (pc' := 108) (ls' := [some (.ref 32), some (pw_i k0), some (.ref (16 + c)), some (pw_i x19), some (pw_i x23), some (pw_i x27), some (.long (k70_6 + (Int64.ofNat 0))), none, some (pw_i k60_8), some (pw_i k70_9)]) rfl rfl rfl rfl ?_
                refine pw_inc E (pc' := 111) (ls' := [some (.ref 32), some (pw_i k0), some (.ref (16 + c)), some (pw_i x19), some (pw_i x23), some (pw_i x27), some (.long (k70_6 + (Int64.ofNat 0))), none, some (pw_i k60_8), some (pw_i (k70_9 + 1))]) rfl rfl rfl rfl ?_
                refine pw_goto E (pc' := 70) rfl (by decide) ?_
                exact ih70 _ (by omega) (k70_6 + (Int64.ofNat 0)) (k70_9 + 1)  (by omega) (by omega)  rfl
              · intro hc41
                change ¬ (x39 ≠ x19) at hc41
                refine pw_ld E (pc' := 101) (st' := [.long (Int64.ofNat 1), .long k70_6]) rfl (fun _ => rfl) ?_
                refine pw_goto E (pc' := 105) rfl (by decide) ?_
                refine pw_ld E (pc' := 106) (st' := [.long (k70_6 + (Int64.ofNat 1))]) rfl (fun _ => rfl) ?_
                refine pw_lst E (pc' := 108) (ls' := [some (.ref 32), some (pw_i k0), some (.ref (16 + c)), some (pw_i x19), some (pw_i x23), some (pw_i x27), some (.long (k70_6 + (Int64.ofNat 1))), none, some (pw_i k60_8), some (pw_i k70_9)]) rfl rfl rfl rfl ?_
                refine pw_inc E (pc' := 111) (ls' := [some (.ref 32), some (pw_i k0), some (.ref (16 + c)), some (pw_i x19), some (pw_i x23), some (pw_i x27), some (.long (k70_6 + (Int64.ofNat 1))), none, some (pw_i k60_8), some (pw_i (k70_9 + 1))]) rfl rfl rfl rfl ?_
                refine pw_goto E (pc' := 70) rfl (by decide) ?_
                exact ih70 _ (by omega) (k70_6 + (Int64.ofNat 1)) (k70_9 + 1)  (by omega) (by omega)  rfl
        exact L70 _ (k60_6) (0)  (by omega) (by omega)  rfl
  exact L60 _ (Int64.ofNat 0) (0) (none)  (by omega) (by omega)  rfl
end
section
/-! contracts (printed by wip/tool/pwspec.py) -/
set_option maxHeartbeats 4000000 in
theorem cm_69_30 {X : List (Nat × List Value)} {d : Nat} {h : pm_H} (hd : 1 ≤ d) (I : pw_I h) (li : Int) (hli1 : 0 ≤ li) (hli2 : li ≤ 3) : pw X d h 69 0 [some (.ref 46), some (pw_i li)] [] (fun h' v => h = h' ∧ ∃ a : Int, v = .inl (some (pw_i a)) ∧ 0 ≤ a ∧ a ≤ 1) := by
  have E : pm_ent 69 = some (2, 2, 7, 1, pmc_69) := rfl
  refine pw_ld E (pc' := 1) (st' := [.ref 46]) rfl (fun _ => rfl) ?_
  refine pw_getR (b := 47) I E (c := 30) (k := 2) (pc' := 4) rfl rfl rfl rfl rfl rfl rfl ?_
  refine pw_ld E (pc' := 5) (st' := [pw_i li, .ref 47]) rfl (fun _ => rfl) ?_
  refine pw_ald2 I E (c := 31) (pc' := 6) rfl rfl rfl (by decide) rfl (by decide) (by omega) (by omega) rfl (fun hf1a hf1b => ?_)
  refine pw_zret E rfl (by omega) ?_
  exact ⟨rfl, ⟨_, rfl, by omega, by omega⟩⟩
set_option maxHeartbeats 4000000 in
theorem cm_69 {X : List (Nat × List Value)} {d : Nat} {h : pm_H} (hd : 1 ≤ d) (I : pw_I h) (c : Nat) (hc : pw_Sc c) (li : Int) (hli1 : 0 ≤ li) (hli2 : li ≤ 3) : pw X d h 69 0 [some (.ref (16 + c)), some (pw_i li)] [] (fun h' v => h = h' ∧ ∃ a : Int, v = .inl (some (pw_i a)) ∧ 0 ≤ a ∧ a ≤ 1) := by
  have E : pm_ent 69 = some (2, 2, 7, 1, pmc_69) := rfl
  refine pw_ld E (pc' := 1) (st' := [.ref (16 + c)]) rfl (fun _ => rfl) ?_
  refine pw_getR (b := 16 + (c + 1)) I E (c := c) (k := 2) (pc' := 4) rfl rfl (pw_Sc_o hc) rfl rfl rfl rfl ?_
  refine pw_ld E (pc' := 5) (st' := [pw_i li, .ref (16 + (c + 1))]) rfl (fun _ => rfl) ?_
  refine pw_ald2 I E (c := c + 1) (pc' := 6) rfl rfl (pw_Sc_1 hc) (by decide) rfl (by decide) (by omega) (by omega) rfl (fun hf1a hf1b => ?_)
  refine pw_zret E rfl (by omega) ?_
  exact ⟨rfl, ⟨_, rfl, by omega, by omega⟩⟩
set_option maxHeartbeats 4000000 in
theorem cm_72 {X : List (Nat × List Value)} {d : Nat} {h : pm_H} (hd : 1 ≤ d) (I : pw_I h) (li : Int) (hli1 : 0 ≤ li) (hli2 : li ≤ 3) (n : Int) (hn1 : 0 ≤ n) (hn2 : n ≤ 11) : pw X d h 72 0 [some (.ref 46), some (pw_i li), some (pw_i n)] [] (fun h' v => pw_I h' ∧ pw_E [34] h h' ∧ v = .inl none) := by
  have E : pm_ent 72 = some (3, 3, 7, 4, pmc_72) := rfl
  have E0 : pw_E [34] h h := pw_E.rf _ _
  refine pw_ld E (pc' := 1) (st' := [.ref 46]) rfl (fun _ => rfl) ?_
  refine pw_getR (b := 50) I E (c := 30) (k := 5) (pc' := 4) rfl rfl rfl rfl rfl rfl rfl ?_
  refine pw_ld E (pc' := 5) (st' := [pw_i li, .ref 50]) rfl (fun _ => rfl) ?_
  refine pw_ld E (pc' := 6) (st' := [pw_i n, pw_i li, .ref 50]) rfl (fun _ => rfl) ?_
  refine pw_ast0 I E (c := 34) (pc' := 7) rfl rfl rfl (by decide) rfl (by decide) (by omega) (by omega) rfl (by omega) (by omega) (by omega) (by omega) rfl ?_
  intro h1I h1E
  generalize h1w : pw_w h 34 (li.toNat) (pw_i n) = h1 at h1I h1E ⊢
  have h1F := E0.tr (h1E.wk (W' := [34]) (by first | rfl | simp))
  refine pw_vret E rfl ?_
  exact ⟨h1I, h1F, rfl⟩
set_option maxHeartbeats 4000000 in
theorem cm_77 {X : List (Nat × List Value)} {d : Nat} {h : pm_H} (hd : 1 ≤ d) (I : pw_I h) (op : Int) (hop1 : (-2147483648) ≤ op) (hop2 : op ≤ 2147483647) (x : Int) (hx1 : (-2147483648) ≤ x) (hx2 : x ≤ 2147483647) (y : Int) (hy1 : (-2147483648) ≤ y) (hy2 : y ≤ 2147483647) : pw X d h 77 0 [some (pw_i op), some (pw_i x), some (pw_i y)] [] (fun h' v => h = h' ∧ ∃ a : Int, v = .inl (some (pw_i a)) ∧ (-2147483648) ≤ a ∧ a ≤ 2147483647) := by
  have E : pm_ent 77 = some (3, 3, 7, 0, pmc_77) := rfl
  refine pw_ld E (pc' := 1) (st' := [pw_i op]) rfl (fun _ => rfl) ?_
  rcases (by omega : op = 1 ∨ op = 2 ∨ op = 3 ∨ op = 4 ∨ op = 5 ∨ op = 6 ∨ (op < 1 ∨ 6 < op)) with hs1 | hs1 | hs1 | hs1 | hs1 | hs1 | hs1
  · refine pw_tswJ (o := 39) E (pc' := 40) rfl (by omega) (by omega) (by omega) (by rw [hs1]; rfl) (by decide) ?_
    refine pw_ld E (pc' := 41) (st' := [pw_i x]) rfl (fun _ => rfl) ?_
    refine pw_if E (pc' := 52) rfl (by decide) (by omega) (by omega) ?_ ?_
    · intro hc2
      change x = (0 : Int) at hc2
      refine pw_ld E (pc' := 53) (st' := [pw_i 0]) rfl (fun _ => rfl) ?_
      refine pw_iret E rfl ?_
      exact ⟨rfl, ⟨_, rfl, by omega, by omega⟩⟩
    · intro hc3
      change ¬ (x = (0 : Int)) at hc3
      refine pw_ld E (pc' := 45) (st' := [pw_i y]) rfl (fun _ => rfl) ?_
      refine pw_if E (pc' := 52) rfl (by decide) (by omega) (by omega) ?_ ?_
      · intro hc4
        change y = (0 : Int) at hc4
        refine pw_ld E (pc' := 53) (st' := [pw_i 0]) rfl (fun _ => rfl) ?_
        refine pw_iret E rfl ?_
        exact ⟨rfl, ⟨_, rfl, by omega, by omega⟩⟩
      · intro hc5
        change ¬ (y = (0 : Int)) at hc5
        refine pw_ld E (pc' := 49) (st' := [pw_i 1]) rfl (fun _ => rfl) ?_
        refine pw_goto E (pc' := 53) rfl (by decide) ?_
        refine pw_iret E rfl ?_
        exact ⟨rfl, ⟨_, rfl, by omega, by omega⟩⟩
  · refine pw_tswJ (o := 53) E (pc' := 54) rfl (by omega) (by omega) (by omega) (by rw [hs1]; rfl) (by decide) ?_
    refine pw_ld E (pc' := 55) (st' := [pw_i x]) rfl (fun _ => rfl) ?_
    refine pw_if E (pc' := 62) rfl (by decide) (by omega) (by omega) ?_ ?_
    · intro hc6
      change x ≠ (0 : Int) at hc6
      refine pw_ld E (pc' := 63) (st' := [pw_i 1]) rfl (fun _ => rfl) ?_
      refine pw_goto E (pc' := 67) rfl (by decide) ?_
      refine pw_iret E rfl ?_
      exact ⟨rfl, ⟨_, rfl, by omega, by omega⟩⟩
    · intro hc7
      change ¬ (x ≠ (0 : Int)) at hc7
      refine pw_ld E (pc' := 59) (st' := [pw_i y]) rfl (fun _ => rfl) ?_
      refine pw_if E (pc' := 66) rfl (by decide) (by omega) (by omega) ?_ ?_
      · intro hc8
        change y = (0 : Int) at hc8
        refine pw_ld E (pc' := 67) (st' := [pw_i 0]) rfl (fun _ => rfl) ?_
        refine pw_iret E rfl ?_
        exact ⟨rfl, ⟨_, rfl, by omega, by omega⟩⟩
      · intro hc9
        change ¬ (y = (0 : Int)) at hc9
        refine pw_ld E (pc' := 63) (st' := [pw_i 1]) rfl (fun _ => rfl) ?_
        refine pw_goto E (pc' := 67) rfl (by decide) ?_
        refine pw_iret E rfl ?_
        exact ⟨rfl, ⟨_, rfl, by omega, by omega⟩⟩
  · refine pw_tswJ (o := 67) E (pc' := 68) rfl (by omega) (by omega) (by omega) (by rw [hs1]; rfl) (by decide) ?_
    refine pw_ld E (pc' := 69) (st' := [pw_i x]) rfl (fun _ => rfl) ?_
    refine pw_ld E (pc' := 70) (st' := [pw_i y, pw_i x]) rfl (fun _ => rfl) ?_
    refine pw_if2 E (pc' := 77) rfl (by decide) (by omega) (by omega) (by omega) (by omega) ?_ ?_
    · intro hc10
      change y ≤ x at hc10
      refine pw_ld E (pc' := 78) (st' := [pw_i 0]) rfl (fun _ => rfl) ?_
      refine pw_iret E rfl ?_
      exact ⟨rfl, ⟨_, rfl, by omega, by omega⟩⟩
    · intro hc11
      change ¬ (y ≤ x) at hc11
      refine pw_ld E (pc' := 74) (st' := [pw_i 1]) rfl (fun _ => rfl) ?_
      refine pw_goto E (pc' := 78) rfl (by decide) ?_
      refine pw_iret E rfl ?_
      exact ⟨rfl, ⟨_, rfl, by omega, by omega⟩⟩
  · refine pw_tswJ (o := 78) E (pc' := 79) rfl (by omega) (by omega) (by omega) (by rw [hs1]; rfl) (by decide) ?_
    refine pw_ld E (pc' := 80) (st' := [pw_i x]) rfl (fun _ => rfl) ?_
    refine pw_ld E (pc' := 81) (st' := [pw_i y, pw_i x]) rfl (fun _ => rfl) ?_
    refine pw_if2 E (pc' := 88) rfl (by decide) (by omega) (by omega) (by omega) (by omega) ?_ ?_
    · intro hc12
      change x ≠ y at hc12
      refine pw_ld E (pc' := 89) (st' := [pw_i 0]) rfl (fun _ => rfl) ?_
      refine pw_iret E rfl ?_
      exact ⟨rfl, ⟨_, rfl, by omega, by omega⟩⟩
    · intro hc13
      change ¬ (x ≠ y) at hc13
      refine pw_ld E (pc' := 85) (st' := [pw_i 1]) rfl (fun _ => rfl) ?_
      refine pw_goto E (pc' := 89) rfl (by decide) ?_
      refine pw_iret E rfl ?_
      exact ⟨rfl, ⟨_, rfl, by omega, by omega⟩⟩
  · refine pw_tswJ (o := 89) E (pc' := 90) rfl (by omega) (by omega) (by omega) (by rw [hs1]; rfl) (by decide) ?_
    refine pw_ld E (pc' := 91) (st' := [pw_i x]) rfl (fun _ => rfl) ?_
    refine pw_ld E (pc' := 92) (st' := [pw_i y, pw_i x]) rfl (fun _ => rfl) ?_
    refine pw_add E (pc' := 93) rfl rfl ?_
    refine pw_nm (fun x14 hx14a hx14b => ?_)
    refine pw_iret E rfl ?_
    exact ⟨rfl, ⟨_, rfl, by omega, by omega⟩⟩
  · refine pw_tswJ (o := 93) E (pc' := 94) rfl (by omega) (by omega) (by omega) (by rw [hs1]; rfl) (by decide) ?_
    refine pw_ld E (pc' := 95) (st' := [pw_i x]) rfl (fun _ => rfl) ?_
    refine pw_ld E (pc' := 96) (st' := [pw_i y, pw_i x]) rfl (fun _ => rfl) ?_
    refine pw_sub E (pc' := 97) rfl rfl ?_
    refine pw_nm (fun x15 hx15a hx15b => ?_)
    refine pw_iret E rfl ?_
    exact ⟨rfl, ⟨_, rfl, by omega, by omega⟩⟩
  · refine pw_tswD E (pc' := 98) rfl (by omega) (by omega) hs1 (by decide) ?_
    refine pw_ld E (pc' := 99) (st' := [pw_i x]) rfl (fun _ => rfl) ?_
    refine pw_ld E (pc' := 100) (st' := [pw_i y, pw_i x]) rfl (fun _ => rfl) ?_
    refine pw_mul E (pc' := 101) rfl rfl ?_
    refine pw_nm (fun x16 hx16a hx16b => ?_)
    refine pw_iret E rfl ?_
    exact ⟨rfl, ⟨_, rfl, by omega, by omega⟩⟩
set_option maxHeartbeats 4000000 in
theorem cm_76 {X : List (Nat × List Value)} {d : Nat} {h : pm_H} (hd : 2 ≤ d) (I : pw_I h) (c : Nat) (hc : pw_Sc c) (op : Int) (hop1 : (-2147483648) ≤ op) (hop2 : op ≤ 2147483647) (sz : Int) (hsz1 : 0 ≤ sz) (hsz2 : sz ≤ 40) : pw X d h 76 0 [some (.ref (16 + c)), some (pw_i op), some (pw_i sz)] [] (fun h' v => pw_I h' ∧ pw_E [c + 5] h h' ∧ ∃ a : Int, v = .inl (some (pw_i a)) ∧ 0 ≤ a ∧ a ≤ 40) := by
  have E : pm_ent 76 = some (3, 3, 7, 0, pmc_76) := rfl
  have E0 : pw_E [c + 5] h h := pw_E.rf _ _
  refine pw_ld E (pc' := 1) (st' := [pw_i op]) rfl (fun _ => rfl) ?_
  refine pw_bip E (pc' := 3) rfl rfl (by decide) ?_
  refine pw_if2 E (pc' := 37) rfl (by decide) (by omega) (by omega) (by decide) (by decide) ?_ ?_
  · intro hc1
    change op ≠ (8 : Int) at hc1
    refine pw_ld E (pc' := 38) (st' := [pw_i sz]) rfl (fun _ => rfl) ?_
    refine pw_ld E (pc' := 39) (st' := [pw_i 2, pw_i sz]) rfl (fun _ => rfl) ?_
    refine pw_if2 E (pc' := 44) rfl (by decide) (by omega) (by omega) (by decide) (by decide) ?_ ?_
    · intro hc2
      change (2 : Int) ≤ sz at hc2
      refine pw_ld E (pc' := 45) (st' := [.ref (16 + c)]) rfl (fun _ => rfl) ?_
      refine pw_getR (b := 16 + (c + 5)) I E (c := c) (k := 6) (pc' := 48) rfl rfl (pw_Sc_o hc) rfl rfl rfl rfl ?_
      refine pw_ld E (pc' := 49) (st' := [pw_i sz, .ref (16 + (c + 5))]) rfl (fun _ => rfl) ?_
      refine pw_ld E (pc' := 50) (st' := [pw_i 2, pw_i sz, .ref (16 + (c + 5))]) rfl (fun _ => rfl) ?_
      refine pw_sub E (pc' := 51) rfl rfl ?_
      refine pw_ld E (pc' := 52) (st' := [pw_i op, pw_i (sz - 2), .ref (16 + (c + 5))]) rfl (fun _ => rfl) ?_
      refine pw_ld E (pc' := 53) (st' := [.ref (16 + c), pw_i op, pw_i (sz - 2), .ref (16 + (c + 5))]) rfl (fun _ => rfl) ?_
      refine pw_getR (b := 16 + (c + 5)) I E (c := c) (k := 6) (pc' := 56) rfl rfl (pw_Sc_o hc) rfl rfl rfl rfl ?_
      refine pw_ld E (pc' := 57) (st' := [pw_i sz, .ref (16 + (c + 5)), pw_i op, pw_i (sz - 2), .ref (16 + (c + 5))]) rfl (fun _ => rfl) ?_
      refine pw_ld E (pc' := 58) (st' := [pw_i 2, pw_i sz, .ref (16 + (c + 5)), pw_i op, pw_i (sz - 2), .ref (16 + (c + 5))]) rfl (fun _ => rfl) ?_
      refine pw_sub E (pc' := 59) rfl rfl ?_
      refine pw_ald2 I E (c := c + 5) (pc' := 60) rfl rfl (pw_Sc_5 hc) (by decide) rfl (by decide) (by omega) (by omega) rfl (fun hf3a hf3b => ?_)
      refine pw_ld E (pc' := 61) (st' := [.ref (16 + c), pw_i (pw_g h (c + 5) ((sz - 2).toNat)), pw_i op, pw_i (sz - 2), .ref (16 + (c + 5))]) rfl (fun _ => rfl) ?_
      refine pw_getR (b := 16 + (c + 5)) I E (c := c) (k := 6) (pc' := 64) rfl rfl (pw_Sc_o hc) rfl rfl rfl rfl ?_
      refine pw_ld E (pc' := 65) (st' := [pw_i sz, .ref (16 + (c + 5)), pw_i (pw_g h (c + 5) ((sz - 2).toNat)), pw_i op, pw_i (sz - 2), .ref (16 + (c + 5))]) rfl (fun _ => rfl) ?_
      refine pw_ld E (pc' := 66) (st' := [pw_i 1, pw_i sz, .ref (16 + (c + 5)), pw_i (pw_g h (c + 5) ((sz - 2).toNat)), pw_i op, pw_i (sz - 2), .ref (16 + (c + 5))]) rfl (fun _ => rfl) ?_
      refine pw_sub E (pc' := 67) rfl rfl ?_
      refine pw_ald2 I E (c := c + 5) (pc' := 68) rfl rfl (pw_Sc_5 hc) (by decide) rfl (by decide) (by omega) (by omega) rfl (fun hf4a hf4b => ?_)
      refine pw_call (m' := 77) (As := [pw_i op, pw_i (pw_g h (c + 5) ((sz - 2).toNat)), pw_i (pw_g h (c + 5) ((sz - 1).toNat))]) (rest := [pw_i (sz - 2), .ref (16 + (c + 5))]) (ls'' := [some (pw_i op), some (pw_i (pw_g h (c + 5) ((sz - 2).toNat))), some (pw_i (pw_g h (c + 5) ((sz - 1).toNat)))]) (Nat.le_trans (by decide) hd) E rfl (fun _ => pw_iS rfl rfl rfl) (rfl : pm_ent 77 = some (3, 3, 7, 0, pmc_77)) rfl rfl (cm_77 (pw_dp hd (by decide)) I (op) (by omega) (by omega) (pw_g h (c + 5) ((sz - 2).toNat)) (by omega) (by omega) (pw_g h (c + 5) ((sz - 1).toNat)) (by omega) (by omega)) ?_
      rintro u6 v5 ⟨rfl, x7, rfl, hx7a, hx7b⟩
      refine ⟨_, rfl, ?_⟩
      show pw X d h 76 71 [some (.ref (16 + c)), some (pw_i op), some (pw_i sz)] [pw_i x7, pw_i (sz - 2), .ref (16 + (c + 5))] _
      refine pw_ast0 I E (c := c + 5) (pc' := 72) rfl rfl (pw_Sc_5 hc) (by decide) rfl (by decide) (by omega) (by omega) rfl (by omega) (by omega) (by omega) (by omega) rfl ?_
      intro h8I h8E
      generalize h8w : pw_w h (c + 5) ((sz - 2).toNat) (pw_i x7) = h8 at h8I h8E ⊢
      have h8F := E0.tr (h8E.wk (W' := [c + 5]) (by first | rfl | simp))
      refine pw_ld E (pc' := 73) (st' := [pw_i sz]) rfl (fun _ => rfl) ?_
      refine pw_ld E (pc' := 74) (st' := [pw_i 1, pw_i sz]) rfl (fun _ => rfl) ?_
      refine pw_sub E (pc' := 75) rfl rfl ?_
      refine pw_iret E rfl ?_
      exact ⟨h8I, h8F, ⟨_, rfl, by omega, by omega⟩⟩
    · intro hc9
      change ¬ ((2 : Int) ≤ sz) at hc9
      refine pw_ld E (pc' := 43) (st' := [pw_i sz]) rfl (fun _ => rfl) ?_
      refine pw_iret E rfl ?_
      exact ⟨I, E0, ⟨_, rfl, by omega, by omega⟩⟩
  · intro hc10
    change ¬ (op ≠ (8 : Int)) at hc10
    refine pw_ld E (pc' := 7) (st' := [pw_i sz]) rfl (fun _ => rfl) ?_
    refine pw_ld E (pc' := 8) (st' := [pw_i 1, pw_i sz]) rfl (fun _ => rfl) ?_
    refine pw_if2 E (pc' := 35) rfl (by decide) (by omega) (by omega) (by decide) (by decide) ?_ ?_
    · intro hc11
      change sz < (1 : Int) at hc11
      refine pw_ld E (pc' := 36) (st' := [pw_i sz]) rfl (fun _ => rfl) ?_
      refine pw_iret E rfl ?_
      exact ⟨I, E0, ⟨_, rfl, by omega, by omega⟩⟩
    · intro hc12
      change ¬ (sz < (1 : Int)) at hc12
      refine pw_ld E (pc' := 12) (st' := [.ref (16 + c)]) rfl (fun _ => rfl) ?_
      refine pw_getR (b := 16 + (c + 5)) I E (c := c) (k := 6) (pc' := 15) rfl rfl (pw_Sc_o hc) rfl rfl rfl rfl ?_
      refine pw_ld E (pc' := 16) (st' := [pw_i sz, .ref (16 + (c + 5))]) rfl (fun _ => rfl) ?_
      refine pw_ld E (pc' := 17) (st' := [pw_i 1, pw_i sz, .ref (16 + (c + 5))]) rfl (fun _ => rfl) ?_
      refine pw_sub E (pc' := 18) rfl rfl ?_
      refine pw_ld E (pc' := 19) (st' := [.ref (16 + c), pw_i (sz - 1), .ref (16 + (c + 5))]) rfl (fun _ => rfl) ?_
      refine pw_getR (b := 16 + (c + 5)) I E (c := c) (k := 6) (pc' := 22) rfl rfl (pw_Sc_o hc) rfl rfl rfl rfl ?_
      refine pw_ld E (pc' := 23) (st' := [pw_i sz, .ref (16 + (c + 5)), pw_i (sz - 1), .ref (16 + (c + 5))]) rfl (fun _ => rfl) ?_
      refine pw_ld E (pc' := 24) (st' := [pw_i 1, pw_i sz, .ref (16 + (c + 5)), pw_i (sz - 1), .ref (16 + (c + 5))]) rfl (fun _ => rfl) ?_
      refine pw_sub E (pc' := 25) rfl rfl ?_
      refine pw_ald2 I E (c := c + 5) (pc' := 26) rfl rfl (pw_Sc_5 hc) (by decide) rfl (by decide) (by omega) (by omega) rfl (fun hf13a hf13b => ?_)
      refine pw_if E (pc' := 33) rfl (by decide) (by omega) (by omega) ?_ ?_
      · intro hc14
        change pw_g h (c + 5) ((sz - 1).toNat) ≠ (0 : Int) at hc14
        refine pw_ld E (pc' := 34) (st' := [pw_i 0, pw_i (sz - 1), .ref (16 + (c + 5))]) rfl (fun _ => rfl) ?_
        refine pw_ast0 I E (c := c + 5) (pc' := 35) rfl rfl (pw_Sc_5 hc) (by decide) rfl (by decide) (by omega) (by omega) rfl (by omega) (by omega) (by omega) (by omega) rfl ?_
        intro h15I h15E
        generalize h15w : pw_w h (c + 5) ((sz - 1).toNat) (pw_i 0) = h15 at h15I h15E ⊢
        have h15F := E0.tr (h15E.wk (W' := [c + 5]) (by first | rfl | simp))
        refine pw_ld E (pc' := 36) (st' := [pw_i sz]) rfl (fun _ => rfl) ?_
        refine pw_iret E rfl ?_
        exact ⟨h15I, h15F, ⟨_, rfl, by omega, by omega⟩⟩
      · intro hc16
        change ¬ (pw_g h (c + 5) ((sz - 1).toNat) ≠ (0 : Int)) at hc16
        refine pw_ld E (pc' := 30) (st' := [pw_i 1, pw_i (sz - 1), .ref (16 + (c + 5))]) rfl (fun _ => rfl) ?_
        refine pw_goto E (pc' := 34) rfl (by decide) ?_
        refine pw_ast0 I E (c := c + 5) (pc' := 35) rfl rfl (pw_Sc_5 hc) (by decide) rfl (by decide) (by omega) (by omega) rfl (by omega) (by omega) (by omega) (by omega) rfl ?_
        intro h17I h17E
        generalize h17w : pw_w h (c + 5) ((sz - 1).toNat) (pw_i 1) = h17 at h17I h17E ⊢
        have h17F := E0.tr (h17E.wk (W' := [c + 5]) (by first | rfl | simp))
        refine pw_ld E (pc' := 36) (st' := [pw_i sz]) rfl (fun _ => rfl) ?_
        refine pw_iret E rfl ?_
        exact ⟨h17I, h17F, ⟨_, rfl, by omega, by omega⟩⟩
set_option maxHeartbeats 4000000 in
theorem cm_78_95 {X : List (Nat × List Value)} {d : Nat} {h : pm_H} (hd : 1 ≤ d) (I : pw_I h) (wd : Int) (hwd1 : (-2147483648) ≤ wd) (hwd2 : wd ≤ 2147483647) : pw X d h 78 0 [some (pw_i wd), some (.ref 111), none] [] (fun h' v => h = h' ∧ ∃ a : Int, v = .inl (some (pw_i a)) ∧ (-2147483648) ≤ a ∧ a ≤ 2147483647) := by
  have E : pm_ent 78 = some (2, 3, 7, 0, pmc_78) := rfl
  refine pw_ld E (pc' := 1) (st' := [pw_i wd]) rfl (fun _ => rfl) ?_
  refine pw_sip E (pc' := 4) rfl rfl (by decide) ?_
  refine pw_sub E (pc' := 5) rfl rfl ?_
  refine pw_nm (fun x1 hx1a hx1b => ?_)
  refine pw_istn E (pc' := 6) (ls' := [some (pw_i wd), some (.ref 111), some (pw_i x1)]) rfl rfl rfl rfl ?_
  refine pw_ld E (pc' := 7) (st' := [pw_i x1]) rfl (fun _ => rfl) ?_
  refine pw_if E (pc' := 12) rfl (by decide) (by omega) (by omega) ?_ ?_
  · intro hc2
    change (0 : Int) ≤ x1 at hc2
    refine pw_ld E (pc' := 13) (st' := [pw_i x1]) rfl (fun _ => rfl) ?_
    refine pw_ld E (pc' := 14) (st' := [.ref 111, pw_i x1]) rfl (fun _ => rfl) ?_
    obtain ⟨z3l, z3h, z3n, -⟩ := pw_arr (c := 95) I rfl
    refine pw_alen E (pc' := 15) rfl (pw_rowI z3h rfl) rfl rfl ?_
    rw [z3n]
    refine pw_if2 E (pc' := 24) rfl (by decide) (by omega) (by omega) (by decide) (by decide) ?_ ?_
    · intro hc4
      change (9 : Nat) ≤ x1 at hc4
      refine pw_ld E (pc' := 25) (st' := [pw_i 0]) rfl (fun _ => rfl) ?_
      refine pw_iret E rfl ?_
      exact ⟨rfl, ⟨_, rfl, by omega, by omega⟩⟩
    · intro hc5
      change ¬ ((9 : Nat) ≤ x1) at hc5
      refine pw_ld E (pc' := 19) (st' := [.ref 111]) rfl (fun _ => rfl) ?_
      refine pw_ld E (pc' := 20) (st' := [pw_i x1, .ref 111]) rfl (fun _ => rfl) ?_
      refine pw_ald2 I E (c := 95) (pc' := 21) rfl rfl rfl (by decide) rfl (by decide) (by omega) (by omega) rfl (fun hf6a hf6b => ?_)
      refine pw_goto E (pc' := 25) rfl (by decide) ?_
      refine pw_iret E rfl ?_
      exact ⟨rfl, ⟨_, rfl, by omega, by omega⟩⟩
  · intro hc7
    change ¬ ((0 : Int) ≤ x1) at hc7
    refine pw_ld E (pc' := 11) (st' := [pw_i wd]) rfl (fun _ => rfl) ?_
    refine pw_iret E rfl ?_
    exact ⟨rfl, ⟨_, rfl, by omega, by omega⟩⟩
set_option maxHeartbeats 4000000 in
theorem cm_78_99 {X : List (Nat × List Value)} {d : Nat} {h : pm_H} (hd : 1 ≤ d) (I : pw_I h) (wd : Int) (hwd1 : (-2147483648) ≤ wd) (hwd2 : wd ≤ 2147483647) : pw X d h 78 0 [some (pw_i wd), some (.ref 115), none] [] (fun h' v => h = h' ∧ ∃ a : Int, v = .inl (some (pw_i a)) ∧ (-2147483648) ≤ a ∧ a ≤ 2147483647) := by
  have E : pm_ent 78 = some (2, 3, 7, 0, pmc_78) := rfl
  refine pw_ld E (pc' := 1) (st' := [pw_i wd]) rfl (fun _ => rfl) ?_
  refine pw_sip E (pc' := 4) rfl rfl (by decide) ?_
  refine pw_sub E (pc' := 5) rfl rfl ?_
  refine pw_nm (fun x1 hx1a hx1b => ?_)
  refine pw_istn E (pc' := 6) (ls' := [some (pw_i wd), some (.ref 115), some (pw_i x1)]) rfl rfl rfl rfl ?_
  refine pw_ld E (pc' := 7) (st' := [pw_i x1]) rfl (fun _ => rfl) ?_
  refine pw_if E (pc' := 12) rfl (by decide) (by omega) (by omega) ?_ ?_
  · intro hc2
    change (0 : Int) ≤ x1 at hc2
    refine pw_ld E (pc' := 13) (st' := [pw_i x1]) rfl (fun _ => rfl) ?_
    refine pw_ld E (pc' := 14) (st' := [.ref 115, pw_i x1]) rfl (fun _ => rfl) ?_
    obtain ⟨z3l, z3h, z3n, -⟩ := pw_arr (c := 99) I rfl
    refine pw_alen E (pc' := 15) rfl (pw_rowI z3h rfl) rfl rfl ?_
    rw [z3n]
    refine pw_if2 E (pc' := 24) rfl (by decide) (by omega) (by omega) (by decide) (by decide) ?_ ?_
    · intro hc4
      change (10 : Nat) ≤ x1 at hc4
      refine pw_ld E (pc' := 25) (st' := [pw_i 0]) rfl (fun _ => rfl) ?_
      refine pw_iret E rfl ?_
      exact ⟨rfl, ⟨_, rfl, by omega, by omega⟩⟩
    · intro hc5
      change ¬ ((10 : Nat) ≤ x1) at hc5
      refine pw_ld E (pc' := 19) (st' := [.ref 115]) rfl (fun _ => rfl) ?_
      refine pw_ld E (pc' := 20) (st' := [pw_i x1, .ref 115]) rfl (fun _ => rfl) ?_
      refine pw_ald2 I E (c := 99) (pc' := 21) rfl rfl rfl (by decide) rfl (by decide) (by omega) (by omega) rfl (fun hf6a hf6b => ?_)
      refine pw_goto E (pc' := 25) rfl (by decide) ?_
      refine pw_iret E rfl ?_
      exact ⟨rfl, ⟨_, rfl, by omega, by omega⟩⟩
  · intro hc7
    change ¬ ((0 : Int) ≤ x1) at hc7
    refine pw_ld E (pc' := 11) (st' := [pw_i wd]) rfl (fun _ => rfl) ?_
    refine pw_iret E rfl ?_
    exact ⟨rfl, ⟨_, rfl, by omega, by omega⟩⟩
set_option maxHeartbeats 4000000 in
theorem cm_75_95 {X : List (Nat × List Value)} {d : Nat} {h : pm_H} (hd : 3 ≤ d) (I : pw_I h) (c : Nat) (hc : pw_Sc c) (li : Int) (hli1 : 0 ≤ li) (hli2 : li ≤ 3) : pw X d h 75 0 [some (.ref (16 + c)), some (pw_i li), some (.ref 111), none, none, none] [] (fun h' v => pw_I h' ∧ pw_E [c + 5] h h' ∧ ∃ a : Int, v = .inl (some (pw_i a)) ∧ (-2147483648) ≤ a ∧ a ≤ 2147483647) := by
  have E : pm_ent 75 = some (3, 6, 7, 0, pmc_75) := rfl
  have E0 : pw_E [c + 5] h h := pw_E.rf _ _
  refine pw_ld E (pc' := 1) (st' := [pw_i 0]) rfl (fun _ => rfl) ?_
  refine pw_istn E (pc' := 2) (ls' := [some (.ref (16 + c)), some (pw_i li), some (.ref 111), some (pw_i 0), none, none]) rfl rfl rfl rfl ?_
  refine pw_ld E (pc' := 3) (st' := [.ref (16 + c)]) rfl (fun _ => rfl) ?_
  refine pw_getR (b := 16 + (c + 2)) I E (c := c) (k := 3) (pc' := 6) rfl rfl (pw_Sc_o hc) rfl rfl rfl rfl ?_
  refine pw_ld E (pc' := 7) (st' := [pw_i li, .ref (16 + (c + 2))]) rfl (fun _ => rfl) ?_
  refine pw_ald2 I E (c := c + 2) (pc' := 8) rfl rfl (pw_Sc_2 hc) (by decide) rfl (by decide) (by omega) (by omega) rfl (fun hf1a hf1b => ?_)
  refine pw_ist E (pc' := 10) (ls' := [some (.ref (16 + c)), some (pw_i li), some (.ref 111), some (pw_i 0), some (pw_i (pw_g h (c + 2) (li.toNat))), none]) rfl rfl rfl rfl ?_
  have L10 : ∀ (n10 : Nat) (k10_3 : Int) (k10_4 : Int) (k10_5 : Option Value) (h10 : pm_H), pw_I h10 → pw_E [c + 5] h h10 → 0 ≤ k10_3 → k10_3 ≤ 40 → 0 ≤ k10_4 → k10_4 ≤ 1000 → (1000 - k10_4).toNat = n10 → pw X d h10 75 10 [some (.ref (16 + c)), some (pw_i li), some (.ref 111), some (pw_i k10_3), some (pw_i k10_4), k10_5] [] (fun h' v => pw_I h' ∧ pw_E [c + 5] h h' ∧ ∃ a : Int, v = .inl (some (pw_i a)) ∧ (-2147483648) ≤ a ∧ a ≤ 2147483647) := by
    intro n10
    induction n10 using Nat.strongRecOn with
    | ind n10 ih10 =>
      intro k10_3 k10_4 k10_5 h10 I10 E10 k10_3a k10_3b k10_4a k10_4b hm10
      refine pw_ld E (pc' := 12) (st' := [pw_i k10_4]) rfl (fun _ => rfl) ?_
      refine pw_ld E (pc' := 13) (st' := [.ref (16 + c), pw_i k10_4]) rfl (fun _ => rfl) ?_
      refine pw_getR (b := 16 + (c + 3)) I10 E (c := c) (k := 4) (pc' := 16) rfl rfl (pw_Sc_o hc) rfl rfl rfl rfl ?_
      refine pw_ld E (pc' := 17) (st' := [pw_i li, .ref (16 + (c + 3)), pw_i k10_4]) rfl (fun _ => rfl) ?_
      refine pw_ald2 I10 E (c := c + 3) (pc' := 18) rfl rfl (pw_Sc_3 hc) (by decide) rfl (by decide) (by omega) (by omega) rfl (fun hf2a hf2b => ?_)
      refine pw_if2 E (pc' := 84) rfl (by decide) (by omega) (by omega) (by omega) (by omega) ?_ ?_
      · intro hc3
        change pw_g h10 (c + 3) (li.toNat) ≤ k10_4 at hc3
        refine pw_ld E (pc' := 85) (st' := [.ref (16 + c)]) rfl (fun _ => rfl) ?_
        refine pw_getR (b := 16 + (c + 5)) I10 E (c := c) (k := 6) (pc' := 88) rfl rfl (pw_Sc_o hc) rfl rfl rfl rfl ?_
        refine pw_ld E (pc' := 89) (st' := [pw_i 0, .ref (16 + (c + 5))]) rfl (fun _ => rfl) ?_
        refine pw_ald2 I10 E (c := c + 5) (pc' := 90) rfl rfl (pw_Sc_5 hc) (by decide) rfl (by decide) (by omega) (by omega) rfl (fun hf4a hf4b => ?_)
        refine pw_iret E rfl ?_
        exact ⟨I10, E10, ⟨_, rfl, by omega, by omega⟩⟩
      · intro hc5
        change ¬ (pw_g h10 (c + 3) (li.toNat) ≤ k10_4) at hc5
        refine pw_ld E (pc' := 23) (st' := [pw_i k10_4]) rfl (fun _ => rfl) ?_
        refine pw_ld E (pc' := 24) (st' := [.ref (16 + c), pw_i k10_4]) rfl (fun _ => rfl) ?_
        obtain ⟨q6f, _, q61, q62, -, q6, q6l, rfl, q6h, q6n, q6i⟩ := pw_fld (c := c) (k := 0) I10 (pw_Sc_o hc) rfl
        refine pw_get0 E (c := c) (pc' := 27) rfl rfl q61 q62 rfl rfl ?_
        refine pw_alen E (pc' := 28) rfl (pw_rowI q6h rfl) rfl rfl ?_
        refine pw_if2 E (pc' := 84) rfl (by decide) (by omega) (by omega) (by omega) (by omega) ?_ ?_
        · intro hc7
          change (q6l.length : Int) ≤ k10_4 at hc7
          refine pw_ld E (pc' := 85) (st' := [.ref (16 + c)]) rfl (fun _ => rfl) ?_
          refine pw_getR (b := 16 + (c + 5)) I10 E (c := c) (k := 6) (pc' := 88) rfl rfl (pw_Sc_o hc) rfl rfl rfl rfl ?_
          refine pw_ld E (pc' := 89) (st' := [pw_i 0, .ref (16 + (c + 5))]) rfl (fun _ => rfl) ?_
          refine pw_ald2 I10 E (c := c + 5) (pc' := 90) rfl rfl (pw_Sc_5 hc) (by decide) rfl (by decide) (by omega) (by omega) rfl (fun hf8a hf8b => ?_)
          refine pw_iret E rfl ?_
          exact ⟨I10, E10, ⟨_, rfl, by omega, by omega⟩⟩
        · intro hc9
          change ¬ ((q6l.length : Int) ≤ k10_4) at hc9
          refine pw_ld E (pc' := 32) (st' := [.ref (16 + c)]) rfl (fun _ => rfl) ?_
          refine pw_get0 E (c := c) (pc' := 35) rfl rfl q61 q62 rfl rfl ?_
          refine pw_ld E (pc' := 37) (st' := [pw_i k10_4, .ref (16 + q6)]) rfl (fun _ => rfl) ?_
          refine pw_cald E (pc' := 38) rfl q6h q6i rfl q6n (by omega) (by omega) rfl (fun x10 hx10a hx10b => ?_)
          refine pw_ist E (pc' := 40) (ls' := [some (.ref (16 + c)), some (pw_i li), some (.ref 111), some (pw_i k10_3), some (pw_i k10_4), some (pw_i x10)]) rfl rfl rfl rfl ?_
          refine pw_ld E (pc' := 42) (st' := [pw_i x10]) rfl (fun _ => rfl) ?_
          refine pw_if E (pc' := 57) rfl (by decide) (by omega) (by omega) ?_ ?_
          · intro hc11
            change (0 : Int) ≤ x10 at hc11
            refine pw_ld E (pc' := 58) (st' := [pw_i k10_3]) rfl (fun _ => rfl) ?_
            refine pw_bip E (pc' := 60) rfl rfl (by decide) ?_
            refine pw_if2 E (pc' := 78) rfl (by decide) (by omega) (by omega) (by decide) (by decide) ?_ ?_
            · intro hc12
              change (40 : Int) ≤ k10_3 at hc12
              refine pw_inc E (pc' := 81) (ls' := [some (.ref (16 + c)), some (pw_i li), some (.ref 111), some (pw_i k10_3), some (pw_i (k10_4 + 1)), some (pw_i x10)]) rfl rfl rfl rfl ?_
              refine pw_goto E (pc' := 10) rfl (by decide) ?_
              exact ih10 _ (by omega) (k10_3) (k10_4 + 1) (some (pw_i x10)) h10 I10 E10 (by omega) (by omega) (by omega) (by omega)  rfl
            · intro hc13
              change ¬ ((40 : Int) ≤ k10_3) at hc13
              refine pw_ld E (pc' := 64) (st' := [.ref (16 + c)]) rfl (fun _ => rfl) ?_
              refine pw_getR (b := 16 + (c + 5)) I10 E (c := c) (k := 6) (pc' := 67) rfl rfl (pw_Sc_o hc) rfl rfl rfl rfl ?_
              refine pw_ld E (pc' := 68) (st' := [pw_i k10_3, .ref (16 + (c + 5))]) rfl (fun _ => rfl) ?_
              refine pw_ld E (pc' := 70) (st' := [pw_i x10, pw_i k10_3, .ref (16 + (c + 5))]) rfl (fun _ => rfl) ?_
              refine pw_ld E (pc' := 71) (st' := [.ref 111, pw_i x10, pw_i k10_3, .ref (16 + (c + 5))]) rfl (fun _ => rfl) ?_
              refine pw_call (m' := 78) (As := [pw_i x10, .ref 111]) (rest := [pw_i k10_3, .ref (16 + (c + 5))]) (ls'' := [some (pw_i x10), some (.ref 111), none]) (Nat.le_trans (by decide) hd) E rfl (fun _ => pw_iS rfl rfl rfl) (rfl : pm_ent 78 = some (2, 3, 7, 0, pmc_78)) rfl rfl (cm_78_95 (pw_dp hd (by decide)) I10 (x10) (by omega) (by omega)) ?_
              rintro u15 v14 ⟨rfl, x16, rfl, hx16a, hx16b⟩
              refine ⟨_, rfl, ?_⟩
              show pw X d h10 75 74 [some (.ref (16 + c)), some (pw_i li), some (.ref 111), some (pw_i k10_3), some (pw_i k10_4), some (pw_i x10)] [pw_i x16, pw_i k10_3, .ref (16 + (c + 5))] _
              refine pw_ast0 I10 E (c := c + 5) (pc' := 75) rfl rfl (pw_Sc_5 hc) (by decide) rfl (by decide) (by omega) (by omega) rfl (by omega) (by omega) (by omega) (by omega) rfl ?_
              intro h17I h17E
              generalize h17w : pw_w h10 (c + 5) (k10_3.toNat) (pw_i x16) = h17 at h17I h17E ⊢
              have h17F := E10.tr (h17E.wk (W' := [c + 5]) (by first | rfl | simp))
              refine pw_inc E (pc' := 78) (ls' := [some (.ref (16 + c)), some (pw_i li), some (.ref 111), some (pw_i (k10_3 + 1)), some (pw_i k10_4), some (pw_i x10)]) rfl rfl rfl rfl ?_
              refine pw_inc E (pc' := 81) (ls' := [some (.ref (16 + c)), some (pw_i li), some (.ref 111), some (pw_i (k10_3 + 1)), some (pw_i (k10_4 + 1)), some (pw_i x10)]) rfl rfl rfl rfl ?_
              refine pw_goto E (pc' := 10) rfl (by decide) ?_
              exact ih10 _ (by omega) (k10_3 + 1) (k10_4 + 1) (some (pw_i x10)) h17 h17I h17F (by omega) (by omega) (by omega) (by omega)  rfl
          · intro hc18
            change ¬ ((0 : Int) ≤ x10) at hc18
            refine pw_ld E (pc' := 46) (st' := [.ref (16 + c)]) rfl (fun _ => rfl) ?_
            refine pw_ld E (pc' := 48) (st' := [pw_i x10, .ref (16 + c)]) rfl (fun _ => rfl) ?_
            refine pw_ineg E (pc' := 49) rfl rfl ?_
            refine pw_nm (fun x19 hx19a hx19b => ?_)
            refine pw_ld E (pc' := 50) (st' := [pw_i k10_3, pw_i x19, .ref (16 + c)]) rfl (fun _ => rfl) ?_
            obtain ⟨f20l, f20h, -⟩ := pw_obj (c := c) I10 (pw_Sc_o hc)
            refine pw_call (m' := 76) (As := [.ref (16 + c), pw_i x19, pw_i k10_3]) (rest := []) (ls'' := [some (.ref (16 + c)), some (pw_i x19), some (pw_i k10_3)]) (Nat.le_trans (by decide) hd) E rfl (fun _ => pw_iV rfl rfl rfl rfl (pw_cellI f20h rfl)) (rfl : pm_ent 76 = some (3, 3, 7, 0, pmc_76)) rfl rfl (cm_76 (pw_dp hd (by decide)) I10 c hc (x19) (by omega) (by omega) (k10_3) (by omega) (by omega)) ?_
            rintro h21 v22 ⟨h21I, h21E, x23, rfl, hx23a, hx23b⟩
            refine ⟨_, rfl, ?_⟩
            have h21F := E10.tr (h21E.wk (W' := [c + 5]) (by first | rfl | simp))
            show pw X d h21 75 53 [some (.ref (16 + c)), some (pw_i li), some (.ref 111), some (pw_i k10_3), some (pw_i k10_4), some (pw_i x10)] [pw_i x23] _
            refine pw_istn E (pc' := 54) (ls' := [some (.ref (16 + c)), some (pw_i li), some (.ref 111), some (pw_i x23), some (pw_i k10_4), some (pw_i x10)]) rfl rfl rfl rfl ?_
            refine pw_goto E (pc' := 78) rfl (by decide) ?_
            refine pw_inc E (pc' := 81) (ls' := [some (.ref (16 + c)), some (pw_i li), some (.ref 111), some (pw_i x23), some (pw_i (k10_4 + 1)), some (pw_i x10)]) rfl rfl rfl rfl ?_
            refine pw_goto E (pc' := 10) rfl (by decide) ?_
            exact ih10 _ (by omega) (x23) (k10_4 + 1) (some (pw_i x10)) h21 h21I h21F (by omega) (by omega) (by omega) (by omega)  rfl
  exact L10 _ (0) (pw_g h (c + 2) (li.toNat)) (none) h I E0 (by omega) (by omega) (by omega) (by omega)  rfl
set_option maxHeartbeats 4000000 in
theorem cm_75_99 {X : List (Nat × List Value)} {d : Nat} {h : pm_H} (hd : 3 ≤ d) (I : pw_I h) (c : Nat) (hc : pw_Sc c) (li : Int) (hli1 : 0 ≤ li) (hli2 : li ≤ 3) : pw X d h 75 0 [some (.ref (16 + c)), some (pw_i li), some (.ref 115), none, none, none] [] (fun h' v => pw_I h' ∧ pw_E [c + 5] h h' ∧ ∃ a : Int, v = .inl (some (pw_i a)) ∧ (-2147483648) ≤ a ∧ a ≤ 2147483647) := by
  have E : pm_ent 75 = some (3, 6, 7, 0, pmc_75) := rfl
  have E0 : pw_E [c + 5] h h := pw_E.rf _ _
  refine pw_ld E (pc' := 1) (st' := [pw_i 0]) rfl (fun _ => rfl) ?_
  refine pw_istn E (pc' := 2) (ls' := [some (.ref (16 + c)), some (pw_i li), some (.ref 115), some (pw_i 0), none, none]) rfl rfl rfl rfl ?_
  refine pw_ld E (pc' := 3) (st' := [.ref (16 + c)]) rfl (fun _ => rfl) ?_
  refine pw_getR (b := 16 + (c + 2)) I E (c := c) (k := 3) (pc' := 6) rfl rfl (pw_Sc_o hc) rfl rfl rfl rfl ?_
  refine pw_ld E (pc' := 7) (st' := [pw_i li, .ref (16 + (c + 2))]) rfl (fun _ => rfl) ?_
  refine pw_ald2 I E (c := c + 2) (pc' := 8) rfl rfl (pw_Sc_2 hc) (by decide) rfl (by decide) (by omega) (by omega) rfl (fun hf1a hf1b => ?_)
  refine pw_ist E (pc' := 10) (ls' := [some (.ref (16 + c)), some (pw_i li), some (.ref 115), some (pw_i 0), some (pw_i (pw_g h (c + 2) (li.toNat))), none]) rfl rfl rfl rfl ?_
  have L10 : ∀ (n10 : Nat) (k10_3 : Int) (k10_4 : Int) (k10_5 : Option Value) (h10 : pm_H), pw_I h10 → pw_E [c + 5] h h10 → 0 ≤ k10_3 → k10_3 ≤ 40 → 0 ≤ k10_4 → k10_4 ≤ 1000 → (1000 - k10_4).toNat = n10 → pw X d h10 75 10 [some (.ref (16 + c)), some (pw_i li), some (.ref 115), some (pw_i k10_3), some (pw_i k10_4), k10_5] [] (fun h' v => pw_I h' ∧ pw_E [c + 5] h h' ∧ ∃ a : Int, v = .inl (some (pw_i a)) ∧ (-2147483648) ≤ a ∧ a ≤ 2147483647) := by
    intro n10
    induction n10 using Nat.strongRecOn with
    | ind n10 ih10 =>
      intro k10_3 k10_4 k10_5 h10 I10 E10 k10_3a k10_3b k10_4a k10_4b hm10
      refine pw_ld E (pc' := 12) (st' := [pw_i k10_4]) rfl (fun _ => rfl) ?_
      refine pw_ld E (pc' := 13) (st' := [.ref (16 + c), pw_i k10_4]) rfl (fun _ => rfl) ?_
      refine pw_getR (b := 16 + (c + 3)) I10 E (c := c) (k := 4) (pc' := 16) rfl rfl (pw_Sc_o hc) rfl rfl rfl rfl ?_
      refine pw_ld E (pc' := 17) (st' := [pw_i li, .ref (16 + (c + 3)), pw_i k10_4]) rfl (fun _ => rfl) ?_
      refine pw_ald2 I10 E (c := c + 3) (pc' := 18) rfl rfl (pw_Sc_3 hc) (by decide) rfl (by decide) (by omega) (by omega) rfl (fun hf2a hf2b => ?_)
      refine pw_if2 E (pc' := 84) rfl (by decide) (by omega) (by omega) (by omega) (by omega) ?_ ?_
      · intro hc3
        change pw_g h10 (c + 3) (li.toNat) ≤ k10_4 at hc3
        refine pw_ld E (pc' := 85) (st' := [.ref (16 + c)]) rfl (fun _ => rfl) ?_
        refine pw_getR (b := 16 + (c + 5)) I10 E (c := c) (k := 6) (pc' := 88) rfl rfl (pw_Sc_o hc) rfl rfl rfl rfl ?_
        refine pw_ld E (pc' := 89) (st' := [pw_i 0, .ref (16 + (c + 5))]) rfl (fun _ => rfl) ?_
        refine pw_ald2 I10 E (c := c + 5) (pc' := 90) rfl rfl (pw_Sc_5 hc) (by decide) rfl (by decide) (by omega) (by omega) rfl (fun hf4a hf4b => ?_)
        refine pw_iret E rfl ?_
        exact ⟨I10, E10, ⟨_, rfl, by omega, by omega⟩⟩
      · intro hc5
        change ¬ (pw_g h10 (c + 3) (li.toNat) ≤ k10_4) at hc5
        refine pw_ld E (pc' := 23) (st' := [pw_i k10_4]) rfl (fun _ => rfl) ?_
        refine pw_ld E (pc' := 24) (st' := [.ref (16 + c), pw_i k10_4]) rfl (fun _ => rfl) ?_
        obtain ⟨q6f, _, q61, q62, -, q6, q6l, rfl, q6h, q6n, q6i⟩ := pw_fld (c := c) (k := 0) I10 (pw_Sc_o hc) rfl
        refine pw_get0 E (c := c) (pc' := 27) rfl rfl q61 q62 rfl rfl ?_
        refine pw_alen E (pc' := 28) rfl (pw_rowI q6h rfl) rfl rfl ?_
        refine pw_if2 E (pc' := 84) rfl (by decide) (by omega) (by omega) (by omega) (by omega) ?_ ?_
        · intro hc7
          change (q6l.length : Int) ≤ k10_4 at hc7
          refine pw_ld E (pc' := 85) (st' := [.ref (16 + c)]) rfl (fun _ => rfl) ?_
          refine pw_getR (b := 16 + (c + 5)) I10 E (c := c) (k := 6) (pc' := 88) rfl rfl (pw_Sc_o hc) rfl rfl rfl rfl ?_
          refine pw_ld E (pc' := 89) (st' := [pw_i 0, .ref (16 + (c + 5))]) rfl (fun _ => rfl) ?_
          refine pw_ald2 I10 E (c := c + 5) (pc' := 90) rfl rfl (pw_Sc_5 hc) (by decide) rfl (by decide) (by omega) (by omega) rfl (fun hf8a hf8b => ?_)
          refine pw_iret E rfl ?_
          exact ⟨I10, E10, ⟨_, rfl, by omega, by omega⟩⟩
        · intro hc9
          change ¬ ((q6l.length : Int) ≤ k10_4) at hc9
          refine pw_ld E (pc' := 32) (st' := [.ref (16 + c)]) rfl (fun _ => rfl) ?_
          refine pw_get0 E (c := c) (pc' := 35) rfl rfl q61 q62 rfl rfl ?_
          refine pw_ld E (pc' := 37) (st' := [pw_i k10_4, .ref (16 + q6)]) rfl (fun _ => rfl) ?_
          refine pw_cald E (pc' := 38) rfl q6h q6i rfl q6n (by omega) (by omega) rfl (fun x10 hx10a hx10b => ?_)
          refine pw_ist E (pc' := 40) (ls' := [some (.ref (16 + c)), some (pw_i li), some (.ref 115), some (pw_i k10_3), some (pw_i k10_4), some (pw_i x10)]) rfl rfl rfl rfl ?_
          refine pw_ld E (pc' := 42) (st' := [pw_i x10]) rfl (fun _ => rfl) ?_
          refine pw_if E (pc' := 57) rfl (by decide) (by omega) (by omega) ?_ ?_
          · intro hc11
            change (0 : Int) ≤ x10 at hc11
            refine pw_ld E (pc' := 58) (st' := [pw_i k10_3]) rfl (fun _ => rfl) ?_
            refine pw_bip E (pc' := 60) rfl rfl (by decide) ?_
            refine pw_if2 E (pc' := 78) rfl (by decide) (by omega) (by omega) (by decide) (by decide) ?_ ?_
            · intro hc12
              change (40 : Int) ≤ k10_3 at hc12
              refine pw_inc E (pc' := 81) (ls' := [some (.ref (16 + c)), some (pw_i li), some (.ref 115), some (pw_i k10_3), some (pw_i (k10_4 + 1)), some (pw_i x10)]) rfl rfl rfl rfl ?_
              refine pw_goto E (pc' := 10) rfl (by decide) ?_
              exact ih10 _ (by omega) (k10_3) (k10_4 + 1) (some (pw_i x10)) h10 I10 E10 (by omega) (by omega) (by omega) (by omega)  rfl
            · intro hc13
              change ¬ ((40 : Int) ≤ k10_3) at hc13
              refine pw_ld E (pc' := 64) (st' := [.ref (16 + c)]) rfl (fun _ => rfl) ?_
              refine pw_getR (b := 16 + (c + 5)) I10 E (c := c) (k := 6) (pc' := 67) rfl rfl (pw_Sc_o hc) rfl rfl rfl rfl ?_
              refine pw_ld E (pc' := 68) (st' := [pw_i k10_3, .ref (16 + (c + 5))]) rfl (fun _ => rfl) ?_
              refine pw_ld E (pc' := 70) (st' := [pw_i x10, pw_i k10_3, .ref (16 + (c + 5))]) rfl (fun _ => rfl) ?_
              refine pw_ld E (pc' := 71) (st' := [.ref 115, pw_i x10, pw_i k10_3, .ref (16 + (c + 5))]) rfl (fun _ => rfl) ?_
              refine pw_call (m' := 78) (As := [pw_i x10, .ref 115]) (rest := [pw_i k10_3, .ref (16 + (c + 5))]) (ls'' := [some (pw_i x10), some (.ref 115), none]) (Nat.le_trans (by decide) hd) E rfl (fun _ => pw_iS rfl rfl rfl) (rfl : pm_ent 78 = some (2, 3, 7, 0, pmc_78)) rfl rfl (cm_78_99 (pw_dp hd (by decide)) I10 (x10) (by omega) (by omega)) ?_
              rintro u15 v14 ⟨rfl, x16, rfl, hx16a, hx16b⟩
              refine ⟨_, rfl, ?_⟩
              show pw X d h10 75 74 [some (.ref (16 + c)), some (pw_i li), some (.ref 115), some (pw_i k10_3), some (pw_i k10_4), some (pw_i x10)] [pw_i x16, pw_i k10_3, .ref (16 + (c + 5))] _
              refine pw_ast0 I10 E (c := c + 5) (pc' := 75) rfl rfl (pw_Sc_5 hc) (by decide) rfl (by decide) (by omega) (by omega) rfl (by omega) (by omega) (by omega) (by omega) rfl ?_
              intro h17I h17E
              generalize h17w : pw_w h10 (c + 5) (k10_3.toNat) (pw_i x16) = h17 at h17I h17E ⊢
              have h17F := E10.tr (h17E.wk (W' := [c + 5]) (by first | rfl | simp))
              refine pw_inc E (pc' := 78) (ls' := [some (.ref (16 + c)), some (pw_i li), some (.ref 115), some (pw_i (k10_3 + 1)), some (pw_i k10_4), some (pw_i x10)]) rfl rfl rfl rfl ?_
              refine pw_inc E (pc' := 81) (ls' := [some (.ref (16 + c)), some (pw_i li), some (.ref 115), some (pw_i (k10_3 + 1)), some (pw_i (k10_4 + 1)), some (pw_i x10)]) rfl rfl rfl rfl ?_
              refine pw_goto E (pc' := 10) rfl (by decide) ?_
              exact ih10 _ (by omega) (k10_3 + 1) (k10_4 + 1) (some (pw_i x10)) h17 h17I h17F (by omega) (by omega) (by omega) (by omega)  rfl
          · intro hc18
            change ¬ ((0 : Int) ≤ x10) at hc18
            refine pw_ld E (pc' := 46) (st' := [.ref (16 + c)]) rfl (fun _ => rfl) ?_
            refine pw_ld E (pc' := 48) (st' := [pw_i x10, .ref (16 + c)]) rfl (fun _ => rfl) ?_
            refine pw_ineg E (pc' := 49) rfl rfl ?_
            refine pw_nm (fun x19 hx19a hx19b => ?_)
            refine pw_ld E (pc' := 50) (st' := [pw_i k10_3, pw_i x19, .ref (16 + c)]) rfl (fun _ => rfl) ?_
            obtain ⟨f20l, f20h, -⟩ := pw_obj (c := c) I10 (pw_Sc_o hc)
            refine pw_call (m' := 76) (As := [.ref (16 + c), pw_i x19, pw_i k10_3]) (rest := []) (ls'' := [some (.ref (16 + c)), some (pw_i x19), some (pw_i k10_3)]) (Nat.le_trans (by decide) hd) E rfl (fun _ => pw_iV rfl rfl rfl rfl (pw_cellI f20h rfl)) (rfl : pm_ent 76 = some (3, 3, 7, 0, pmc_76)) rfl rfl (cm_76 (pw_dp hd (by decide)) I10 c hc (x19) (by omega) (by omega) (k10_3) (by omega) (by omega)) ?_
            rintro h21 v22 ⟨h21I, h21E, x23, rfl, hx23a, hx23b⟩
            refine ⟨_, rfl, ?_⟩
            have h21F := E10.tr (h21E.wk (W' := [c + 5]) (by first | rfl | simp))
            show pw X d h21 75 53 [some (.ref (16 + c)), some (pw_i li), some (.ref 115), some (pw_i k10_3), some (pw_i k10_4), some (pw_i x10)] [pw_i x23] _
            refine pw_istn E (pc' := 54) (ls' := [some (.ref (16 + c)), some (pw_i li), some (.ref 115), some (pw_i x23), some (pw_i k10_4), some (pw_i x10)]) rfl rfl rfl rfl ?_
            refine pw_goto E (pc' := 78) rfl (by decide) ?_
            refine pw_inc E (pc' := 81) (ls' := [some (.ref (16 + c)), some (pw_i li), some (.ref 115), some (pw_i x23), some (pw_i (k10_4 + 1)), some (pw_i x10)]) rfl rfl rfl rfl ?_
            refine pw_goto E (pc' := 10) rfl (by decide) ?_
            exact ih10 _ (by omega) (x23) (k10_4 + 1) (some (pw_i x10)) h21 h21I h21F (by omega) (by omega) (by omega) (by omega)  rfl
  exact L10 _ (0) (pw_g h (c + 2) (li.toNat)) (none) h I E0 (by omega) (by omega) (by omega) (by omega)  rfl
set_option maxHeartbeats 4000000 in
theorem cm_74_99 {X : List (Nat × List Value)} {d : Nat} {h : pm_H} (hd : 4 ≤ d) (I : pw_I h) (c : Nat) (hc : pw_Sc c) (li : Int) (hli1 : 0 ≤ li) (hli2 : li ≤ 3) (wo : Int) (hwo1 : (-2147483648) ≤ wo) (hwo2 : wo ≤ 2147483647) : pw X d h 74 0 [some (.ref (16 + c)), some (pw_i li), some (.ref 115), some (pw_i wo)] [] (fun h' v => pw_I h' ∧ pw_E [c + 5] h h' ∧ ∃ a : Int, v = .inl (some (pw_i a)) ∧ (-2147483648) ≤ a ∧ a ≤ 2147483647) := by
  have E : pm_ent 74 = some (4, 4, 7, 0, pmc_74) := rfl
  have E0 : pw_E [c + 5] h h := pw_E.rf _ _
  refine pw_ld E (pc' := 1) (st' := [.ref (16 + c)]) rfl (fun _ => rfl) ?_
  refine pw_getR (b := 16 + (c + 1)) I E (c := c) (k := 2) (pc' := 4) rfl rfl (pw_Sc_o hc) rfl rfl rfl rfl ?_
  refine pw_ld E (pc' := 5) (st' := [pw_i li, .ref (16 + (c + 1))]) rfl (fun _ => rfl) ?_
  refine pw_ald2 I E (c := c + 1) (pc' := 6) rfl rfl (pw_Sc_1 hc) (by decide) rfl (by decide) (by omega) (by omega) rfl (fun hf1a hf1b => ?_)
  refine pw_if E (pc' := 18) rfl (by decide) (by omega) (by omega) ?_ ?_
  · intro hc2
    change pw_g h (c + 1) (li.toNat) = (0 : Int) at hc2
    refine pw_ld E (pc' := 19) (st' := [pw_i wo]) rfl (fun _ => rfl) ?_
    refine pw_iret E rfl ?_
    exact ⟨I, E0, ⟨_, rfl, by omega, by omega⟩⟩
  · intro hc3
    change ¬ (pw_g h (c + 1) (li.toNat) = (0 : Int)) at hc3
    refine pw_ld E (pc' := 10) (st' := [.ref (16 + c)]) rfl (fun _ => rfl) ?_
    refine pw_ld E (pc' := 11) (st' := [pw_i li, .ref (16 + c)]) rfl (fun _ => rfl) ?_
    refine pw_ld E (pc' := 12) (st' := [.ref 115, pw_i li, .ref (16 + c)]) rfl (fun _ => rfl) ?_
    obtain ⟨f4l, f4h, -⟩ := pw_obj (c := c) I (pw_Sc_o hc)
    refine pw_call (m' := 75) (As := [.ref (16 + c), pw_i li, .ref 115]) (rest := []) (ls'' := [some (.ref (16 + c)), some (pw_i li), some (.ref 115), none, none, none]) (Nat.le_trans (by decide) hd) E rfl (fun _ => pw_iV rfl rfl rfl rfl (pw_cellI f4h rfl)) (rfl : pm_ent 75 = some (3, 6, 7, 0, pmc_75)) rfl rfl (cm_75_99 (pw_dp hd (by decide)) I c hc (li) (by omega) (by omega)) ?_
    rintro h5 v6 ⟨h5I, h5E, x7, rfl, hx7a, hx7b⟩
    refine ⟨_, rfl, ?_⟩
    have h5F := E0.tr (h5E.wk (W' := [c + 5]) (by first | rfl | simp))
    show pw X d h5 74 15 [some (.ref (16 + c)), some (pw_i li), some (.ref 115), some (pw_i wo)] [pw_i x7] _
    refine pw_goto E (pc' := 19) rfl (by decide) ?_
    refine pw_iret E rfl ?_
    exact ⟨h5I, h5F, ⟨_, rfl, by omega, by omega⟩⟩
set_option maxHeartbeats 4000000 in
theorem cm_79 {X : List (Nat × List Value)} {d : Nat} {h : pm_H} (hd : 1 ≤ d) (I : pw_I h) (c : Nat) (hc : pw_Sc c) (li : Int) (hli1 : 0 ≤ li) (hli2 : li ≤ 3) (wo : Int) (hwo1 : 0 ≤ wo) (hwo2 : wo ≤ 11) : pw X d h 79 0 [some (.ref (16 + c)), some (pw_i li), some (pw_i wo)] [] (fun h' v => h = h' ∧ ∃ a : Int, v = .inl (some (pw_i a)) ∧ 0 ≤ a ∧ a ≤ 11) := by
  have E : pm_ent 79 = some (3, 3, 7, 0, pmc_79) := rfl
  refine pw_ld E (pc' := 1) (st' := [.ref (16 + c)]) rfl (fun _ => rfl) ?_
  refine pw_getR (b := 16 + (c + 1)) I E (c := c) (k := 2) (pc' := 4) rfl rfl (pw_Sc_o hc) rfl rfl rfl rfl ?_
  refine pw_ld E (pc' := 5) (st' := [pw_i li, .ref (16 + (c + 1))]) rfl (fun _ => rfl) ?_
  refine pw_ald2 I E (c := c + 1) (pc' := 6) rfl rfl (pw_Sc_1 hc) (by decide) rfl (by decide) (by omega) (by omega) rfl (fun hf1a hf1b => ?_)
  refine pw_if E (pc' := 18) rfl (by decide) (by omega) (by omega) ?_ ?_
  · intro hc2
    change pw_g h (c + 1) (li.toNat) = (0 : Int) at hc2
    refine pw_ld E (pc' := 19) (st' := [pw_i wo]) rfl (fun _ => rfl) ?_
    refine pw_iret E rfl ?_
    exact ⟨rfl, ⟨_, rfl, by omega, by omega⟩⟩
  · intro hc3
    change ¬ (pw_g h (c + 1) (li.toNat) = (0 : Int)) at hc3
    refine pw_ld E (pc' := 10) (st' := [.ref (16 + c)]) rfl (fun _ => rfl) ?_
    refine pw_getR (b := 16 + (c + 4)) I E (c := c) (k := 5) (pc' := 13) rfl rfl (pw_Sc_o hc) rfl rfl rfl rfl ?_
    refine pw_ld E (pc' := 14) (st' := [pw_i li, .ref (16 + (c + 4))]) rfl (fun _ => rfl) ?_
    refine pw_ald2 I E (c := c + 4) (pc' := 15) rfl rfl (pw_Sc_4 hc) (by decide) rfl (by decide) (by omega) (by omega) rfl (fun hf4a hf4b => ?_)
    refine pw_goto E (pc' := 19) rfl (by decide) ?_
    refine pw_iret E rfl ?_
    exact ⟨rfl, ⟨_, rfl, by omega, by omega⟩⟩
end
section
/-! contracts (printed by wip/tool/pwspec.py) -/
set_option maxHeartbeats 4000000 in
theorem cm_97 {X : List (Nat × List Value)} {d : Nat} {h : pm_H} (hd : 2 ≤ d) (I : pw_I h) (e8 : Int64) : pw X d h 97 0 [some (.ref 40), some (.long e8), none, none, none, none] [] (fun h' v => pw_I h' ∧ pw_E [24, 25] h h' ∧ v = .inl none) := by
  have E : pm_ent 97 = some (2, 6, 9, 4, pmc_97) := rfl
  have E0 : pw_E [24, 25] h h := pw_E.rf _ _
  refine pw_bip E (pc' := 2) rfl rfl (by decide) ?_
  refine pw_istn E (pc' := 3) (ls' := [some (.ref 40), some (.long e8), none, some (pw_i 56), none, none]) rfl rfl rfl rfl ?_
  have L3 : ∀ (n3 : Nat) (k3_3 : Int) (k3_4 : Option Value) (k3_5 : Option Value) (h3 : pm_H), pw_I h3 → pw_E [24, 25] h h3 → (-8) ≤ k3_3 → k3_3 ≤ 56 → (k3_3 + 8).toNat = n3 → pw X d h3 97 3 [some (.ref 40), some (.long e8), none, some (pw_i k3_3), k3_4, k3_5] [] (fun h' v => pw_I h' ∧ pw_E [24, 25] h h' ∧ v = .inl none) := by
    intro n3
    induction n3 using Nat.strongRecOn with
    | ind n3 ih3 =>
      intro k3_3 k3_4 k3_5 h3 I3 E3 k3_3a k3_3b hm3
      refine pw_ld E (pc' := 4) (st' := [pw_i k3_3]) rfl (fun _ => rfl) ?_
      refine pw_if E (pc' := 86) rfl (by decide) (by omega) (by omega) ?_ ?_
      · intro hc1
        change k3_3 < (0 : Int) at hc1
        refine pw_vret E rfl ?_
        exact ⟨I3, E3, rfl⟩
      · intro hc2
        change ¬ (k3_3 < (0 : Int)) at hc2
        refine pw_ld E (pc' := 8) (st' := [.long e8]) rfl (fun _ => rfl) ?_
        refine pw_ld E (pc' := 9) (st' := [pw_i k3_3, .long e8]) rfl (fun _ => rfl) ?_
        refine pw_ld E (pc' := 10) (st' := [.long ((Int64.toUInt64 e8 >>> ((Int32.ofInt k3_3).toInt64.toUInt64 &&& Int64.toUInt64 63)).toInt64)]) rfl (fun _ => rfl) ?_
        refine pw_ld E (pc' := 13) (st' := [.long (Int64.ofNat 255), .long ((Int64.toUInt64 e8 >>> ((Int32.ofInt k3_3).toInt64.toUInt64 &&& Int64.toUInt64 63)).toInt64)]) rfl (fun _ => rfl) ?_
        refine pw_ld E (pc' := 14) (st' := [.long (((Int64.toUInt64 e8 >>> ((Int32.ofInt k3_3).toInt64.toUInt64 &&& Int64.toUInt64 63)).toInt64) &&& (Int64.ofNat 255))]) rfl (fun _ => rfl) ?_
        refine pw_l2i E (pc' := 15) rfl rfl ?_
        intro x3 hx3a hx3b
        refine pw_ist E (pc' := 17) (ls' := [some (.ref 40), some (.long e8), none, some (pw_i k3_3), some (pw_i x3), k3_5]) rfl rfl rfl rfl ?_
        refine pw_ld E (pc' := 19) (st' := [pw_i x3]) rfl (fun _ => rfl) ?_
        refine pw_bip E (pc' := 21) rfl rfl (by decide) ?_
        refine pw_if2 E (pc' := 36) rfl (by decide) (by omega) (by omega) (by decide) (by decide) ?_ ?_
        · intro hc4
          change x3 = (10 : Int) at hc4
          refine pw_ld E (pc' := 37) (st' := [pw_i 1]) rfl (fun _ => rfl) ?_
          refine pw_goto E (pc' := 41) rfl (by decide) ?_
          refine pw_ist E (pc' := 43) (ls' := [some (.ref 40), some (.long e8), none, some (pw_i k3_3), some (pw_i x3), some (pw_i 1)]) rfl rfl rfl rfl ?_
          refine pw_ld E (pc' := 45) (st' := [pw_i 1]) rfl (fun _ => rfl) ?_
          refine pw_if E (pc' := 80) rfl (by decide) (by decide) (by decide) ?_ ?_
          · intro hc5
            change (1 : Int) = (0 : Int) at hc5
            exfalso; omega
          · intro hc6
            change ¬ ((1 : Int) = (0 : Int)) at hc6
            refine pw_ld E (pc' := 49) (st' := [.ref 40]) rfl (fun _ => rfl) ?_
            refine pw_getI2 I3 E (c := 24) (k := 1) (pc' := 52) rfl rfl rfl rfl rfl rfl (fun hf7a hf7b => ?_)
            refine pw_sip E (pc' := 55) rfl rfl (by decide) ?_
            refine pw_if2 E (pc' := 80) rfl (by decide) (by omega) (by omega) (by decide) (by decide) ?_ ?_
            · intro hc8
              change (1000 : Int) ≤ pw_g h3 24 1 at hc8
              refine pw_inc E (pc' := 83) (ls' := [some (.ref 40), some (.long e8), none, some (pw_i (k3_3 + (-8))), some (pw_i x3), some (pw_i 1)]) rfl rfl rfl rfl ?_
              refine pw_goto E (pc' := 3) rfl (by decide) ?_
              exact ih3 _ (by omega) (k3_3 + (-8)) (some (pw_i x3)) (some (pw_i 1)) h3 I3 E3 (by omega) (by omega)  rfl
            · intro hc9
              change ¬ ((1000 : Int) ≤ pw_g h3 24 1) at hc9
              refine pw_ld E (pc' := 59) (st' := [.ref 40]) rfl (fun _ => rfl) ?_
              refine pw_getR (b := 41) I3 E (c := 24) (k := 0) (pc' := 62) rfl rfl rfl rfl rfl rfl rfl ?_
              refine pw_ld E (pc' := 63) (st' := [.ref 40, .ref 41]) rfl (fun _ => rfl) ?_
              refine pw_getI2 I3 E (c := 24) (k := 1) (pc' := 66) rfl rfl rfl rfl rfl rfl (fun hf10a hf10b => ?_)
              refine pw_ld E (pc' := 68) (st' := [pw_i x3, pw_i (pw_g h3 24 1), .ref 41]) rfl (fun _ => rfl) ?_
              refine pw_i2c E (pc' := 69) rfl rfl (by omega) (by omega) ?_
              refine pw_ast0 I3 E (c := 25) (pc' := 70) rfl rfl rfl (by decide) rfl (by decide) (by omega) (by omega) (pw_c16 (by omega) (by omega)) (by omega) (by omega) (by omega) (by omega) rfl ?_
              intro h11I h11E
              generalize h11w : pw_w h3 25 ((pw_g h3 24 1).toNat) (pw_i x3) = h11 at h11I h11E ⊢
              have h11F := E3.tr (h11E.wk (W' := [24, 25]) (by first | rfl | simp))
              refine pw_ld E (pc' := 71) (st' := [.ref 40]) rfl (fun _ => rfl) ?_
              refine pw_ld E (pc' := 72) (st' := [.ref 40, .ref 40]) rfl (fun _ => rfl) ?_
              have he13 : pw_g h11 24 1 = pw_g h3 24 1 := by rw [← h11w]; exact pw_g_ne (by omega)
              refine pw_getI2 h11I E (c := 24) (k := 1) (pc' := 75) rfl rfl rfl rfl rfl rfl (fun hf12a hf12b => ?_)
              refine pw_ld E (pc' := 76) (st' := [pw_i 1, pw_i (pw_g h11 24 1), .ref 40]) rfl (fun _ => rfl) ?_
              refine pw_add E (pc' := 77) rfl rfl ?_
              refine pw_putI h11I E (c := 24) (k := 1) (pc' := 80) rfl rfl rfl rfl (by omega) (by omega) (by omega) (by omega) rfl rfl ?_
              intro h14I h14E
              generalize h14w : pw_w h11 24 1 (pw_i ((pw_g h11 24 1) + 1)) = h14 at h14I h14E ⊢
              have h14F := h11F.tr (h14E.wk (W' := [24, 25]) (by first | rfl | simp))
              refine pw_inc E (pc' := 83) (ls' := [some (.ref 40), some (.long e8), none, some (pw_i (k3_3 + (-8))), some (pw_i x3), some (pw_i 1)]) rfl rfl rfl rfl ?_
              refine pw_goto E (pc' := 3) rfl (by decide) ?_
              exact ih3 _ (by omega) (k3_3 + (-8)) (some (pw_i x3)) (some (pw_i 1)) h14 h14I h14F (by omega) (by omega)  rfl
        · intro hc15
          change ¬ (x3 = (10 : Int)) at hc15
          refine pw_ld E (pc' := 26) (st' := [pw_i x3]) rfl (fun _ => rfl) ?_
          refine pw_bip E (pc' := 28) rfl rfl (by decide) ?_
          refine pw_bip E (pc' := 30) rfl rfl (by decide) ?_
          refine pw_call (m' := 121) (As := [pw_i x3, pw_i 32, pw_i 126]) (rest := []) (ls'' := [some (pw_i x3), some (pw_i 32), some (pw_i 126)]) (Nat.le_trans (by decide) hd) E rfl (fun _ => pw_iS rfl rfl rfl) (rfl : pm_ent 121 = some (3, 3, 11, 1, pmc_121)) rfl rfl (cm_121 (pw_dp hd (by decide)) I3 (x3) (by omega) (by omega) (32) (by omega) (by omega) (126) (by omega) (by omega)) ?_
          rintro u17 v16 ⟨rfl, x18, rfl, hx18a, hx18b, hx18r⟩
          refine ⟨_, rfl, ?_⟩
          show pw X d h3 97 33 [some (.ref 40), some (.long e8), none, some (pw_i k3_3), some (pw_i x3), k3_5] [pw_i x18] _
          change (x18 = 1 ∧ 32 ≤ x3 ∧ x3 ≤ 126) ∨ (x18 = 0 ∧ ¬ (32 ≤ x3 ∧ x3 ≤ 126)) at hx18r
          rcases (by omega : x18 = 1 ∨ x18 = 0) with hb19 | hb19
          · skip
            refine pw_if E (pc' := 40) rfl (by decide) (by omega) (by omega) ?_ ?_
            · intro hc20
              change x18 = (0 : Int) at hc20
              exfalso; omega
            · intro hc21
              change ¬ (x18 = (0 : Int)) at hc21
              refine pw_ld E (pc' := 37) (st' := [pw_i 1]) rfl (fun _ => rfl) ?_
              refine pw_goto E (pc' := 41) rfl (by decide) ?_
              refine pw_ist E (pc' := 43) (ls' := [some (.ref 40), some (.long e8), none, some (pw_i k3_3), some (pw_i x3), some (pw_i 1)]) rfl rfl rfl rfl ?_
              refine pw_ld E (pc' := 45) (st' := [pw_i 1]) rfl (fun _ => rfl) ?_
              refine pw_if E (pc' := 80) rfl (by decide) (by decide) (by decide) ?_ ?_
              · intro hc22
                change (1 : Int) = (0 : Int) at hc22
                exfalso; omega
              · intro hc23
                change ¬ ((1 : Int) = (0 : Int)) at hc23
                refine pw_ld E (pc' := 49) (st' := [.ref 40]) rfl (fun _ => rfl) ?_
                refine pw_getI2 I3 E (c := 24) (k := 1) (pc' := 52) rfl rfl rfl rfl rfl rfl (fun hf24a hf24b => ?_)
                refine pw_sip E (pc' := 55) rfl rfl (by decide) ?_
                refine pw_if2 E (pc' := 80) rfl (by decide) (by omega) (by omega) (by decide) (by decide) ?_ ?_
                · intro hc25
                  change (1000 : Int) ≤ pw_g h3 24 1 at hc25
                  refine pw_inc E (pc' := 83) (ls' := [some (.ref 40), some (.long e8), none, some (pw_i (k3_3 + (-8))), some (pw_i x3), some (pw_i 1)]) rfl rfl rfl rfl ?_
                  refine pw_goto E (pc' := 3) rfl (by decide) ?_
                  exact ih3 _ (by omega) (k3_3 + (-8)) (some (pw_i x3)) (some (pw_i 1)) h3 I3 E3 (by omega) (by omega)  rfl
                · intro hc26
                  change ¬ ((1000 : Int) ≤ pw_g h3 24 1) at hc26
                  refine pw_ld E (pc' := 59) (st' := [.ref 40]) rfl (fun _ => rfl) ?_
                  refine pw_getR (b := 41) I3 E (c := 24) (k := 0) (pc' := 62) rfl rfl rfl rfl rfl rfl rfl ?_
                  refine pw_ld E (pc' := 63) (st' := [.ref 40, .ref 41]) rfl (fun _ => rfl) ?_
                  refine pw_getI2 I3 E (c := 24) (k := 1) (pc' := 66) rfl rfl rfl rfl rfl rfl (fun hf27a hf27b => ?_)
                  refine pw_ld E (pc' := 68) (st' := [pw_i x3, pw_i (pw_g h3 24 1), .ref 41]) rfl (fun _ => rfl) ?_
                  refine pw_i2c E (pc' := 69) rfl rfl (by omega) (by omega) ?_
                  refine pw_ast0 I3 E (c := 25) (pc' := 70) rfl rfl rfl (by decide) rfl (by decide) (by omega) (by omega) (pw_c16 (by omega) (by omega)) (by omega) (by omega) (by omega) (by omega) rfl ?_
                  intro h28I h28E
                  generalize h28w : pw_w h3 25 ((pw_g h3 24 1).toNat) (pw_i x3) = h28 at h28I h28E ⊢
                  have h28F := E3.tr (h28E.wk (W' := [24, 25]) (by first | rfl | simp))
                  refine pw_ld E (pc' := 71) (st' := [.ref 40]) rfl (fun _ => rfl) ?_
                  refine pw_ld E (pc' := 72) (st' := [.ref 40, .ref 40]) rfl (fun _ => rfl) ?_
                  have he30 : pw_g h28 24 1 = pw_g h3 24 1 := by rw [← h28w]; exact pw_g_ne (by omega)
                  refine pw_getI2 h28I E (c := 24) (k := 1) (pc' := 75) rfl rfl rfl rfl rfl rfl (fun hf29a hf29b => ?_)
                  refine pw_ld E (pc' := 76) (st' := [pw_i 1, pw_i (pw_g h28 24 1), .ref 40]) rfl (fun _ => rfl) ?_
                  refine pw_add E (pc' := 77) rfl rfl ?_
                  refine pw_putI h28I E (c := 24) (k := 1) (pc' := 80) rfl rfl rfl rfl (by omega) (by omega) (by omega) (by omega) rfl rfl ?_
                  intro h31I h31E
                  generalize h31w : pw_w h28 24 1 (pw_i ((pw_g h28 24 1) + 1)) = h31 at h31I h31E ⊢
                  have h31F := h28F.tr (h31E.wk (W' := [24, 25]) (by first | rfl | simp))
                  refine pw_inc E (pc' := 83) (ls' := [some (.ref 40), some (.long e8), none, some (pw_i (k3_3 + (-8))), some (pw_i x3), some (pw_i 1)]) rfl rfl rfl rfl ?_
                  refine pw_goto E (pc' := 3) rfl (by decide) ?_
                  exact ih3 _ (by omega) (k3_3 + (-8)) (some (pw_i x3)) (some (pw_i 1)) h31 h31I h31F (by omega) (by omega)  rfl
          · skip
            refine pw_if E (pc' := 40) rfl (by decide) (by omega) (by omega) ?_ ?_
            · intro hc33
              change x18 = (0 : Int) at hc33
              refine pw_ld E (pc' := 41) (st' := [pw_i 0]) rfl (fun _ => rfl) ?_
              refine pw_ist E (pc' := 43) (ls' := [some (.ref 40), some (.long e8), none, some (pw_i k3_3), some (pw_i x3), some (pw_i 0)]) rfl rfl rfl rfl ?_
              refine pw_ld E (pc' := 45) (st' := [pw_i 0]) rfl (fun _ => rfl) ?_
              refine pw_if E (pc' := 80) rfl (by decide) (by decide) (by decide) ?_ ?_
              · intro hc34
                change (0 : Int) = (0 : Int) at hc34
                refine pw_inc E (pc' := 83) (ls' := [some (.ref 40), some (.long e8), none, some (pw_i (k3_3 + (-8))), some (pw_i x3), some (pw_i 0)]) rfl rfl rfl rfl ?_
                refine pw_goto E (pc' := 3) rfl (by decide) ?_
                exact ih3 _ (by omega) (k3_3 + (-8)) (some (pw_i x3)) (some (pw_i 0)) h3 I3 E3 (by omega) (by omega)  rfl
              · intro hc35
                change ¬ ((0 : Int) = (0 : Int)) at hc35
                exfalso; omega
            · intro hc36
              change ¬ (x18 = (0 : Int)) at hc36
              exfalso; omega
  exact L3 _ (56) (none) (none) h I E0 (by omega) (by omega)  rfl
set_option maxHeartbeats 4000000 in
theorem cm_98 {X : List (Nat × List Value)} {d : Nat} {h : pm_H} (hd : 1 ≤ d) (I : pw_I h)  : pw X d h 98 0 [some (.ref 40)] [] (fun h' v => h = h' ∧ ∃ a : Int, v = .inl (some (pw_i a)) ∧ 0 ≤ a ∧ a ≤ 1000) := by
  have E : pm_ent 98 = some (1, 1, 9, 0, pmc_98) := rfl
  refine pw_ld E (pc' := 1) (st' := [.ref 40]) rfl (fun _ => rfl) ?_
  refine pw_getI2 I E (c := 24) (k := 1) (pc' := 4) rfl rfl rfl rfl rfl rfl (fun hf1a hf1b => ?_)
  refine pw_iret E rfl ?_
  exact ⟨rfl, ⟨_, rfl, by omega, by omega⟩⟩
set_option maxHeartbeats 4000000 in
theorem cm_99 {X : List (Nat × List Value)} {d : Nat} {h : pm_H} (hd : 1 ≤ d) (I : pw_I h)  : pw X d h 99 0 [some (.ref 40)] [] (fun h' v => pw_I h' ∧ pw_E [24] h h' ∧ v = .inl none) := by
  have E : pm_ent 99 = some (1, 1, 9, 4, pmc_99) := rfl
  have E0 : pw_E [24] h h := pw_E.rf _ _
  refine pw_ld E (pc' := 1) (st' := [.ref 40]) rfl (fun _ => rfl) ?_
  refine pw_ld E (pc' := 2) (st' := [pw_i 0, .ref 40]) rfl (fun _ => rfl) ?_
  refine pw_putI I E (c := 24) (k := 1) (pc' := 5) rfl rfl rfl rfl (by omega) (by omega) (by omega) (by omega) rfl rfl ?_
  intro h1I h1E
  generalize h1w : pw_w h 24 1 (pw_i 0) = h1 at h1I h1E ⊢
  have h1F := E0.tr (h1E.wk (W' := [24]) (by first | rfl | simp))
  refine pw_vret E rfl ?_
  exact ⟨h1I, h1F, rfl⟩
set_option maxHeartbeats 4000000 in
theorem cm_100 {X : List (Nat × List Value)} {d : Nat} {h : pm_H} (hd : 1 ≤ d) (I : pw_I h)  : pw X d h 100 0 [some (.ref 40)] [] (fun h' v => pw_I h' ∧ pw_E [24] h h' ∧ v = .inl none) := by
  have E : pm_ent 100 = some (1, 1, 9, 4, pmc_100) := rfl
  have E0 : pw_E [24] h h := pw_E.rf _ _
  refine pw_ld E (pc' := 1) (st' := [.ref 40]) rfl (fun _ => rfl) ?_
  refine pw_ld E (pc' := 2) (st' := [pw_i 0, .ref 40]) rfl (fun _ => rfl) ?_
  refine pw_putI I E (c := 24) (k := 3) (pc' := 5) rfl rfl rfl rfl (by omega) (by omega) (by omega) (by omega) rfl rfl ?_
  intro h1I h1E
  generalize h1w : pw_w h 24 3 (pw_i 0) = h1 at h1I h1E ⊢
  have h1F := E0.tr (h1E.wk (W' := [24]) (by first | rfl | simp))
  refine pw_vret E rfl ?_
  exact ⟨h1I, h1F, rfl⟩
set_option maxHeartbeats 4000000 in
theorem cm_110 {X : List (Nat × List Value)} {d : Nat} {h : pm_H} (hd : 1 ≤ d) (I : pw_I h)  : pw X d h 110 0 [some (.ref 40)] [] (fun h' v => h = h' ∧ ∃ a : Int, v = .inl (some (pw_i a)) ∧ (-2147483648) ≤ a ∧ a ≤ 2147483647) := by
  have E : pm_ent 110 = some (1, 1, 9, 0, pmc_110) := rfl
  refine pw_ld E (pc' := 1) (st' := [.ref 40]) rfl (fun _ => rfl) ?_
  refine pw_getI2 I E (c := 24) (k := 5) (pc' := 4) rfl rfl rfl rfl rfl rfl (fun hf1a hf1b => ?_)
  refine pw_iret E rfl ?_
  exact ⟨rfl, ⟨_, rfl, by omega, by omega⟩⟩
set_option maxHeartbeats 4000000 in
theorem cm_111 {X : List (Nat × List Value)} {d : Nat} {h : pm_H} (hd : 1 ≤ d) (I : pw_I h)  : pw X d h 111 0 [some (.ref 40)] [] (fun h' v => h = h' ∧ ∃ a : Int, v = .inl (some (pw_i a)) ∧ 0 ≤ a ∧ a ≤ 1000) := by
  have E : pm_ent 111 = some (1, 1, 9, 0, pmc_111) := rfl
  refine pw_ld E (pc' := 1) (st' := [.ref 40]) rfl (fun _ => rfl) ?_
  refine pw_getI2 I E (c := 24) (k := 2) (pc' := 4) rfl rfl rfl rfl rfl rfl (fun hf1a hf1b => ?_)
  refine pw_iret E rfl ?_
  exact ⟨rfl, ⟨_, rfl, by omega, by omega⟩⟩
set_option maxHeartbeats 4000000 in
theorem cm_102 {X : List (Nat × List Value)} {d : Nat} {h : pm_H} (hd : 1 ≤ d) (I : pw_I h) (ch : Int) (hch1 : 0 ≤ ch) (hch2 : ch ≤ 65535) : pw X d h 102 0 [some (pw_i ch)] [] (fun h' v => h = h' ∧ ∃ a : Int, v = .inl (some (pw_i a)) ∧ 0 ≤ a ∧ a ≤ 1) := by
  have E : pm_ent 102 = some (1, 1, 9, 1, pmc_102) := rfl
  refine pw_ld E (pc' := 1) (st' := [pw_i ch]) rfl (fun _ => rfl) ?_
  refine pw_bip E (pc' := 3) rfl rfl (by decide) ?_
  refine pw_if2 E (pc' := 12) rfl (by decide) (by omega) (by omega) (by decide) (by decide) ?_ ?_
  · intro hc1
    change ch = (32 : Int) at hc1
    refine pw_ld E (pc' := 13) (st' := [pw_i 1]) rfl (fun _ => rfl) ?_
    refine pw_goto E (pc' := 17) rfl (by decide) ?_
    refine pw_zret E rfl (by omega) ?_
    exact ⟨rfl, ⟨_, rfl, by omega, by omega⟩⟩
  · intro hc2
    change ¬ (ch = (32 : Int)) at hc2
    refine pw_ld E (pc' := 7) (st' := [pw_i ch]) rfl (fun _ => rfl) ?_
    refine pw_bip E (pc' := 9) rfl rfl (by decide) ?_
    refine pw_if2 E (pc' := 16) rfl (by decide) (by omega) (by omega) (by decide) (by decide) ?_ ?_
    · intro hc3
      change ch ≠ (10 : Int) at hc3
      refine pw_ld E (pc' := 17) (st' := [pw_i 0]) rfl (fun _ => rfl) ?_
      refine pw_zret E rfl (by omega) ?_
      exact ⟨rfl, ⟨_, rfl, by omega, by omega⟩⟩
    · intro hc4
      change ¬ (ch ≠ (10 : Int)) at hc4
      refine pw_ld E (pc' := 13) (st' := [pw_i 1]) rfl (fun _ => rfl) ?_
      refine pw_goto E (pc' := 17) rfl (by decide) ?_
      refine pw_zret E rfl (by omega) ?_
      exact ⟨rfl, ⟨_, rfl, by omega, by omega⟩⟩
end
