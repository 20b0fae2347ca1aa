/-! the model (printed by wip/tool/mall.py) -/
set_option maxHeartbeats 4000000 in
theorem cm_267 {X : List (Nat × List Value)} {d : Nat} {h : pm_H} (hd : 2 ≤ d) (I : pw_I h) (k : Int) (hk1 : 0 ≤ k) (hk2 : k ≤ 23) (mo : Int) (hmo1 : 0 ≤ mo) (hmo2 : mo ≤ 11) : pw X d h 267 0 [some (.ref 141), some (pw_i k), some (pw_i mo)] [] (fun h' v => h = h' ∧ ∃ a : Int, v = .inl (some (pw_i a)) ∧ (-2147483648) ≤ a ∧ a ≤ 2147483647) := by
  have E : pm_ent 267 = some (3, 3, 12, 0, pmc_267) := rfl
  refine pw_ld E (pc' := 1) (st' := [.ref 141]) rfl (fun _ => rfl) ?_
  refine pw_ld E (pc' := 2) (st' := [.ref 141, .ref 141]) rfl (fun _ => rfl) ?_
  refine pw_getR (b := 167) I E (c := 125) (k := 38) (pc' := 5) rfl rfl rfl rfl rfl rfl rfl ?_
  refine pw_bip E (pc' := 7) rfl rfl (by decide) ?_
  refine pw_ld E (pc' := 8) (st' := [pw_i k, pw_i 12, .ref 167, .ref 141]) rfl (fun _ => rfl) ?_
  refine pw_mul E (pc' := 9) rfl rfl ?_
  refine pw_ld E (pc' := 10) (st' := [pw_i mo, pw_i (12 * k), .ref 167, .ref 141]) rfl (fun _ => rfl) ?_
  refine pw_add E (pc' := 11) rfl rfl ?_
  refine pw_ald2 I E (c := 151) (pc' := 12) rfl rfl rfl (by decide) rfl (by decide) (by omega) (by omega) rfl (fun hf1a hf1b => ?_)
  refine pw_ld E (pc' := 13) (st' := [.ref 141, pw_i (pw_g h 151 (((12 * k) + mo).toNat)), .ref 141]) rfl (fun _ => rfl) ?_
  refine pw_getR (b := 168) I E (c := 125) (k := 39) (pc' := 16) rfl rfl rfl rfl rfl rfl rfl ?_
  refine pw_bip E (pc' := 18) rfl rfl (by decide) ?_
  refine pw_ld E (pc' := 19) (st' := [pw_i k, pw_i 12, .ref 168, pw_i (pw_g h 151 (((12 * k) + mo).toNat)), .ref 141]) rfl (fun _ => rfl) ?_
  refine pw_mul E (pc' := 20) rfl rfl ?_
  refine pw_ld E (pc' := 21) (st' := [pw_i mo, pw_i (12 * k), .ref 168, pw_i (pw_g h 151 (((12 * k) + mo).toNat)), .ref 141]) rfl (fun _ => rfl) ?_
  refine pw_add E (pc' := 22) rfl rfl ?_
  refine pw_ald2 I E (c := 152) (pc' := 23) rfl rfl rfl (by decide) rfl (by decide) (by omega) (by omega) rfl (fun hf2a hf2b => ?_)
  obtain ⟨f3l, f3h, -⟩ := pw_obj (c := 125) I rfl
  refine pw_call (m' := 211) (As := [.ref 141, pw_i (pw_g h 151 (((12 * k) + mo).toNat)), pw_i (pw_g h 152 (((12 * k) + mo).toNat))]) (rest := []) (ls'' := [some (.ref 141), some (pw_i (pw_g h 151 (((12 * k) + mo).toNat))), some (pw_i (pw_g h 152 (((12 * k) + mo).toNat)))]) (Nat.le_trans (by decide) hd) E rfl (fun _ => pw_iV rfl rfl rfl rfl (pw_cellI f3h rfl)) (rfl : pm_ent 211 = some (3, 3, 12, 0, pmc_211)) rfl rfl (cm_211 (pw_dp hd (by decide)) I (pw_g h 151 (((12 * k) + mo).toNat)) (by omega) (by omega) (pw_g h 152 (((12 * k) + mo).toNat)) (by omega) (by omega)) ?_
  rintro u5 v4 ⟨rfl, x6, rfl, hx6a, hx6b⟩
  refine ⟨_, rfl, ?_⟩
  show pw X d h 267 26 [some (.ref 141), some (pw_i k), some (pw_i mo)] [pw_i x6] _
  refine pw_iret E rfl ?_
  exact ⟨rfl, ⟨_, rfl, by omega, by omega⟩⟩
set_option maxHeartbeats 4000000 in
theorem cm_259 {X : List (Nat × List Value)} {d : Nat} {h : pm_H} (hd : 7 ≤ d) (I : pw_I h) (l : Int) (hl1 : (-2147483648) ≤ l) (hl2 : l ≤ 2147483647) (sd : Int) (hsd1 : (-2147483648) ≤ sd) (hsd2 : sd ≤ 2147483647) (k : Int) (hk1 : (-2147483648) ≤ k) (hk2 : k ≤ 2147483647) (mo : Int) (hmo1 : (-2147483648) ≤ mo) (hmo2 : mo ≤ 2147483647) (hp0 : pw_K h) : pw X d h 259 0 [some (.ref 141), some (pw_i l), some (pw_i sd), some (pw_i k), some (pw_i mo)] [] (fun h' v => pw_I h' ∧ pw_E [125, 149, 150, 151, 152, 153] h h' ∧ ∃ a : Int, v = .inl (some (pw_i a)) ∧ (-2147483648) ≤ a ∧ a ≤ 2147483647) := by
  have E : pm_ent 259 = some (5, 5, 12, 0, pmc_259) := rfl
  have E0 : pw_E [125, 149, 150, 151, 152, 153] h h := pw_E.rf _ _
  refine pw_ld E (pc' := 1) (st' := [.ref 141]) rfl (fun _ => rfl) ?_
  refine pw_ld E (pc' := 2) (st' := [pw_i 0, .ref 141]) rfl (fun _ => rfl) ?_
  refine pw_putI I E (c := 125) (k := 0) (pc' := 5) rfl rfl rfl rfl (by omega) (by omega) (by omega) (by omega) rfl rfl ?_
  intro h1I h1E
  generalize h1w : pw_w h 125 0 (pw_i 0) = h1 at h1I h1E ⊢
  have h1F := E0.tr (h1E.wk (W' := [125, 149, 150, 151, 152, 153]) (by first | rfl | simp))
  refine pw_ld E (pc' := 6) (st' := [pw_i l]) rfl (fun _ => rfl) ?_
  refine pw_ld E (pc' := 7) (st' := [pw_i 0, pw_i l]) rfl (fun _ => rfl) ?_
  refine pw_ld E (pc' := 8) (st' := [pw_i 3, pw_i 0, pw_i l]) rfl (fun _ => rfl) ?_
  refine pw_call (m' := 202) (As := [pw_i l, pw_i 0, pw_i 3]) (rest := []) (ls'' := [some (pw_i l), some (pw_i 0), some (pw_i 3)]) (Nat.le_trans (by decide) hd) E rfl (fun _ => pw_iS rfl rfl rfl) (rfl : pm_ent 202 = some (3, 3, 12, 1, pmc_202)) rfl rfl (cm_202 (pw_dp hd (by decide)) h1I (l) (by omega) (by omega) (0) (by omega) (by omega) (3) (by omega) (by omega)) ?_
  rintro u3 v2 ⟨rfl, x4, rfl, hx4a, hx4b, hx4r⟩
  refine ⟨_, rfl, ?_⟩
  show pw X d h1 259 11 [some (.ref 141), some (pw_i l), some (pw_i sd), some (pw_i k), some (pw_i mo)] [pw_i x4] _
  change (x4 = 1 ∧ 0 ≤ l ∧ l ≤ 3) ∨ (x4 = 0 ∧ ¬ (0 ≤ l ∧ l ≤ 3)) at hx4r
  rcases (by omega : x4 = 1 ∨ x4 = 0) with hb5 | hb5
  · skip
    refine pw_if E (pc' := 41) rfl (by decide) (by omega) (by omega) ?_ ?_
    · intro hc6
      change x4 = (0 : Int) at hc6
      exfalso; omega
    · intro hc7
      change ¬ (x4 = (0 : Int)) at hc7
      refine pw_ld E (pc' := 15) (st' := [pw_i sd]) rfl (fun _ => rfl) ?_
      refine pw_ld E (pc' := 16) (st' := [pw_i 0, pw_i sd]) rfl (fun _ => rfl) ?_
      refine pw_sip E (pc' := 19) rfl rfl (by decide) ?_
      refine pw_call (m' := 202) (As := [pw_i sd, pw_i 0, pw_i 9999]) (rest := []) (ls'' := [some (pw_i sd), some (pw_i 0), some (pw_i 9999)]) (Nat.le_trans (by decide) hd) E rfl (fun _ => pw_iS rfl rfl rfl) (rfl : pm_ent 202 = some (3, 3, 12, 1, pmc_202)) rfl rfl (cm_202 (pw_dp hd (by decide)) h1I (sd) (by omega) (by omega) (0) (by omega) (by omega) (9999) (by omega) (by omega)) ?_
      rintro u9 v8 ⟨rfl, x10, rfl, hx10a, hx10b, hx10r⟩
      refine ⟨_, rfl, ?_⟩
      show pw X d h1 259 22 [some (.ref 141), some (pw_i l), some (pw_i sd), some (pw_i k), some (pw_i mo)] [pw_i x10] _
      change (x10 = 1 ∧ 0 ≤ sd ∧ sd ≤ 9999) ∨ (x10 = 0 ∧ ¬ (0 ≤ sd ∧ sd ≤ 9999)) at hx10r
      rcases (by omega : x10 = 1 ∨ x10 = 0) with hb11 | hb11
      · skip
        refine pw_if E (pc' := 41) rfl (by decide) (by omega) (by omega) ?_ ?_
        · intro hc12
          change x10 = (0 : Int) at hc12
          exfalso; omega
        · intro hc13
          change ¬ (x10 = (0 : Int)) at hc13
          refine pw_ld E (pc' := 26) (st' := [.ref 141]) rfl (fun _ => rfl) ?_
          refine pw_ld E (pc' := 27) (st' := [pw_i k, .ref 141]) rfl (fun _ => rfl) ?_
          obtain ⟨f14l, f14h, -⟩ := pw_obj (c := 125) h1I rfl
          refine pw_call (m' := 204) (As := [.ref 141, pw_i k]) (rest := []) (ls'' := [some (.ref 141), some (pw_i k)]) (Nat.le_trans (by decide) hd) E rfl (fun _ => pw_iV rfl rfl rfl rfl (pw_cellI f14h rfl)) (rfl : pm_ent 204 = some (2, 2, 12, 1, pmc_204)) rfl rfl (cm_204 (pw_dp hd (by decide)) h1I (k) (by omega) (by omega)) ?_
          rintro u16 v15 ⟨rfl, x17, rfl, hx17a, hx17b, hx17r⟩
          refine ⟨_, rfl, ?_⟩
          show pw X d h1 259 30 [some (.ref 141), some (pw_i l), some (pw_i sd), some (pw_i k), some (pw_i mo)] [pw_i x17] _
          change (x17 = 1 ∧ 0 ≤ k ∧ k ≤ 23) ∨ x17 = 0 at hx17r
          rcases (by omega : x17 = 1 ∨ x17 = 0) with hb18 | hb18
          · skip
            refine pw_if E (pc' := 41) rfl (by decide) (by omega) (by omega) ?_ ?_
            · intro hc19
              change x17 = (0 : Int) at hc19
              exfalso; omega
            · intro hc20
              change ¬ (x17 = (0 : Int)) at hc20
              refine pw_ld E (pc' := 35) (st' := [pw_i mo]) rfl (fun _ => rfl) ?_
              refine pw_call (m' := 205) (As := [pw_i mo]) (rest := []) (ls'' := [some (pw_i mo)]) (Nat.le_trans (by decide) hd) E rfl (fun _ => pw_iS rfl rfl rfl) (rfl : pm_ent 205 = some (1, 1, 12, 1, pmc_205)) rfl rfl (cm_205 (pw_dp hd (by decide)) h1I (mo) (by omega) (by omega)) ?_
              rintro u22 v21 ⟨rfl, x23, rfl, hx23a, hx23b, hx23r⟩
              refine ⟨_, rfl, ?_⟩
              show pw X d h1 259 38 [some (.ref 141), some (pw_i l), some (pw_i sd), some (pw_i k), some (pw_i mo)] [pw_i x23] _
              change (x23 = 1 ∧ 0 ≤ mo ∧ mo ≤ 11) ∨ (x23 = 0 ∧ ¬ (0 ≤ mo ∧ mo ≤ 11)) at hx23r
              rcases (by omega : x23 = 1 ∨ x23 = 0) with hb24 | hb24
              · skip
                refine pw_if E (pc' := 43) rfl (by decide) (by omega) (by omega) ?_ ?_
                · intro hc25
                  change x23 ≠ (0 : Int) at hc25
                  refine pw_ld E (pc' := 44) (st' := [.ref 141]) rfl (fun _ => rfl) ?_
                  refine pw_ld E (pc' := 45) (st' := [pw_i l, .ref 141]) rfl (fun _ => rfl) ?_
                  refine pw_ld E (pc' := 46) (st' := [pw_i sd, pw_i l, .ref 141]) rfl (fun _ => rfl) ?_
                  obtain ⟨f26l, f26h, -⟩ := pw_obj (c := 125) h1I rfl
                  refine pw_call (m' := 260) (As := [.ref 141, pw_i l, pw_i sd]) (rest := []) (ls'' := [some (.ref 141), some (pw_i l), some (pw_i sd), none, none, none, none]) (Nat.le_trans (by decide) hd) E rfl (fun _ => pw_iV rfl rfl rfl rfl (pw_cellI f26h rfl)) (rfl : pm_ent 260 = some (3, 7, 12, 4, pmc_260)) rfl rfl (cm_260 (pw_dp hd (by decide)) h1I (l) (by omega) (by omega) (sd) (by omega) (by omega) (pw_KE I h1F hp0 rfl)) ?_
                  rintro h27 v28 ⟨h27I, h27E, rfl⟩
                  refine ⟨_, rfl, ?_⟩
                  have h27F := h1F.tr (h27E.wk (W' := [125, 149, 150, 151, 152, 153]) (by first | rfl | simp))
                  show pw X d h27 259 49 [some (.ref 141), some (pw_i l), some (pw_i sd), some (pw_i k), some (pw_i mo)] [] _
                  refine pw_ld E (pc' := 50) (st' := [.ref 141]) rfl (fun _ => rfl) ?_
                  refine pw_ld E (pc' := 51) (st' := [pw_i k, .ref 141]) rfl (fun _ => rfl) ?_
                  refine pw_ld E (pc' := 53) (st' := [pw_i mo, pw_i k, .ref 141]) rfl (fun _ => rfl) ?_
                  obtain ⟨f29l, f29h, -⟩ := pw_obj (c := 125) h27I rfl
                  refine pw_call (m' := 267) (As := [.ref 141, pw_i k, pw_i mo]) (rest := []) (ls'' := [some (.ref 141), some (pw_i k), some (pw_i mo)]) (Nat.le_trans (by decide) hd) E rfl (fun _ => pw_iV rfl rfl rfl rfl (pw_cellI f29h rfl)) (rfl : pm_ent 267 = some (3, 3, 12, 0, pmc_267)) rfl rfl (cm_267 (pw_dp hd (by decide)) h27I (k) (by omega) (by omega) (mo) (by omega) (by omega)) ?_
                  rintro u31 v30 ⟨rfl, x32, rfl, hx32a, hx32b⟩
                  refine ⟨_, rfl, ?_⟩
                  show pw X d h27 259 56 [some (.ref 141), some (pw_i l), some (pw_i sd), some (pw_i k), some (pw_i mo)] [pw_i x32] _
                  refine pw_iret E rfl ?_
                  exact ⟨h27I, h27F, ⟨_, rfl, by omega, by omega⟩⟩
                · intro hc33
                  change ¬ (x23 ≠ (0 : Int)) at hc33
                  exfalso; omega
              · skip
                refine pw_if E (pc' := 43) rfl (by decide) (by omega) (by omega) ?_ ?_
                · intro hc35
                  change x23 ≠ (0 : Int) at hc35
                  exfalso; omega
                · intro hc36
                  change ¬ (x23 ≠ (0 : Int)) at hc36
                  refine pw_ld E (pc' := 42) (st' := [pw_i ((-1))]) rfl (fun _ => rfl) ?_
                  refine pw_iret E rfl ?_
                  exact ⟨h1I, h1F, ⟨_, rfl, by omega, by omega⟩⟩
          · skip
            refine pw_if E (pc' := 41) rfl (by decide) (by omega) (by omega) ?_ ?_
            · intro hc38
              change x17 = (0 : Int) at hc38
              refine pw_ld E (pc' := 42) (st' := [pw_i ((-1))]) rfl (fun _ => rfl) ?_
              refine pw_iret E rfl ?_
              exact ⟨h1I, h1F, ⟨_, rfl, by omega, by omega⟩⟩
            · intro hc39
              change ¬ (x17 = (0 : Int)) at hc39
              exfalso; omega
      · skip
        refine pw_if E (pc' := 41) rfl (by decide) (by omega) (by omega) ?_ ?_
        · intro hc41
          change x10 = (0 : Int) at hc41
          refine pw_ld E (pc' := 42) (st' := [pw_i ((-1))]) rfl (fun _ => rfl) ?_
          refine pw_iret E rfl ?_
          exact ⟨h1I, h1F, ⟨_, rfl, by omega, by omega⟩⟩
        · intro hc42
          change ¬ (x10 = (0 : Int)) at hc42
          exfalso; omega
  · skip
    refine pw_if E (pc' := 41) rfl (by decide) (by omega) (by omega) ?_ ?_
    · intro hc44
      change x4 = (0 : Int) at hc44
      refine pw_ld E (pc' := 42) (st' := [pw_i ((-1))]) rfl (fun _ => rfl) ?_
      refine pw_iret E rfl ?_
      exact ⟨h1I, h1F, ⟨_, rfl, by omega, by omega⟩⟩
    · intro hc45
      change ¬ (x4 = (0 : Int)) at hc45
      exfalso; omega
set_option maxHeartbeats 4000000 in
theorem cm_270 {X : List (Nat × List Value)} {d : Nat} {h : pm_H} (hd : 7 ≤ d) (I : pw_I h) (l : Int) (hl1 : 0 ≤ l) (hl2 : l ≤ 3) (sd : Int) (hsd1 : 0 ≤ sd) (hsd2 : sd ≤ 20) (hp0 : pw_K h) : pw X d h 270 0 [some (.ref 141), some (pw_i l), some (pw_i sd), none, none, none, none, none] [] (fun h' v => pw_I h' ∧ pw_E [149, 150, 151, 152, 153] h h' ∧ ∃ w : Int64, v = .inl (some (.long w))) := by
  have E : pm_ent 270 = some (3, 8, 12, 2, pmc_270) := rfl
  have E0 : pw_E [149, 150, 151, 152, 153] h h := pw_E.rf _ _
  refine pw_ld E (pc' := 1) (st' := [.long (Int64.ofInt 0)]) rfl (fun _ => rfl) ?_
  refine pw_lstn E (pc' := 2) (ls' := [some (.ref 141), some (pw_i l), some (pw_i sd), some (.long (Int64.ofInt 0)), none, none, none, none]) rfl rfl rfl rfl ?_
  refine pw_ld E (pc' := 3) (st' := [pw_i 0]) rfl (fun _ => rfl) ?_
  refine pw_ist E (pc' := 5) (ls' := [some (.ref 141), some (pw_i l), some (pw_i sd), some (.long (Int64.ofInt 0)), none, some (pw_i 0), none, none]) rfl rfl rfl rfl ?_
  have L5 : ∀ (n5 : Nat) (k5_3 : Int64) (k5_5 : Int) (k5_6 : Option Value) (k5_7 : Option Value) (gh5 : pm_H), pw_I gh5 → pw_E [149, 150, 151, 152, 153] h gh5 → 0 ≤ k5_5 → k5_5 ≤ 20 → (20 - k5_5).toNat = n5 → pw X d gh5 270 5 [some (.ref 141), some (pw_i l), some (pw_i sd), some (.long k5_3), none, some (pw_i k5_5), k5_6, k5_7] [] (fun h' v => pw_I h' ∧ pw_E [149, 150, 151, 152, 153] h h' ∧ ∃ w : Int64, v = .inl (some (.long w))) := by
    intro n5
    induction n5 using Nat.strongRecOn with
    | ind n5 ih5 =>
      intro k5_3 k5_5 k5_6 k5_7 gh5 I5 E5 k5_5a k5_5b hm5
      refine pw_ld E (pc' := 7) (st' := [pw_i k5_5]) rfl (fun _ => rfl) ?_
      refine pw_ld E (pc' := 8) (st' := [pw_i sd, pw_i k5_5]) rfl (fun _ => rfl) ?_
      refine pw_if2 E (pc' := 121) rfl (by decide) (by omega) (by omega) (by omega) (by omega) ?_ ?_
      · intro hc1
        change sd ≤ k5_5 at hc1
        refine pw_ld E (pc' := 122) (st' := [.long k5_3]) rfl (fun _ => rfl) ?_
        refine pw_lret E rfl ?_
        exact ⟨I5, E5, ⟨_, rfl⟩⟩
      · intro hc2
        change ¬ (sd ≤ k5_5) at hc2
        refine pw_ld E (pc' := 12) (st' := [.ref 141]) rfl (fun _ => rfl) ?_
        refine pw_ld E (pc' := 13) (st' := [pw_i l, .ref 141]) rfl (fun _ => rfl) ?_
        refine pw_ld E (pc' := 15) (st' := [pw_i k5_5, pw_i l, .ref 141]) rfl (fun _ => rfl) ?_
        obtain ⟨f3l, f3h, -⟩ := pw_obj (c := 125) I5 rfl
        refine pw_call (m' := 260) (As := [.ref 141, pw_i l, pw_i k5_5]) (rest := []) (ls'' := [some (.ref 141), some (pw_i l), some (pw_i k5_5), none, none, none, none]) (Nat.le_trans (by decide) hd) E rfl (fun _ => pw_iV rfl rfl rfl rfl (pw_cellI f3h rfl)) (rfl : pm_ent 260 = some (3, 7, 12, 4, pmc_260)) rfl rfl (cm_260 (pw_dp hd (by decide)) I5 (l) (by omega) (by omega) (k5_5) (by omega) (by omega) (pw_KE I E5 hp0 rfl)) ?_
        rintro h4 v5 ⟨h4I, h4E, rfl⟩
        refine ⟨_, rfl, ?_⟩
        have h4F := E5.tr (h4E.wk (W' := [149, 150, 151, 152, 153]) (by first | rfl | simp))
        show pw X d h4 270 18 [some (.ref 141), some (pw_i l), some (pw_i sd), some (.long k5_3), none, some (pw_i k5_5), k5_6, k5_7] [] _
        refine pw_ld E (pc' := 19) (st' := [pw_i 0]) rfl (fun _ => rfl) ?_
        refine pw_ist E (pc' := 21) (ls' := [some (.ref 141), some (pw_i l), some (pw_i sd), some (.long k5_3), none, some (pw_i k5_5), some (pw_i 0), k5_7]) rfl rfl rfl rfl ?_
        have L21 : ∀ (n21 : Nat) (k21_3 : Int64) (k21_6 : Int) (k21_7 : Option Value), 0 ≤ k21_6 → k21_6 ≤ 288 → (288 - k21_6).toNat = n21 → pw X d h4 270 21 [some (.ref 141), some (pw_i l), some (pw_i sd), some (.long k21_3), none, some (pw_i k5_5), some (pw_i k21_6), k21_7] [] (fun h' v => pw_I h' ∧ pw_E [149, 150, 151, 152, 153] h h' ∧ ∃ w : Int64, v = .inl (some (.long w))) := by
          intro n21
          induction n21 using Nat.strongRecOn with
          | ind n21 ih21 =>
            intro k21_3 k21_6 k21_7 k21_6a k21_6b hm21
            refine pw_ld E (pc' := 23) (st' := [pw_i k21_6]) rfl (fun _ => rfl) ?_
            refine pw_sip E (pc' := 26) rfl rfl (by decide) ?_
            refine pw_if2 E (pc' := 115) rfl (by decide) (by omega) (by omega) (by decide) (by decide) ?_ ?_
            · intro hc6
              change (288 : Int) ≤ k21_6 at hc6
              refine pw_inc E (pc' := 118) (ls' := [some (.ref 141), some (pw_i l), some (pw_i sd), some (.long k21_3), none, some (pw_i (k5_5 + 1)), some (pw_i k21_6), k21_7]) rfl rfl rfl rfl ?_
              refine pw_goto E (pc' := 5) rfl (by decide) ?_
              exact ih5 _ (by omega) (k21_3) (k5_5 + 1) (some (pw_i k21_6)) k21_7 h4 h4I h4F (by omega) (by omega)  rfl
            · intro hc7
              change ¬ ((288 : Int) ≤ k21_6) at hc7
              refine pw_ld E (pc' := 30) (st' := [.ref 141]) rfl (fun _ => rfl) ?_
              refine pw_getR (b := 147) h4I E (c := 125) (k := 10) (pc' := 33) rfl rfl rfl rfl rfl rfl rfl ?_
              refine pw_ld E (pc' := 35) (st' := [pw_i k21_6, .ref 147]) rfl (fun _ => rfl) ?_
              refine pw_bip E (pc' := 37) rfl rfl (by decide) ?_
              refine pw_div E (pc' := 38) rfl rfl (by omega) (by omega) (by decide) (by decide) ?_
              refine pw_ald2 h4I E (c := 131) (pc' := 39) rfl rfl rfl (by decide) rfl (by decide) (by omega) (by omega) rfl (fun hf8a hf8b => ?_)
              refine pw_if E (pc' := 109) rfl (by decide) (by omega) (by omega) ?_ ?_
              · intro hc9
                change pw_g h4 131 ((k21_6 / 12).toNat) = (0 : Int) at hc9
                refine pw_inc E (pc' := 112) (ls' := [some (.ref 141), some (pw_i l), some (pw_i sd), some (.long k21_3), none, some (pw_i k5_5), some (pw_i (k21_6 + 1)), k21_7]) rfl rfl rfl rfl ?_
                refine pw_goto E (pc' := 21) rfl (by decide) ?_
                exact ih21 _ (by omega) (k21_3) (k21_6 + 1) k21_7  (by omega) (by omega)  rfl
              · intro hc10
                change ¬ (pw_g h4 131 ((k21_6 / 12).toNat) = (0 : Int)) at hc10
                refine pw_ld E (pc' := 44) (st' := [pw_i k21_6]) rfl (fun _ => rfl) ?_
                refine pw_bip E (pc' := 46) rfl rfl (by decide) ?_
                refine pw_rem E (pc' := 47) rfl rfl (by omega) (by omega) (by decide) (by decide) ?_
                refine pw_if E (pc' := 109) rfl (by decide) (by omega) (by omega) ?_ ?_
                · intro hc11
                  change k21_6 % 12 ≤ (0 : Int) at hc11
                  refine pw_inc E (pc' := 112) (ls' := [some (.ref 141), some (pw_i l), some (pw_i sd), some (.long k21_3), none, some (pw_i k5_5), some (pw_i (k21_6 + 1)), k21_7]) rfl rfl rfl rfl ?_
                  refine pw_goto E (pc' := 21) rfl (by decide) ?_
                  exact ih21 _ (by omega) (k21_3) (k21_6 + 1) k21_7  (by omega) (by omega)  rfl
                · intro hc12
                  change ¬ (k21_6 % 12 ≤ (0 : Int)) at hc12
                  refine pw_ld E (pc' := 51) (st' := [.ref 141]) rfl (fun _ => rfl) ?_
                  refine pw_getR (b := 154) h4I E (c := 125) (k := 18) (pc' := 54) rfl rfl rfl rfl rfl rfl rfl ?_
                  refine pw_ld E (pc' := 56) (st' := [pw_i k21_6, .ref 154]) rfl (fun _ => rfl) ?_
                  refine pw_ald2 h4I E (c := 138) (pc' := 57) rfl rfl rfl (by decide) rfl (by decide) (by omega) (by omega) rfl (fun hf13a hf13b => ?_)
                  refine pw_if E (pc' := 109) rfl (by decide) (by omega) (by omega) ?_ ?_
                  · intro hc14
                    change pw_g h4 138 (k21_6.toNat) = (0 : Int) at hc14
                    refine pw_inc E (pc' := 112) (ls' := [some (.ref 141), some (pw_i l), some (pw_i sd), some (.long k21_3), none, some (pw_i k5_5), some (pw_i (k21_6 + 1)), k21_7]) rfl rfl rfl rfl ?_
                    refine pw_goto E (pc' := 21) rfl (by decide) ?_
                    exact ih21 _ (by omega) (k21_3) (k21_6 + 1) k21_7  (by omega) (by omega)  rfl
                  · intro hc15
                    change ¬ (pw_g h4 138 (k21_6.toNat) = (0 : Int)) at hc15
                    refine pw_ld E (pc' := 61) (st' := [.ref 141]) rfl (fun _ => rfl) ?_
                    refine pw_ld E (pc' := 63) (st' := [pw_i k21_6, .ref 141]) rfl (fun _ => rfl) ?_
                    refine pw_bip E (pc' := 65) rfl rfl (by decide) ?_
                    refine pw_div E (pc' := 66) rfl rfl (by omega) (by omega) (by decide) (by decide) ?_
                    refine pw_ld E (pc' := 68) (st' := [pw_i k21_6, pw_i (k21_6 / 12), .ref 141]) rfl (fun _ => rfl) ?_
                    refine pw_bip E (pc' := 70) rfl rfl (by decide) ?_
                    refine pw_rem E (pc' := 71) rfl rfl (by omega) (by omega) (by decide) (by decide) ?_
                    obtain ⟨f16l, f16h, -⟩ := pw_obj (c := 125) h4I rfl
                    refine pw_call (m' := 267) (As := [.ref 141, pw_i (k21_6 / 12), pw_i (k21_6 % 12)]) (rest := []) (ls'' := [some (.ref 141), some (pw_i (k21_6 / 12)), some (pw_i (k21_6 % 12))]) (Nat.le_trans (by decide) hd) E rfl (fun _ => pw_iV rfl rfl rfl rfl (pw_cellI f16h rfl)) (rfl : pm_ent 267 = some (3, 3, 12, 0, pmc_267)) rfl rfl (cm_267 (pw_dp hd (by decide)) h4I (k21_6 / 12) (by omega) (by omega) (k21_6 % 12) (by omega) (by omega)) ?_
                    rintro u18 v17 ⟨rfl, x19, rfl, hx19a, hx19b⟩
                    refine ⟨_, rfl, ?_⟩
                    show pw X d h4 270 74 [some (.ref 141), some (pw_i l), some (pw_i sd), some (.long k21_3), none, some (pw_i k5_5), some (pw_i k21_6), k21_7] [pw_i x19] _
                    refine pw_ld E (pc' := 75) (st' := [.ref 141, pw_i x19]) rfl (fun _ => rfl) ?_
                    refine pw_ld E (pc' := 77) (st' := [pw_i k21_6, .ref 141, pw_i x19]) rfl (fun _ => rfl) ?_
                    refine pw_bip E (pc' := 79) rfl rfl (by decide) ?_
                    refine pw_div E (pc' := 80) rfl rfl (by omega) (by omega) (by decide) (by decide) ?_
                    refine pw_ld E (pc' := 82) (st' := [pw_i k21_6, pw_i (k21_6 / 12), .ref 141, pw_i x19]) rfl (fun _ => rfl) ?_
                    refine pw_bip E (pc' := 84) rfl rfl (by decide) ?_
                    refine pw_rem E (pc' := 85) rfl rfl (by omega) (by omega) (by decide) (by decide) ?_
                    obtain ⟨f20l, f20h, -⟩ := pw_obj (c := 125) h4I rfl
                    refine pw_call (m' := 210) (As := [.ref 141, pw_i (k21_6 / 12), pw_i (k21_6 % 12)]) (rest := [pw_i x19]) (ls'' := [some (.ref 141), some (pw_i (k21_6 / 12)), some (pw_i (k21_6 % 12))]) (Nat.le_trans (by decide) hd) E rfl (fun _ => pw_iV rfl rfl rfl rfl (pw_cellI f20h rfl)) (rfl : pm_ent 210 = some (3, 3, 12, 0, pmc_210)) rfl rfl (cm_210 (pw_dp hd (by decide)) h4I (k21_6 / 12) (by omega) (by omega) (k21_6 % 12) (by omega) (by omega)) ?_
                    rintro u22 v21 ⟨rfl, x23, rfl, hx23a, hx23b⟩
                    refine ⟨_, rfl, ?_⟩
                    show pw X d h4 270 88 [some (.ref 141), some (pw_i l), some (pw_i sd), some (.long k21_3), none, some (pw_i k5_5), some (pw_i k21_6), k21_7] [pw_i x23, pw_i x19] _
                    refine pw_sub E (pc' := 89) rfl rfl ?_
                    refine pw_nm (fun x24 hx24a hx24b => ?_)
                    refine pw_ist E (pc' := 91) (ls' := [some (.ref 141), some (pw_i l), some (pw_i sd), some (.long k21_3), none, some (pw_i k5_5), some (pw_i k21_6), some (pw_i x24)]) rfl rfl rfl rfl ?_
                    refine pw_ld E (pc' := 92) (st' := [.long k21_3]) rfl (fun _ => rfl) ?_
                    refine pw_ld E (pc' := 94) (st' := [pw_i x24, .long k21_3]) rfl (fun _ => rfl) ?_
                    refine pw_if E (pc' := 104) rfl (by decide) (by omega) (by omega) ?_ ?_
                    · intro hc25
                      change (0 : Int) ≤ x24 at hc25
                      refine pw_ld E (pc' := 106) (st' := [pw_i x24, .long k21_3]) rfl (fun _ => rfl) ?_
                      refine pw_i2l E (pc' := 107) rfl rfl (by omega) (by omega) ?_
                      refine pw_ld E (pc' := 108) (st' := [.long (k21_3 + (Int64.ofInt x24))]) rfl (fun _ => rfl) ?_
                      refine pw_lstn E (pc' := 109) (ls' := [some (.ref 141), some (pw_i l), some (pw_i sd), some (.long (k21_3 + (Int64.ofInt x24))), none, some (pw_i k5_5), some (pw_i k21_6), some (pw_i x24)]) rfl rfl rfl rfl ?_
                      refine pw_inc E (pc' := 112) (ls' := [some (.ref 141), some (pw_i l), some (pw_i sd), some (.long (k21_3 + (Int64.ofInt x24))), none, some (pw_i k5_5), some (pw_i (k21_6 + 1)), some (pw_i x24)]) rfl rfl rfl rfl ?_
                      refine pw_goto E (pc' := 21) rfl (by decide) ?_
                      exact ih21 _ (by omega) (k21_3 + (Int64.ofInt x24)) (k21_6 + 1) (some (pw_i x24))  (by omega) (by omega)  rfl
                    · intro hc26
                      change ¬ ((0 : Int) ≤ x24) at hc26
                      refine pw_ld E (pc' := 99) (st' := [pw_i x24, .long k21_3]) rfl (fun _ => rfl) ?_
                      refine pw_ineg E (pc' := 100) rfl rfl ?_
                      refine pw_nm (fun x27 hx27a hx27b => ?_)
                      refine pw_i2l E (pc' := 101) rfl rfl (by omega) (by omega) ?_
                      refine pw_goto E (pc' := 107) rfl (by decide) ?_
                      refine pw_ld E (pc' := 108) (st' := [.long (k21_3 + (Int64.ofInt x27))]) rfl (fun _ => rfl) ?_
                      refine pw_lstn E (pc' := 109) (ls' := [some (.ref 141), some (pw_i l), some (pw_i sd), some (.long (k21_3 + (Int64.ofInt x27))), none, some (pw_i k5_5), some (pw_i k21_6), some (pw_i x24)]) rfl rfl rfl rfl ?_
                      refine pw_inc E (pc' := 112) (ls' := [some (.ref 141), some (pw_i l), some (pw_i sd), some (.long (k21_3 + (Int64.ofInt x27))), none, some (pw_i k5_5), some (pw_i (k21_6 + 1)), some (pw_i x24)]) rfl rfl rfl rfl ?_
                      refine pw_goto E (pc' := 21) rfl (by decide) ?_
                      exact ih21 _ (by omega) (k21_3 + (Int64.ofInt x27)) (k21_6 + 1) (some (pw_i x24))  (by omega) (by omega)  rfl
        exact L21 _ (k5_3) (0) (k5_7)  (by omega) (by omega)  rfl
  exact L5 _ (Int64.ofInt 0) (0) (none) (none) h I E0 (by omega) (by omega)  rfl
set_option maxHeartbeats 4000000 in
theorem cm_268 {X : List (Nat × List Value)} {d : Nat} {h : pm_H} (hd : 8 ≤ d) (I : pw_I h) (l : Int) (hl1 : (-2147483648) ≤ l) (hl2 : l ≤ 2147483647) (sd : Int) (hsd1 : (-2147483648) ≤ sd) (hsd2 : sd ≤ 2147483647) (hp0 : pw_K h) : pw X d h 268 0 [some (.ref 141), some (pw_i l), some (pw_i sd)] [] (fun h' v => pw_I h' ∧ pw_E [125, 149, 150, 151, 152, 153] h h' ∧ ∃ w : Int64, v = .inl (some (.long w))) := by
  have E : pm_ent 268 = some (3, 3, 12, 2, pmc_268) := rfl
  have E0 : pw_E [125, 149, 150, 151, 152, 153] h h := pw_E.rf _ _
  refine pw_ld E (pc' := 1) (st' := [.ref 141]) rfl (fun _ => rfl) ?_
  refine pw_ld E (pc' := 2) (st' := [pw_i 0, .ref 141]) rfl (fun _ => rfl) ?_
  refine pw_putI I E (c := 125) (k := 0) (pc' := 5) rfl rfl rfl rfl (by omega) (by omega) (by omega) (by omega) rfl rfl ?_
  intro h1I h1E
  generalize h1w : pw_w h 125 0 (pw_i 0) = h1 at h1I h1E ⊢
  have h1F := E0.tr (h1E.wk (W' := [125, 149, 150, 151, 152, 153]) (by first | rfl | simp))
  refine pw_ld E (pc' := 6) (st' := [pw_i l]) rfl (fun _ => rfl) ?_
  refine pw_ld E (pc' := 7) (st' := [pw_i 0, pw_i l]) rfl (fun _ => rfl) ?_
  refine pw_ld E (pc' := 8) (st' := [pw_i 3, pw_i 0, pw_i l]) rfl (fun _ => rfl) ?_
  refine pw_call (m' := 202) (As := [pw_i l, pw_i 0, pw_i 3]) (rest := []) (ls'' := [some (pw_i l), some (pw_i 0), some (pw_i 3)]) (Nat.le_trans (by decide) hd) E rfl (fun _ => pw_iS rfl rfl rfl) (rfl : pm_ent 202 = some (3, 3, 12, 1, pmc_202)) rfl rfl (cm_202 (pw_dp hd (by decide)) h1I (l) (by omega) (by omega) (0) (by omega) (by omega) (3) (by omega) (by omega)) ?_
  rintro u3 v2 ⟨rfl, x4, rfl, hx4a, hx4b, hx4r⟩
  refine ⟨_, rfl, ?_⟩
  show pw X d h1 268 11 [some (.ref 141), some (pw_i l), some (pw_i sd)] [pw_i x4] _
  change (x4 = 1 ∧ 0 ≤ l ∧ l ≤ 3) ∨ (x4 = 0 ∧ ¬ (0 ≤ l ∧ l ≤ 3)) at hx4r
  rcases (by omega : x4 = 1 ∨ x4 = 0) with hb5 | hb5
  · skip
    refine pw_if E (pc' := 30) rfl (by decide) (by omega) (by omega) ?_ ?_
    · intro hc6
      change x4 = (0 : Int) at hc6
      exfalso; omega
    · intro hc7
      change ¬ (x4 = (0 : Int)) at hc7
      refine pw_ld E (pc' := 15) (st' := [pw_i sd]) rfl (fun _ => rfl) ?_
      refine pw_call (m' := 269) (As := [pw_i sd]) (rest := []) (ls'' := [some (pw_i sd)]) (Nat.le_trans (by decide) hd) E rfl (fun _ => pw_iS rfl rfl rfl) (rfl : pm_ent 269 = some (1, 1, 12, 1, pmc_269)) rfl rfl (cm_269 (pw_dp hd (by decide)) h1I (sd) (by omega) (by omega)) ?_
      rintro u9 v8 ⟨rfl, x10, rfl, hx10a, hx10b, hx10r⟩
      refine ⟨_, rfl, ?_⟩
      show pw X d h1 268 18 [some (.ref 141), some (pw_i l), some (pw_i sd)] [pw_i x10] _
      change (x10 = 1 ∧ 1 ≤ sd ∧ sd ≤ 20) ∨ (x10 = 0 ∧ ¬ (1 ≤ sd ∧ sd ≤ 20)) at hx10r
      rcases (by omega : x10 = 1 ∨ x10 = 0) with hb11 | hb11
      · skip
        refine pw_if E (pc' := 30) rfl (by decide) (by omega) (by omega) ?_ ?_
        · intro hc12
          change x10 = (0 : Int) at hc12
          exfalso; omega
        · intro hc13
          change ¬ (x10 = (0 : Int)) at hc13
          refine pw_ld E (pc' := 22) (st' := [.ref 141]) rfl (fun _ => rfl) ?_
          refine pw_ld E (pc' := 23) (st' := [pw_i l, .ref 141]) rfl (fun _ => rfl) ?_
          refine pw_ld E (pc' := 24) (st' := [pw_i sd, pw_i l, .ref 141]) rfl (fun _ => rfl) ?_
          obtain ⟨f14l, f14h, -⟩ := pw_obj (c := 125) h1I rfl
          refine pw_call (m' := 270) (As := [.ref 141, pw_i l, pw_i sd]) (rest := []) (ls'' := [some (.ref 141), some (pw_i l), some (pw_i sd), none, none, none, none, none]) (Nat.le_trans (by decide) hd) E rfl (fun _ => pw_iV rfl rfl rfl rfl (pw_cellI f14h rfl)) (rfl : pm_ent 270 = some (3, 8, 12, 2, pmc_270)) rfl rfl (cm_270 (pw_dp hd (by decide)) h1I (l) (by omega) (by omega) (sd) (by omega) (by omega) (pw_KE I h1F hp0 rfl)) ?_
          rintro h15 v16 ⟨h15I, h15E, w17, rfl⟩
          refine ⟨_, rfl, ?_⟩
          have h15F := h1F.tr (h15E.wk (W' := [125, 149, 150, 151, 152, 153]) (by first | rfl | simp))
          show pw X d h15 268 27 [some (.ref 141), some (pw_i l), some (pw_i sd)] [.long w17] _
          refine pw_goto E (pc' := 33) rfl (by decide) ?_
          refine pw_lret E rfl ?_
          exact ⟨h15I, h15F, ⟨_, rfl⟩⟩
      · skip
        refine pw_if E (pc' := 30) rfl (by decide) (by omega) (by omega) ?_ ?_
        · intro hc19
          change x10 = (0 : Int) at hc19
          refine pw_ld E (pc' := 33) (st' := [.long (Int64.ofInt ((-1)))]) rfl (fun _ => rfl) ?_
          refine pw_lret E rfl ?_
          exact ⟨h1I, h1F, ⟨_, rfl⟩⟩
        · intro hc20
          change ¬ (x10 = (0 : Int)) at hc20
          exfalso; omega
  · skip
    refine pw_if E (pc' := 30) rfl (by decide) (by omega) (by omega) ?_ ?_
    · intro hc22
      change x4 = (0 : Int) at hc22
      refine pw_ld E (pc' := 33) (st' := [.long (Int64.ofInt ((-1)))]) rfl (fun _ => rfl) ?_
      refine pw_lret E rfl ?_
      exact ⟨h1I, h1F, ⟨_, rfl⟩⟩
    · intro hc23
      change ¬ (x4 = (0 : Int)) at hc23
      exfalso; omega
set_option maxHeartbeats 4000000 in
theorem cm_271 {X : List (Nat × List Value)} {d : Nat} {h : pm_H} (hd : 8 ≤ d) (I : pw_I h) (sd : Int) (hsd1 : (-2147483648) ≤ sd) (hsd2 : sd ≤ 2147483647) (hp0 : pw_K h) : pw X d h 271 0 [some (.ref 141), some (pw_i sd), none, none, none, none, none, none] [] (fun h' v => pw_I h' ∧ pw_E [125, 149, 150, 151, 152, 153] h h' ∧ ∃ a : Int, v = .inl (some (pw_i a)) ∧ (-2147483648) ≤ a ∧ a ≤ 2147483647) := by
  have E : pm_ent 271 = some (2, 8, 12, 0, pmc_271) := rfl
  have E0 : pw_E [125, 149, 150, 151, 152, 153] h h := pw_E.rf _ _
  refine pw_ld E (pc' := 1) (st' := [.ref 141]) rfl (fun _ => rfl) ?_
  refine pw_ld E (pc' := 2) (st' := [pw_i 0, .ref 141]) rfl (fun _ => rfl) ?_
  refine pw_putI I E (c := 125) (k := 0) (pc' := 5) rfl rfl rfl rfl (by omega) (by omega) (by omega) (by omega) rfl rfl ?_
  intro h1I h1E
  generalize h1w : pw_w h 125 0 (pw_i 0) = h1 at h1I h1E ⊢
  have h1F := E0.tr (h1E.wk (W' := [125, 149, 150, 151, 152, 153]) (by first | rfl | simp))
  refine pw_ld E (pc' := 6) (st' := [pw_i sd]) rfl (fun _ => rfl) ?_
  refine pw_call (m' := 269) (As := [pw_i sd]) (rest := []) (ls'' := [some (pw_i sd)]) (Nat.le_trans (by decide) hd) E rfl (fun _ => pw_iS rfl rfl rfl) (rfl : pm_ent 269 = some (1, 1, 12, 1, pmc_269)) rfl rfl (cm_269 (pw_dp hd (by decide)) h1I (sd) (by omega) (by omega)) ?_
  rintro u3 v2 ⟨rfl, x4, rfl, hx4a, hx4b, hx4r⟩
  refine ⟨_, rfl, ?_⟩
  show pw X d h1 271 9 [some (.ref 141), some (pw_i sd), none, none, none, none, none, none] [pw_i x4] _
  change (x4 = 1 ∧ 1 ≤ sd ∧ sd ≤ 20) ∨ (x4 = 0 ∧ ¬ (1 ≤ sd ∧ sd ≤ 20)) at hx4r
  rcases (by omega : x4 = 1 ∨ x4 = 0) with hb5 | hb5
  · skip
    refine pw_if E (pc' := 14) rfl (by decide) (by omega) (by omega) ?_ ?_
    · intro hc6
      change x4 ≠ (0 : Int) at hc6
      refine pw_ld E (pc' := 15) (st' := [pw_i 0]) rfl (fun _ => rfl) ?_
      refine pw_istn E (pc' := 16) (ls' := [some (.ref 141), some (pw_i sd), some (pw_i 0), none, none, none, none, none]) rfl rfl rfl rfl ?_
      refine pw_ld E (pc' := 17) (st' := [.ref 141]) rfl (fun _ => rfl) ?_
      refine pw_ld E (pc' := 18) (st' := [pw_i 0, .ref 141]) rfl (fun _ => rfl) ?_
      refine pw_ld E (pc' := 19) (st' := [pw_i sd, pw_i 0, .ref 141]) rfl (fun _ => rfl) ?_
      obtain ⟨f7l, f7h, -⟩ := pw_obj (c := 125) h1I rfl
      refine pw_call (m' := 270) (As := [.ref 141, pw_i 0, pw_i sd]) (rest := []) (ls'' := [some (.ref 141), some (pw_i 0), some (pw_i sd), none, none, none, none, none]) (Nat.le_trans (by decide) hd) E rfl (fun _ => pw_iV rfl rfl rfl rfl (pw_cellI f7h rfl)) (rfl : pm_ent 270 = some (3, 8, 12, 2, pmc_270)) rfl rfl (cm_270 (pw_dp hd (by decide)) h1I (0) (by omega) (by omega) (sd) (by omega) (by omega) (pw_KE I h1F hp0 rfl)) ?_
      rintro h8 v9 ⟨h8I, h8E, w10, rfl⟩
      refine ⟨_, rfl, ?_⟩
      have h8F := h1F.tr (h8E.wk (W' := [125, 149, 150, 151, 152, 153]) (by first | rfl | simp))
      show pw X d h8 271 22 [some (.ref 141), some (pw_i sd), some (pw_i 0), none, none, none, none, none] [.long w10] _
      refine pw_lstn E (pc' := 23) (ls' := [some (.ref 141), some (pw_i sd), some (pw_i 0), some (.long w10), none, none, none, none]) rfl rfl rfl rfl ?_
      refine pw_ld E (pc' := 24) (st' := [pw_i 1]) rfl (fun _ => rfl) ?_
      refine pw_ist E (pc' := 26) (ls' := [some (.ref 141), some (pw_i sd), some (pw_i 0), some (.long w10), none, some (pw_i 1), none, none]) rfl rfl rfl rfl ?_
      have L26 : ∀ (n26 : Nat) (k26_2 : Int) (k26_3 : Int64) (k26_5 : Int) (k26_6 : Option Value) (gh26 : pm_H), pw_I gh26 → pw_E [125, 149, 150, 151, 152, 153] h gh26 → (-2147483648) ≤ k26_2 → k26_2 ≤ 2147483647 → 1 ≤ k26_5 → k26_5 ≤ 4 → (4 - k26_5).toNat = n26 → pw X d gh26 271 26 [some (.ref 141), some (pw_i sd), some (pw_i k26_2), some (.long k26_3), none, some (pw_i k26_5), k26_6, none] [] (fun h' v => pw_I h' ∧ pw_E [125, 149, 150, 151, 152, 153] h h' ∧ ∃ a : Int, v = .inl (some (pw_i a)) ∧ (-2147483648) ≤ a ∧ a ≤ 2147483647) := by
        intro n26
        induction n26 using Nat.strongRecOn with
        | ind n26 ih26 =>
          intro k26_2 k26_3 k26_5 k26_6 gh26 I26 E26 k26_2a k26_2b k26_5a k26_5b hm26
          refine pw_ld E (pc' := 28) (st' := [pw_i k26_5]) rfl (fun _ => rfl) ?_
          refine pw_ld E (pc' := 29) (st' := [pw_i 4, pw_i k26_5]) rfl (fun _ => rfl) ?_
          refine pw_if2 E (pc' := 60) rfl (by decide) (by omega) (by omega) (by decide) (by decide) ?_ ?_
          · intro hc11
            change (4 : Int) ≤ k26_5 at hc11
            refine pw_ld E (pc' := 61) (st' := [pw_i k26_2]) rfl (fun _ => rfl) ?_
            refine pw_iret E rfl ?_
            exact ⟨I26, E26, ⟨_, rfl, by omega, by omega⟩⟩
          · intro hc12
            change ¬ ((4 : Int) ≤ k26_5) at hc12
            refine pw_ld E (pc' := 33) (st' := [.ref 141]) rfl (fun _ => rfl) ?_
            refine pw_ld E (pc' := 35) (st' := [pw_i k26_5, .ref 141]) rfl (fun _ => rfl) ?_
            refine pw_ld E (pc' := 36) (st' := [pw_i sd, pw_i k26_5, .ref 141]) rfl (fun _ => rfl) ?_
            obtain ⟨f13l, f13h, -⟩ := pw_obj (c := 125) I26 rfl
            refine pw_call (m' := 270) (As := [.ref 141, pw_i k26_5, pw_i sd]) (rest := []) (ls'' := [some (.ref 141), some (pw_i k26_5), some (pw_i sd), none, none, none, none, none]) (Nat.le_trans (by decide) hd) E rfl (fun _ => pw_iV rfl rfl rfl rfl (pw_cellI f13h rfl)) (rfl : pm_ent 270 = some (3, 8, 12, 2, pmc_270)) rfl rfl (cm_270 (pw_dp hd (by decide)) I26 (k26_5) (by omega) (by omega) (sd) (by omega) (by omega) (pw_KE I E26 hp0 rfl)) ?_
            rintro h14 v15 ⟨h14I, h14E, w16, rfl⟩
            refine ⟨_, rfl, ?_⟩
            have h14F := E26.tr (h14E.wk (W' := [125, 149, 150, 151, 152, 153]) (by first | rfl | simp))
            show pw X d h14 271 39 [some (.ref 141), some (pw_i sd), some (pw_i k26_2), some (.long k26_3), none, some (pw_i k26_5), k26_6, none] [.long w16] _
            refine pw_lst E (pc' := 41) (ls' := [some (.ref 141), some (pw_i sd), some (pw_i k26_2), some (.long k26_3), none, some (pw_i k26_5), some (.long w16), none]) rfl rfl rfl rfl ?_
            refine pw_ld E (pc' := 43) (st' := [.long w16]) rfl (fun _ => rfl) ?_
            refine pw_ld E (pc' := 44) (st' := [.long k26_3, .long w16]) rfl (fun _ => rfl) ?_
            refine pw_lcmp E (pc' := 45) rfl rfl (fun c17 hc17 => ?_)
            refine pw_if E (pc' := 54) rfl (by decide) (by omega) (by omega) ?_ ?_
            · intro hc18
              change (0 : Int) ≤ c17 at hc18
              refine pw_inc E (pc' := 57) (ls' := [some (.ref 141), some (pw_i sd), some (pw_i k26_2), some (.long k26_3), none, some (pw_i (k26_5 + 1)), some (.long w16), none]) rfl rfl rfl rfl ?_
              refine pw_goto E (pc' := 26) rfl (by decide) ?_
              exact ih26 _ (by omega) (k26_2) (k26_3) (k26_5 + 1) (some (.long w16)) h14 h14I h14F (by omega) (by omega) (by omega) (by omega)  rfl
            · intro hc19
              change ¬ ((0 : Int) ≤ c17) at hc19
              refine pw_ld E (pc' := 50) (st' := [.long w16]) rfl (fun _ => rfl) ?_
              refine pw_lstn E (pc' := 51) (ls' := [some (.ref 141), some (pw_i sd), some (pw_i k26_2), some (.long w16), none, some (pw_i k26_5), some (.long w16), none]) rfl rfl rfl rfl ?_
              refine pw_ld E (pc' := 53) (st' := [pw_i k26_5]) rfl (fun _ => rfl) ?_
              refine pw_istn E (pc' := 54) (ls' := [some (.ref 141), some (pw_i sd), some (pw_i k26_5), some (.long w16), none, some (pw_i k26_5), some (.long w16), none]) rfl rfl rfl rfl ?_
              refine pw_inc E (pc' := 57) (ls' := [some (.ref 141), some (pw_i sd), some (pw_i k26_5), some (.long w16), none, some (pw_i (k26_5 + 1)), some (.long w16), none]) rfl rfl rfl rfl ?_
              refine pw_goto E (pc' := 26) rfl (by decide) ?_
              exact ih26 _ (by omega) (k26_5) (w16) (k26_5 + 1) (some (.long w16)) h14 h14I h14F (by omega) (by omega) (by omega) (by omega)  rfl
      exact L26 _ (0) (w10) (1) (none) h8 h8I h8F (by omega) (by omega) (by omega) (by omega)  rfl
    · intro hc20
      change ¬ (x4 ≠ (0 : Int)) at hc20
      exfalso; omega
  · skip
    refine pw_if E (pc' := 14) rfl (by decide) (by omega) (by omega) ?_ ?_
    · intro hc22
      change x4 ≠ (0 : Int) at hc22
      exfalso; omega
    · intro hc23
      change ¬ (x4 ≠ (0 : Int)) at hc23
      refine pw_ld E (pc' := 13) (st' := [pw_i ((-1))]) rfl (fun _ => rfl) ?_
      refine pw_iret E rfl ?_
      exact ⟨h1I, h1F, ⟨_, rfl, by omega, by omega⟩⟩
set_option maxHeartbeats 4000000 in
theorem cm_272 {X : List (Nat × List Value)} {d : Nat} {h : pm_H} (hd : 7 ≤ d) (I : pw_I h) (l : Int) (hl1 : (-2147483648) ≤ l) (hl2 : l ≤ 2147483647) (sd : Int) (hsd1 : (-2147483648) ≤ sd) (hsd2 : sd ≤ 2147483647) (b : Int) (hb1 : (-2147483648) ≤ b) (hb2 : b ≤ 2147483647) (e : Int) (he1 : (-2147483648) ≤ e) (he2 : e ≤ 2147483647) (wt : Int) (hwt1 : (-2147483648) ≤ wt) (hwt2 : wt ≤ 2147483647) (hp0 : pw_K h) : pw X d h 272 0 [some (.ref 141), some (pw_i l), some (pw_i sd), some (pw_i b), some (pw_i e), some (pw_i wt), none, none, none] [] (fun h' v => pw_I h' ∧ pw_E [125, 149, 150, 151, 152, 153] h h' ∧ ∃ a : Int, v = .inl (some (pw_i a)) ∧ (-2147483648) ≤ a ∧ a ≤ 2147483647) := by
  have E : pm_ent 272 = some (6, 9, 12, 0, pmc_272) := rfl
  have E0 : pw_E [125, 149, 150, 151, 152, 153] h h := pw_E.rf _ _
  refine pw_ld E (pc' := 1) (st' := [.ref 141]) rfl (fun _ => rfl) ?_
  refine pw_ld E (pc' := 2) (st' := [pw_i 0, .ref 141]) rfl (fun _ => rfl) ?_
  refine pw_putI I E (c := 125) (k := 0) (pc' := 5) rfl rfl rfl rfl (by omega) (by omega) (by omega) (by omega) rfl rfl ?_
  intro h1I h1E
  generalize h1w : pw_w h 125 0 (pw_i 0) = h1 at h1I h1E ⊢
  have h1F := E0.tr (h1E.wk (W' := [125, 149, 150, 151, 152, 153]) (by first | rfl | simp))
  refine pw_ld E (pc' := 6) (st' := [pw_i l]) rfl (fun _ => rfl) ?_
  refine pw_ld E (pc' := 7) (st' := [pw_i 0, pw_i l]) rfl (fun _ => rfl) ?_
  refine pw_ld E (pc' := 8) (st' := [pw_i 3, pw_i 0, pw_i l]) rfl (fun _ => rfl) ?_
  refine pw_call (m' := 202) (As := [pw_i l, pw_i 0, pw_i 3]) (rest := []) (ls'' := [some (pw_i l), some (pw_i 0), some (pw_i 3)]) (Nat.le_trans (by decide) hd) E rfl (fun _ => pw_iS rfl rfl rfl) (rfl : pm_ent 202 = some (3, 3, 12, 1, pmc_202)) rfl rfl (cm_202 (pw_dp hd (by decide)) h1I (l) (by omega) (by omega) (0) (by omega) (by omega) (3) (by omega) (by omega)) ?_
  rintro u3 v2 ⟨rfl, x4, rfl, hx4a, hx4b, hx4r⟩
  refine ⟨_, rfl, ?_⟩
  show pw X d h1 272 11 [some (.ref 141), some (pw_i l), some (pw_i sd), some (pw_i b), some (pw_i e), some (pw_i wt), none, none, none] [pw_i x4] _
  change (x4 = 1 ∧ 0 ≤ l ∧ l ≤ 3) ∨ (x4 = 0 ∧ ¬ (0 ≤ l ∧ l ≤ 3)) at hx4r
  rcases (by omega : x4 = 1 ∨ x4 = 0) with hb5 | hb5
  · skip
    refine pw_if E (pc' := 51) rfl (by decide) (by omega) (by omega) ?_ ?_
    · intro hc6
      change x4 = (0 : Int) at hc6
      exfalso; omega
    · intro hc7
      change ¬ (x4 = (0 : Int)) at hc7
      refine pw_ld E (pc' := 15) (st' := [pw_i sd]) rfl (fun _ => rfl) ?_
      refine pw_call (m' := 269) (As := [pw_i sd]) (rest := []) (ls'' := [some (pw_i sd)]) (Nat.le_trans (by decide) hd) E rfl (fun _ => pw_iS rfl rfl rfl) (rfl : pm_ent 269 = some (1, 1, 12, 1, pmc_269)) rfl rfl (cm_269 (pw_dp hd (by decide)) h1I (sd) (by omega) (by omega)) ?_
      rintro u9 v8 ⟨rfl, x10, rfl, hx10a, hx10b, hx10r⟩
      refine ⟨_, rfl, ?_⟩
      show pw X d h1 272 18 [some (.ref 141), some (pw_i l), some (pw_i sd), some (pw_i b), some (pw_i e), some (pw_i wt), none, none, none] [pw_i x10] _
      change (x10 = 1 ∧ 1 ≤ sd ∧ sd ≤ 20) ∨ (x10 = 0 ∧ ¬ (1 ≤ sd ∧ sd ≤ 20)) at hx10r
      rcases (by omega : x10 = 1 ∨ x10 = 0) with hb11 | hb11
      · skip
        refine pw_if E (pc' := 51) rfl (by decide) (by omega) (by omega) ?_ ?_
        · intro hc12
          change x10 = (0 : Int) at hc12
          exfalso; omega
        · intro hc13
          change ¬ (x10 = (0 : Int)) at hc13
          refine pw_ld E (pc' := 22) (st' := [pw_i b]) rfl (fun _ => rfl) ?_
          refine pw_ld E (pc' := 24) (st' := [pw_i e, pw_i b]) rfl (fun _ => rfl) ?_
          refine pw_call (m' := 213) (As := [pw_i b, pw_i e]) (rest := []) (ls'' := [some (pw_i b), some (pw_i e)]) (Nat.le_trans (by decide) hd) E rfl (fun _ => pw_iS rfl rfl rfl) (rfl : pm_ent 213 = some (2, 2, 12, 1, pmc_213)) rfl rfl (cm_213 (pw_dp hd (by decide)) h1I (b) (by omega) (by omega) (e) (by omega) (by omega)) ?_
          rintro u15 v14 ⟨rfl, x16, rfl, hx16a, hx16b, hx16r⟩
          refine ⟨_, rfl, ?_⟩
          show pw X d h1 272 27 [some (.ref 141), some (pw_i l), some (pw_i sd), some (pw_i b), some (pw_i e), some (pw_i wt), none, none, none] [pw_i x16] _
          change (x16 = 1 ∧ 0 ≤ b ∧ b ≤ 11 ∧ 0 ≤ e ∧ e ≤ 11) ∨ x16 = 0 at hx16r
          rcases (by omega : x16 = 1 ∨ x16 = 0) with hb17 | hb17
          · skip
            refine pw_if E (pc' := 51) rfl (by decide) (by omega) (by omega) ?_ ?_
            · intro hc18
              change x16 = (0 : Int) at hc18
              exfalso; omega
            · intro hc19
              change ¬ (x16 = (0 : Int)) at hc19
              refine pw_ld E (pc' := 32) (st' := [pw_i wt]) rfl (fun _ => rfl) ?_
              refine pw_ld E (pc' := 33) (st' := [pw_i 0, pw_i wt]) rfl (fun _ => rfl) ?_
              refine pw_ld E (pc' := 34) (st' := [pw_i 2, pw_i 0, pw_i wt]) rfl (fun _ => rfl) ?_
              refine pw_call (m' := 202) (As := [pw_i wt, pw_i 0, pw_i 2]) (rest := []) (ls'' := [some (pw_i wt), some (pw_i 0), some (pw_i 2)]) (Nat.le_trans (by decide) hd) E rfl (fun _ => pw_iS rfl rfl rfl) (rfl : pm_ent 202 = some (3, 3, 12, 1, pmc_202)) rfl rfl (cm_202 (pw_dp hd (by decide)) h1I (wt) (by omega) (by omega) (0) (by omega) (by omega) (2) (by omega) (by omega)) ?_
              rintro u21 v20 ⟨rfl, x22, rfl, hx22a, hx22b, hx22r⟩
              refine ⟨_, rfl, ?_⟩
              show pw X d h1 272 37 [some (.ref 141), some (pw_i l), some (pw_i sd), some (pw_i b), some (pw_i e), some (pw_i wt), none, none, none] [pw_i x22] _
              change (x22 = 1 ∧ 0 ≤ wt ∧ wt ≤ 2) ∨ (x22 = 0 ∧ ¬ (0 ≤ wt ∧ wt ≤ 2)) at hx22r
              rcases (by omega : x22 = 1 ∨ x22 = 0) with hb23 | hb23
              · skip
                refine pw_if E (pc' := 51) rfl (by decide) (by omega) (by omega) ?_ ?_
                · intro hc24
                  change x22 = (0 : Int) at hc24
                  exfalso; omega
                · intro hc25
                  change ¬ (x22 = (0 : Int)) at hc25
                  refine pw_ld E (pc' := 41) (st' := [.ref 141]) rfl (fun _ => rfl) ?_
                  refine pw_ld E (pc' := 42) (st' := [pw_i b, .ref 141]) rfl (fun _ => rfl) ?_
                  refine pw_ld E (pc' := 44) (st' := [pw_i e, pw_i b, .ref 141]) rfl (fun _ => rfl) ?_
                  refine pw_ld E (pc' := 45) (st' := [pw_i ((-1)), pw_i e, pw_i b, .ref 141]) rfl (fun _ => rfl) ?_
                  obtain ⟨f26l, f26h, -⟩ := pw_obj (c := 125) h1I rfl
                  refine pw_call (m' := 218) (As := [.ref 141, pw_i b, pw_i e, pw_i ((-1))]) (rest := []) (ls'' := [some (.ref 141), some (pw_i b), some (pw_i e), some (pw_i ((-1))), none]) (Nat.le_trans (by decide) hd) E rfl (fun _ => pw_iV rfl rfl rfl rfl (pw_cellI f26h rfl)) (rfl : pm_ent 218 = some (4, 5, 12, 1, pmc_218)) rfl rfl (cm_218 (pw_dp hd (by decide)) h1I (b) (by omega) (by omega) (e) (by omega) (by omega) ((-1)) (by omega) (by omega)) ?_
                  rintro h27 v28 ⟨h27I, h27E, x29, rfl, hx29a, hx29b, hx29r⟩
                  refine ⟨_, rfl, ?_⟩
                  have h27F := h1F.tr (h27E.wk (W' := [125, 149, 150, 151, 152, 153]) (by first | rfl | simp))
                  show pw X d h27 272 48 [some (.ref 141), some (pw_i l), some (pw_i sd), some (pw_i b), some (pw_i e), some (pw_i wt), none, none, none] [pw_i x29] _
                  change (x29 = 1 ∧ 1 ≤ pw_gm h27 125 25 ∧ pw_gm h27 125 25 ≤ 576) ∨ x29 = 0 at hx29r
                  rcases (by omega : x29 = 1 ∨ x29 = 0) with hb30 | hb30
                  · skip
                    refine pw_if E (pc' := 53) rfl (by decide) (by omega) (by omega) ?_ ?_
                    · intro hc31
                      change x29 ≠ (0 : Int) at hc31
                      refine pw_ld E (pc' := 54) (st' := [pw_i 0]) rfl (fun _ => rfl) ?_
                      refine pw_ist E (pc' := 56) (ls' := [some (.ref 141), some (pw_i l), some (pw_i sd), some (pw_i b), some (pw_i e), some (pw_i wt), some (pw_i 0), none, none]) rfl rfl rfl rfl ?_
                      refine pw_ld E (pc' := 57) (st' := [pw_i 0]) rfl (fun _ => rfl) ?_
                      refine pw_ist E (pc' := 59) (ls' := [some (.ref 141), some (pw_i l), some (pw_i sd), some (pw_i b), some (pw_i e), some (pw_i wt), some (pw_i 0), some (pw_i 0), none]) rfl rfl rfl rfl ?_
                      have L59 : ∀ (n59 : Nat) (k59_6 : Int) (k59_7 : Int) (k59_8 : Option Value) (gh59 : pm_H), pw_I gh59 → pw_E [125, 149, 150, 151, 152, 153] h gh59 → (-2147483648) ≤ k59_6 → k59_6 ≤ 2147483647 → 0 ≤ k59_7 → k59_7 ≤ 20 → (20 - k59_7).toNat = n59 → pw X d gh59 272 59 [some (.ref 141), some (pw_i l), some (pw_i sd), some (pw_i b), some (pw_i e), some (pw_i wt), some (pw_i k59_6), some (pw_i k59_7), k59_8] [] (fun h' v => pw_I h' ∧ pw_E [125, 149, 150, 151, 152, 153] h h' ∧ ∃ a : Int, v = .inl (some (pw_i a)) ∧ (-2147483648) ≤ a ∧ a ≤ 2147483647) := by
                        intro n59
                        induction n59 using Nat.strongRecOn with
                        | ind n59 ih59 =>
                          intro k59_6 k59_7 k59_8 gh59 I59 E59 k59_6a k59_6b k59_7a k59_7b hm59
                          refine pw_ld E (pc' := 61) (st' := [pw_i k59_7]) rfl (fun _ => rfl) ?_
                          refine pw_ld E (pc' := 62) (st' := [pw_i sd, pw_i k59_7]) rfl (fun _ => rfl) ?_
                          refine pw_if2 E (pc' := 197) rfl (by decide) (by omega) (by omega) (by omega) (by omega) ?_ ?_
                          · intro hc32
                            change sd ≤ k59_7 at hc32
                            refine pw_ld E (pc' := 199) (st' := [pw_i k59_6]) rfl (fun _ => rfl) ?_
                            refine pw_iret E rfl ?_
                            exact ⟨I59, E59, ⟨_, rfl, by omega, by omega⟩⟩
                          · intro hc33
                            change ¬ (sd ≤ k59_7) at hc33
                            refine pw_ld E (pc' := 66) (st' := [.ref 141]) rfl (fun _ => rfl) ?_
                            refine pw_ld E (pc' := 67) (st' := [pw_i l, .ref 141]) rfl (fun _ => rfl) ?_
                            refine pw_ld E (pc' := 69) (st' := [pw_i k59_7, pw_i l, .ref 141]) rfl (fun _ => rfl) ?_
                            obtain ⟨f34l, f34h, -⟩ := pw_obj (c := 125) I59 rfl
                            refine pw_call (m' := 260) (As := [.ref 141, pw_i l, pw_i k59_7]) (rest := []) (ls'' := [some (.ref 141), some (pw_i l), some (pw_i k59_7), none, none, none, none]) (Nat.le_trans (by decide) hd) E rfl (fun _ => pw_iV rfl rfl rfl rfl (pw_cellI f34h rfl)) (rfl : pm_ent 260 = some (3, 7, 12, 4, pmc_260)) rfl rfl (cm_260 (pw_dp hd (by decide)) I59 (l) (by omega) (by omega) (k59_7) (by omega) (by omega) (pw_KE I E59 hp0 rfl)) ?_
                            rintro h35 v36 ⟨h35I, h35E, rfl⟩
                            refine ⟨_, rfl, ?_⟩
                            have h35F := E59.tr (h35E.wk (W' := [125, 149, 150, 151, 152, 153]) (by first | rfl | simp))
                            show pw X d h35 272 72 [some (.ref 141), some (pw_i l), some (pw_i sd), some (pw_i b), some (pw_i e), some (pw_i wt), some (pw_i k59_6), some (pw_i k59_7), k59_8] [] _
                            refine pw_ld E (pc' := 73) (st' := [.ref 141]) rfl (fun _ => rfl) ?_
                            obtain ⟨f37l, f37h, -⟩ := pw_obj (c := 125) h35I rfl
                            refine pw_call (m' := 219) (As := [.ref 141]) (rest := []) (ls'' := [some (.ref 141)]) (Nat.le_trans (by decide) hd) E rfl (fun _ => pw_iV rfl rfl rfl rfl (pw_cellI f37h rfl)) (rfl : pm_ent 219 = some (1, 1, 12, 4, pmc_219)) rfl rfl (cm_219 (pw_dp hd (by decide)) h35I ) ?_
                            rintro h38 v39 ⟨h38I, h38E, hq40, rfl⟩
                            refine ⟨_, rfl, ?_⟩
                            have h38F := h35F.tr (h38E.wk (W' := [125, 149, 150, 151, 152, 153]) (by first | rfl | simp))
                            show pw X d h38 272 76 [some (.ref 141), some (pw_i l), some (pw_i sd), some (pw_i b), some (pw_i e), some (pw_i wt), some (pw_i k59_6), some (pw_i k59_7), k59_8] [] _
                            refine pw_ld E (pc' := 77) (st' := [pw_i 0]) rfl (fun _ => rfl) ?_
                            refine pw_ist E (pc' := 79) (ls' := [some (.ref 141), some (pw_i l), some (pw_i sd), some (pw_i b), some (pw_i e), some (pw_i wt), some (pw_i k59_6), some (pw_i k59_7), some (pw_i 0)]) rfl rfl rfl rfl ?_
                            have L79 : ∀ (n79 : Nat) (k79_8 : Int) (gh79 : pm_H), pw_I gh79 → pw_E [125, 149, 150, 151, 152, 153] h gh79 → 0 ≤ k79_8 → k79_8 ≤ 24 → pw_gm gh79 125 27 + pw_gm gh79 125 29 ≤ k79_8 → 0 ≤ pw_gm gh79 125 27 → 0 ≤ pw_gm gh79 125 29 → (24 - k79_8).toNat = n79 → pw X d gh79 272 79 [some (.ref 141), some (pw_i l), some (pw_i sd), some (pw_i b), some (pw_i e), some (pw_i wt), some (pw_i k59_6), some (pw_i k59_7), some (pw_i k79_8)] [] (fun h' v => pw_I h' ∧ pw_E [125, 149, 150, 151, 152, 153] h h' ∧ ∃ a : Int, v = .inl (some (pw_i a)) ∧ (-2147483648) ≤ a ∧ a ≤ 2147483647) := by
                              intro n79
                              induction n79 using Nat.strongRecOn with
                              | ind n79 ih79 =>
                                intro k79_8 gh79 I79 E79 k79_8a k79_8b hx79_0 hx79_1 hx79_2 hm79
                                refine pw_ld E (pc' := 81) (st' := [pw_i k79_8]) rfl (fun _ => rfl) ?_
                                refine pw_bip E (pc' := 83) rfl rfl (by decide) ?_
                                refine pw_if2 E (pc' := 140) rfl (by decide) (by omega) (by omega) (by decide) (by decide) ?_ ?_
                                · intro hc41
                                  change (24 : Int) ≤ k79_8 at hc41
                                  refine pw_ld E (pc' := 141) (st' := [.ref 141]) rfl (fun _ => rfl) ?_
                                  obtain ⟨f42l, f42h, -⟩ := pw_obj (c := 125) I79 rfl
                                  refine pw_call (m' := 221) (As := [.ref 141]) (rest := []) (ls'' := [some (.ref 141)]) (Nat.le_trans (by decide) hd) E rfl (fun _ => pw_iV rfl rfl rfl rfl (pw_cellI f42h rfl)) (rfl : pm_ent 221 = some (1, 1, 12, 1, pmc_221)) rfl rfl (cm_221 (pw_dp hd (by decide)) I79 ) ?_
                                  rintro h43 v44 ⟨h43I, h43E, x45, rfl, hx45a, hx45b, hx45r⟩
                                  refine ⟨_, rfl, ?_⟩
                                  have h43F := E79.tr (h43E.wk (W' := [125, 149, 150, 151, 152, 153]) (by first | rfl | simp))
                                  show pw X d h43 272 144 [some (.ref 141), some (pw_i l), some (pw_i sd), some (pw_i b), some (pw_i e), some (pw_i wt), some (pw_i k59_6), some (pw_i k59_7), some (pw_i k79_8)] [pw_i x45] _
                                  change (x45 = 1 ∧ 1 ≤ pw_gm h43 125 25 ∧ pw_gm h43 125 25 ≤ 576) ∨ x45 = 0 at hx45r
                                  refine pw_ld E (pc' := 145) (st' := []) rfl (fun _ => rfl) ?_
                                  refine pw_ld E (pc' := 146) (st' := [.ref 141]) rfl (fun _ => rfl) ?_
                                  refine pw_getL h43I E (c := 125) (k := 24) (pc' := 149) rfl rfl rfl rfl rfl rfl ?_
                                  refine pw_ld E (pc' := 150) (st' := [.long (Int64.ofInt 0), .long (pw_gl h43 125 24)]) rfl (fun _ => rfl) ?_
                                  refine pw_lcmp E (pc' := 151) rfl rfl (fun c46 hc46 => ?_)
                                  refine pw_if E (pc' := 158) rfl (by decide) (by omega) (by omega) ?_ ?_
                                  · intro hc47
                                    change (0 : Int) ≤ c46 at hc47
                                    refine pw_ld E (pc' := 159) (st' := [.ref 141]) rfl (fun _ => rfl) ?_
                                    refine pw_getL h43I E (c := 125) (k := 24) (pc' := 162) rfl rfl rfl rfl rfl rfl ?_
                                    refine pw_ld E (pc' := 163) (st' := [.long (Int64.ofInt 0), .long (pw_gl h43 125 24)]) rfl (fun _ => rfl) ?_
                                    refine pw_lcmp E (pc' := 164) rfl rfl (fun c48 hc48 => ?_)
                                    refine pw_if E (pc' := 171) rfl (by decide) (by omega) (by omega) ?_ ?_
                                    · intro hc49
                                      change c48 ≠ (0 : Int) at hc49
                                      refine pw_ld E (pc' := 172) (st' := [pw_i 2]) rfl (fun _ => rfl) ?_
                                      refine pw_ist E (pc' := 174) (ls' := [some (.ref 141), some (pw_i l), some (pw_i sd), some (pw_i b), some (pw_i e), some (pw_i wt), some (pw_i k59_6), some (pw_i k59_7), some (pw_i 2)]) rfl rfl rfl rfl ?_
                                      refine pw_ld E (pc' := 176) (st' := [pw_i k59_6]) rfl (fun _ => rfl) ?_
                                      refine pw_ld E (pc' := 178) (st' := [pw_i 2, pw_i k59_6]) rfl (fun _ => rfl) ?_
                                      refine pw_ld E (pc' := 180) (st' := [pw_i wt, pw_i 2, pw_i k59_6]) rfl (fun _ => rfl) ?_
                                      refine pw_if2 E (pc' := 187) rfl (by decide) (by decide) (by decide) (by omega) (by omega) ?_ ?_
                                      · intro hc50
                                        change (2 : Int) ≠ wt at hc50
                                        refine pw_ld E (pc' := 188) (st' := [pw_i 0, pw_i k59_6]) rfl (fun _ => rfl) ?_
                                        refine pw_add E (pc' := 189) rfl rfl ?_
                                        refine pw_ist E (pc' := 191) (ls' := [some (.ref 141), some (pw_i l), some (pw_i sd), some (pw_i b), some (pw_i e), some (pw_i wt), some (pw_i (k59_6 + 0)), some (pw_i k59_7), some (pw_i 2)]) rfl rfl rfl rfl ?_
                                        refine pw_inc E (pc' := 194) (ls' := [some (.ref 141), some (pw_i l), some (pw_i sd), some (pw_i b), some (pw_i e), some (pw_i wt), some (pw_i (k59_6 + 0)), some (pw_i (k59_7 + 1)), some (pw_i 2)]) rfl rfl rfl rfl ?_
                                        refine pw_goto E (pc' := 59) rfl (by decide) ?_
                                        exact ih59 _ (by omega) (k59_6 + 0) (k59_7 + 1) (some (pw_i 2)) h43 h43I h43F (by omega) (by omega) (by omega) (by omega)  rfl
                                      · intro hc51
                                        change ¬ ((2 : Int) ≠ wt) at hc51
                                        refine pw_ld E (pc' := 184) (st' := [pw_i 1, pw_i k59_6]) rfl (fun _ => rfl) ?_
                                        refine pw_goto E (pc' := 188) rfl (by decide) ?_
                                        refine pw_add E (pc' := 189) rfl rfl ?_
                                        refine pw_nm (fun x52 hx52a hx52b => ?_)
                                        refine pw_ist E (pc' := 191) (ls' := [some (.ref 141), some (pw_i l), some (pw_i sd), some (pw_i b), some (pw_i e), some (pw_i wt), some (pw_i x52), some (pw_i k59_7), some (pw_i 2)]) rfl rfl rfl rfl ?_
                                        refine pw_inc E (pc' := 194) (ls' := [some (.ref 141), some (pw_i l), some (pw_i sd), some (pw_i b), some (pw_i e), some (pw_i wt), some (pw_i x52), some (pw_i (k59_7 + 1)), some (pw_i 2)]) rfl rfl rfl rfl ?_
                                        refine pw_goto E (pc' := 59) rfl (by decide) ?_
                                        exact ih59 _ (by omega) (x52) (k59_7 + 1) (some (pw_i 2)) h43 h43I h43F (by omega) (by omega) (by omega) (by omega)  rfl
                                    · intro hc53
                                      change ¬ (c48 ≠ (0 : Int)) at hc53
                                      refine pw_ld E (pc' := 168) (st' := [pw_i 1]) rfl (fun _ => rfl) ?_
                                      refine pw_goto E (pc' := 172) rfl (by decide) ?_
                                      refine pw_ist E (pc' := 174) (ls' := [some (.ref 141), some (pw_i l), some (pw_i sd), some (pw_i b), some (pw_i e), some (pw_i wt), some (pw_i k59_6), some (pw_i k59_7), some (pw_i 1)]) rfl rfl rfl rfl ?_
                                      refine pw_ld E (pc' := 176) (st' := [pw_i k59_6]) rfl (fun _ => rfl) ?_
                                      refine pw_ld E (pc' := 178) (st' := [pw_i 1, pw_i k59_6]) rfl (fun _ => rfl) ?_
                                      refine pw_ld E (pc' := 180) (st' := [pw_i wt, pw_i 1, pw_i k59_6]) rfl (fun _ => rfl) ?_
                                      refine pw_if2 E (pc' := 187) rfl (by decide) (by decide) (by decide) (by omega) (by omega) ?_ ?_
                                      · intro hc54
                                        change (1 : Int) ≠ wt at hc54
                                        refine pw_ld E (pc' := 188) (st' := [pw_i 0, pw_i k59_6]) rfl (fun _ => rfl) ?_
                                        refine pw_add E (pc' := 189) rfl rfl ?_
                                        refine pw_ist E (pc' := 191) (ls' := [some (.ref 141), some (pw_i l), some (pw_i sd), some (pw_i b), some (pw_i e), some (pw_i wt), some (pw_i (k59_6 + 0)), some (pw_i k59_7), some (pw_i 1)]) rfl rfl rfl rfl ?_
                                        refine pw_inc E (pc' := 194) (ls' := [some (.ref 141), some (pw_i l), some (pw_i sd), some (pw_i b), some (pw_i e), some (pw_i wt), some (pw_i (k59_6 + 0)), some (pw_i (k59_7 + 1)), some (pw_i 1)]) rfl rfl rfl rfl ?_
                                        refine pw_goto E (pc' := 59) rfl (by decide) ?_
                                        exact ih59 _ (by omega) (k59_6 + 0) (k59_7 + 1) (some (pw_i 1)) h43 h43I h43F (by omega) (by omega) (by omega) (by omega)  rfl
                                      · intro hc55
                                        change ¬ ((1 : Int) ≠ wt) at hc55
                                        refine pw_ld E (pc' := 184) (st' := [pw_i 1, pw_i k59_6]) rfl (fun _ => rfl) ?_
                                        refine pw_goto E (pc' := 188) rfl (by decide) ?_
                                        refine pw_add E (pc' := 189) rfl rfl ?_
                                        refine pw_nm (fun x56 hx56a hx56b => ?_)
                                        refine pw_ist E (pc' := 191) (ls' := [some (.ref 141), some (pw_i l), some (pw_i sd), some (pw_i b), some (pw_i e), some (pw_i wt), some (pw_i x56), some (pw_i k59_7), some (pw_i 1)]) rfl rfl rfl rfl ?_
                                        refine pw_inc E (pc' := 194) (ls' := [some (.ref 141), some (pw_i l), some (pw_i sd), some (pw_i b), some (pw_i e), some (pw_i wt), some (pw_i x56), some (pw_i (k59_7 + 1)), some (pw_i 1)]) rfl rfl rfl rfl ?_
                                        refine pw_goto E (pc' := 59) rfl (by decide) ?_
                                        exact ih59 _ (by omega) (x56) (k59_7 + 1) (some (pw_i 1)) h43 h43I h43F (by omega) (by omega) (by omega) (by omega)  rfl
                                  · intro hc57
                                    change ¬ ((0 : Int) ≤ c46) at hc57
                                    refine pw_ld E (pc' := 155) (st' := [pw_i 0]) rfl (fun _ => rfl) ?_
                                    refine pw_goto E (pc' := 172) rfl (by decide) ?_
                                    refine pw_ist E (pc' := 174) (ls' := [some (.ref 141), some (pw_i l), some (pw_i sd), some (pw_i b), some (pw_i e), some (pw_i wt), some (pw_i k59_6), some (pw_i k59_7), some (pw_i 0)]) rfl rfl rfl rfl ?_
                                    refine pw_ld E (pc' := 176) (st' := [pw_i k59_6]) rfl (fun _ => rfl) ?_
                                    refine pw_ld E (pc' := 178) (st' := [pw_i 0, pw_i k59_6]) rfl (fun _ => rfl) ?_
                                    refine pw_ld E (pc' := 180) (st' := [pw_i wt, pw_i 0, pw_i k59_6]) rfl (fun _ => rfl) ?_
                                    refine pw_if2 E (pc' := 187) rfl (by decide) (by decide) (by decide) (by omega) (by omega) ?_ ?_
                                    · intro hc58
                                      change (0 : Int) ≠ wt at hc58
                                      refine pw_ld E (pc' := 188) (st' := [pw_i 0, pw_i k59_6]) rfl (fun _ => rfl) ?_
                                      refine pw_add E (pc' := 189) rfl rfl ?_
                                      refine pw_ist E (pc' := 191) (ls' := [some (.ref 141), some (pw_i l), some (pw_i sd), some (pw_i b), some (pw_i e), some (pw_i wt), some (pw_i (k59_6 + 0)), some (pw_i k59_7), some (pw_i 0)]) rfl rfl rfl rfl ?_
                                      refine pw_inc E (pc' := 194) (ls' := [some (.ref 141), some (pw_i l), some (pw_i sd), some (pw_i b), some (pw_i e), some (pw_i wt), some (pw_i (k59_6 + 0)), some (pw_i (k59_7 + 1)), some (pw_i 0)]) rfl rfl rfl rfl ?_
                                      refine pw_goto E (pc' := 59) rfl (by decide) ?_
                                      exact ih59 _ (by omega) (k59_6 + 0) (k59_7 + 1) (some (pw_i 0)) h43 h43I h43F (by omega) (by omega) (by omega) (by omega)  rfl
                                    · intro hc59
                                      change ¬ ((0 : Int) ≠ wt) at hc59
                                      refine pw_ld E (pc' := 184) (st' := [pw_i 1, pw_i k59_6]) rfl (fun _ => rfl) ?_
                                      refine pw_goto E (pc' := 188) rfl (by decide) ?_
                                      refine pw_add E (pc' := 189) rfl rfl ?_
                                      refine pw_nm (fun x60 hx60a hx60b => ?_)
                                      refine pw_ist E (pc' := 191) (ls' := [some (.ref 141), some (pw_i l), some (pw_i sd), some (pw_i b), some (pw_i e), some (pw_i wt), some (pw_i x60), some (pw_i k59_7), some (pw_i 0)]) rfl rfl rfl rfl ?_
                                      refine pw_inc E (pc' := 194) (ls' := [some (.ref 141), some (pw_i l), some (pw_i sd), some (pw_i b), some (pw_i e), some (pw_i wt), some (pw_i x60), some (pw_i (k59_7 + 1)), some (pw_i 0)]) rfl rfl rfl rfl ?_
                                      refine pw_goto E (pc' := 59) rfl (by decide) ?_
                                      exact ih59 _ (by omega) (x60) (k59_7 + 1) (some (pw_i 0)) h43 h43I h43F (by omega) (by omega) (by omega) (by omega)  rfl
                                · intro hc61
                                  change ¬ ((24 : Int) ≤ k79_8) at hc61
                                  refine pw_ld E (pc' := 87) (st' := [.ref 141]) rfl (fun _ => rfl) ?_
                                  refine pw_ld E (pc' := 89) (st' := [pw_i k79_8, .ref 141]) rfl (fun _ => rfl) ?_
                                  refine pw_ld E (pc' := 90) (st' := [pw_i b, pw_i k79_8, .ref 141]) rfl (fun _ => rfl) ?_
                                  refine pw_ld E (pc' := 92) (st' := [pw_i e, pw_i b, pw_i k79_8, .ref 141]) rfl (fun _ => rfl) ?_
                                  obtain ⟨f62l, f62h, -⟩ := pw_obj (c := 125) I79 rfl
                                  refine pw_call (m' := 214) (As := [.ref 141, pw_i k79_8, pw_i b, pw_i e]) (rest := []) (ls'' := [some (.ref 141), some (pw_i k79_8), some (pw_i b), some (pw_i e)]) (Nat.le_trans (by decide) hd) E rfl (fun _ => pw_iV rfl rfl rfl rfl (pw_cellI f62h rfl)) (rfl : pm_ent 214 = some (4, 4, 12, 1, pmc_214)) rfl rfl (cm_214 (pw_dp hd (by decide)) I79 (k79_8) (by omega) (by omega) (b) (by omega) (by omega) (e) (by omega) (by omega)) ?_
                                  rintro u64 v63 ⟨rfl, x65, rfl, hx65a, hx65b⟩
                                  refine ⟨_, rfl, ?_⟩
                                  show pw X d gh79 272 95 [some (.ref 141), some (pw_i l), some (pw_i sd), some (pw_i b), some (pw_i e), some (pw_i wt), some (pw_i k59_6), some (pw_i k59_7), some (pw_i k79_8)] [pw_i x65] _
                                  refine pw_if E (pc' := 134) rfl (by decide) (by omega) (by omega) ?_ ?_
                                  · intro hc66
                                    change x65 = (0 : Int) at hc66
                                    refine pw_inc E (pc' := 137) (ls' := [some (.ref 141), some (pw_i l), some (pw_i sd), some (pw_i b), some (pw_i e), some (pw_i wt), some (pw_i k59_6), some (pw_i k59_7), some (pw_i (k79_8 + 1))]) rfl rfl rfl rfl ?_
                                    refine pw_goto E (pc' := 79) rfl (by decide) ?_
                                    exact ih79 _ (by omega) (k79_8 + 1) gh79 I79 E79 (by omega) (by omega) (by omega) (by omega) (by omega) rfl
                                  · intro hc67
                                    change ¬ (x65 = (0 : Int)) at hc67
                                    refine pw_ld E (pc' := 99) (st' := [.ref 141]) rfl (fun _ => rfl) ?_
                                    refine pw_ld E (pc' := 100) (st' := [.ref 141, .ref 141]) rfl (fun _ => rfl) ?_
                                    refine pw_getR (b := 148) I79 E (c := 125) (k := 11) (pc' := 103) rfl rfl rfl rfl rfl rfl rfl ?_
                                    refine pw_ld E (pc' := 105) (st' := [pw_i k79_8, .ref 148, .ref 141]) rfl (fun _ => rfl) ?_
                                    refine pw_ald2 I79 E (c := 132) (pc' := 106) rfl rfl rfl (by decide) rfl (by decide) (by omega) (by omega) rfl (fun hf68a hf68b => ?_)
                                    refine pw_if E (pc' := 113) rfl (by decide) (by omega) (by omega) ?_ ?_
                                    · intro hc69
                                      change pw_g gh79 132 (k79_8.toNat) ≠ (0 : Int) at hc69
                                      refine pw_ld E (pc' := 114) (st' := [pw_i 0, .ref 141]) rfl (fun _ => rfl) ?_
                                      refine pw_ld E (pc' := 115) (st' := [.ref 141, pw_i 0, .ref 141]) rfl (fun _ => rfl) ?_
                                      refine pw_ld E (pc' := 117) (st' := [pw_i k79_8, .ref 141, pw_i 0, .ref 141]) rfl (fun _ => rfl) ?_
                                      refine pw_ld E (pc' := 119) (st' := [pw_i e, pw_i k79_8, .ref 141, pw_i 0, .ref 141]) rfl (fun _ => rfl) ?_
                                      obtain ⟨f70l, f70h, -⟩ := pw_obj (c := 125) I79 rfl
                                      refine pw_call (m' := 267) (As := [.ref 141, pw_i k79_8, pw_i e]) (rest := [pw_i 0, .ref 141]) (ls'' := [some (.ref 141), some (pw_i k79_8), some (pw_i e)]) (Nat.le_trans (by decide) hd) E rfl (fun _ => pw_iV rfl rfl rfl rfl (pw_cellI f70h rfl)) (rfl : pm_ent 267 = some (3, 3, 12, 0, pmc_267)) rfl rfl (cm_267 (pw_dp hd (by decide)) I79 (k79_8) (by omega) (by omega) (e) (by omega) (by omega)) ?_
                                      rintro u72 v71 ⟨rfl, x73, rfl, hx73a, hx73b⟩
                                      refine ⟨_, rfl, ?_⟩
                                      show pw X d gh79 272 122 [some (.ref 141), some (pw_i l), some (pw_i sd), some (pw_i b), some (pw_i e), some (pw_i wt), some (pw_i k59_6), some (pw_i k59_7), some (pw_i k79_8)] [pw_i x73, pw_i 0, .ref 141] _
                                      refine pw_ld E (pc' := 123) (st' := [.ref 141, pw_i x73, pw_i 0, .ref 141]) rfl (fun _ => rfl) ?_
                                      refine pw_ld E (pc' := 125) (st' := [pw_i k79_8, .ref 141, pw_i x73, pw_i 0, .ref 141]) rfl (fun _ => rfl) ?_
                                      refine pw_ld E (pc' := 126) (st' := [pw_i b, pw_i k79_8, .ref 141, pw_i x73, pw_i 0, .ref 141]) rfl (fun _ => rfl) ?_
                                      obtain ⟨f74l, f74h, -⟩ := pw_obj (c := 125) I79 rfl
                                      refine pw_call (m' := 267) (As := [.ref 141, pw_i k79_8, pw_i b]) (rest := [pw_i x73, pw_i 0, .ref 141]) (ls'' := [some (.ref 141), some (pw_i k79_8), some (pw_i b)]) (Nat.le_trans (by decide) hd) E rfl (fun _ => pw_iV rfl rfl rfl rfl (pw_cellI f74h rfl)) (rfl : pm_ent 267 = some (3, 3, 12, 0, pmc_267)) rfl rfl (cm_267 (pw_dp hd (by decide)) I79 (k79_8) (by omega) (by omega) (b) (by omega) (by omega)) ?_
                                      rintro u76 v75 ⟨rfl, x77, rfl, hx77a, hx77b⟩
                                      refine ⟨_, rfl, ?_⟩
                                      show pw X d gh79 272 129 [some (.ref 141), some (pw_i l), some (pw_i sd), some (pw_i b), some (pw_i e), some (pw_i wt), some (pw_i k59_6), some (pw_i k59_7), some (pw_i k79_8)] [pw_i x77, pw_i x73, pw_i 0, .ref 141] _
                                      refine pw_sub E (pc' := 130) rfl rfl ?_
                                      refine pw_nm (fun x78 hx78a hx78b => ?_)
                                      refine pw_i2l E (pc' := 131) rfl rfl (by omega) (by omega) ?_
                                      obtain ⟨f79l, f79h, -⟩ := pw_obj (c := 125) I79 rfl
                                      refine pw_call (m' := 220) (As := [.ref 141, pw_i 0, .long (Int64.ofInt x78)]) (rest := []) (ls'' := [some (.ref 141), some (pw_i 0), some (.long (Int64.ofInt x78)), none]) (Nat.le_trans (by decide) hd) E rfl (fun _ => pw_iV rfl rfl rfl rfl (pw_cellI f79h rfl)) (rfl : pm_ent 220 = some (3, 4, 12, 4, pmc_220)) rfl rfl (cm_220 (pw_dp hd (by decide)) I79 (0) (by omega) (by omega) (Int64.ofInt x78) (by omega) (by omega) (by omega)) ?_
                                      rintro h80 v81 ⟨h80I, h80E, hq82, rfl⟩
                                      refine ⟨_, rfl, ?_⟩
                                      have h80F := E79.tr (h80E.wk (W' := [125, 149, 150, 151, 152, 153]) (by first | rfl | simp))
                                      show pw X d h80 272 134 [some (.ref 141), some (pw_i l), some (pw_i sd), some (pw_i b), some (pw_i e), some (pw_i wt), some (pw_i k59_6), some (pw_i k59_7), some (pw_i k79_8)] [] _
                                      refine pw_inc E (pc' := 137) (ls' := [some (.ref 141), some (pw_i l), some (pw_i sd), some (pw_i b), some (pw_i e), some (pw_i wt), some (pw_i k59_6), some (pw_i k59_7), some (pw_i (k79_8 + 1))]) rfl rfl rfl rfl ?_
                                      refine pw_goto E (pc' := 79) rfl (by decide) ?_
                                      exact ih79 _ (by omega) (k79_8 + 1) h80 h80I h80F (by omega) (by omega) (by omega) (by omega) (by omega) rfl
                                    · intro hc83
                                      change ¬ (pw_g gh79 132 (k79_8.toNat) ≠ (0 : Int)) at hc83
                                      refine pw_ld E (pc' := 110) (st' := [pw_i 1, .ref 141]) rfl (fun _ => rfl) ?_
                                      refine pw_goto E (pc' := 114) rfl (by decide) ?_
                                      refine pw_ld E (pc' := 115) (st' := [.ref 141, pw_i 1, .ref 141]) rfl (fun _ => rfl) ?_
                                      refine pw_ld E (pc' := 117) (st' := [pw_i k79_8, .ref 141, pw_i 1, .ref 141]) rfl (fun _ => rfl) ?_
                                      refine pw_ld E (pc' := 119) (st' := [pw_i e, pw_i k79_8, .ref 141, pw_i 1, .ref 141]) rfl (fun _ => rfl) ?_
                                      obtain ⟨f84l, f84h, -⟩ := pw_obj (c := 125) I79 rfl
                                      refine pw_call (m' := 267) (As := [.ref 141, pw_i k79_8, pw_i e]) (rest := [pw_i 1, .ref 141]) (ls'' := [some (.ref 141), some (pw_i k79_8), some (pw_i e)]) (Nat.le_trans (by decide) hd) E rfl (fun _ => pw_iV rfl rfl rfl rfl (pw_cellI f84h rfl)) (rfl : pm_ent 267 = some (3, 3, 12, 0, pmc_267)) rfl rfl (cm_267 (pw_dp hd (by decide)) I79 (k79_8) (by omega) (by omega) (e) (by omega) (by omega)) ?_
                                      rintro u86 v85 ⟨rfl, x87, rfl, hx87a, hx87b⟩
                                      refine ⟨_, rfl, ?_⟩
                                      show pw X d gh79 272 122 [some (.ref 141), some (pw_i l), some (pw_i sd), some (pw_i b), some (pw_i e), some (pw_i wt), some (pw_i k59_6), some (pw_i k59_7), some (pw_i k79_8)] [pw_i x87, pw_i 1, .ref 141] _
                                      refine pw_ld E (pc' := 123) (st' := [.ref 141, pw_i x87, pw_i 1, .ref 141]) rfl (fun _ => rfl) ?_
                                      refine pw_ld E (pc' := 125) (st' := [pw_i k79_8, .ref 141, pw_i x87, pw_i 1, .ref 141]) rfl (fun _ => rfl) ?_
                                      refine pw_ld E (pc' := 126) (st' := [pw_i b, pw_i k79_8, .ref 141, pw_i x87, pw_i 1, .ref 141]) rfl (fun _ => rfl) ?_
                                      obtain ⟨f88l, f88h, -⟩ := pw_obj (c := 125) I79 rfl
                                      refine pw_call (m' := 267) (As := [.ref 141, pw_i k79_8, pw_i b]) (rest := [pw_i x87, pw_i 1, .ref 141]) (ls'' := [some (.ref 141), some (pw_i k79_8), some (pw_i b)]) (Nat.le_trans (by decide) hd) E rfl (fun _ => pw_iV rfl rfl rfl rfl (pw_cellI f88h rfl)) (rfl : pm_ent 267 = some (3, 3, 12, 0, pmc_267)) rfl rfl (cm_267 (pw_dp hd (by decide)) I79 (k79_8) (by omega) (by omega) (b) (by omega) (by omega)) ?_
                                      rintro u90 v89 ⟨rfl, x91, rfl, hx91a, hx91b⟩
                                      refine ⟨_, rfl, ?_⟩
                                      show pw X d gh79 272 129 [some (.ref 141), some (pw_i l), some (pw_i sd), some (pw_i b), some (pw_i e), some (pw_i wt), some (pw_i k59_6), some (pw_i k59_7), some (pw_i k79_8)] [pw_i x91, pw_i x87, pw_i 1, .ref 141] _
                                      refine pw_sub E (pc' := 130) rfl rfl ?_
                                      refine pw_nm (fun x92 hx92a hx92b => ?_)
                                      refine pw_i2l E (pc' := 131) rfl rfl (by omega) (by omega) ?_
                                      obtain ⟨f93l, f93h, -⟩ := pw_obj (c := 125) I79 rfl
                                      refine pw_call (m' := 220) (As := [.ref 141, pw_i 1, .long (Int64.ofInt x92)]) (rest := []) (ls'' := [some (.ref 141), some (pw_i 1), some (.long (Int64.ofInt x92)), none]) (Nat.le_trans (by decide) hd) E rfl (fun _ => pw_iV rfl rfl rfl rfl (pw_cellI f93h rfl)) (rfl : pm_ent 220 = some (3, 4, 12, 4, pmc_220)) rfl rfl (cm_220 (pw_dp hd (by decide)) I79 (1) (by omega) (by omega) (Int64.ofInt x92) (by omega) (by omega) (by omega)) ?_
                                      rintro h94 v95 ⟨h94I, h94E, hq96, rfl⟩
                                      refine ⟨_, rfl, ?_⟩
                                      have h94F := E79.tr (h94E.wk (W' := [125, 149, 150, 151, 152, 153]) (by first | rfl | simp))
                                      show pw X d h94 272 134 [some (.ref 141), some (pw_i l), some (pw_i sd), some (pw_i b), some (pw_i e), some (pw_i wt), some (pw_i k59_6), some (pw_i k59_7), some (pw_i k79_8)] [] _
                                      refine pw_inc E (pc' := 137) (ls' := [some (.ref 141), some (pw_i l), some (pw_i sd), some (pw_i b), some (pw_i e), some (pw_i wt), some (pw_i k59_6), some (pw_i k59_7), some (pw_i (k79_8 + 1))]) rfl rfl rfl rfl ?_
                                      refine pw_goto E (pc' := 79) rfl (by decide) ?_
                                      exact ih79 _ (by omega) (k79_8 + 1) h94 h94I h94F (by omega) (by omega) (by omega) (by omega) (by omega) rfl
                            exact L79 _ (0) h38 h38I h38F (by omega) (by omega) (by omega) (by omega) (by omega) rfl
                      exact L59 _ (0) (0) (none) h27 h27I h27F (by omega) (by omega) (by omega) (by omega)  rfl
                    · intro hc97
                      change ¬ (x29 ≠ (0 : Int)) at hc97
                      exfalso; omega
                  · skip
                    refine pw_if E (pc' := 53) rfl (by decide) (by omega) (by omega) ?_ ?_
                    · intro hc99
                      change x29 ≠ (0 : Int) at hc99
                      exfalso; omega
                    · intro hc100
                      change ¬ (x29 ≠ (0 : Int)) at hc100
                      refine pw_ld E (pc' := 52) (st' := [pw_i ((-1))]) rfl (fun _ => rfl) ?_
                      refine pw_iret E rfl ?_
                      exact ⟨h27I, h27F, ⟨_, rfl, by omega, by omega⟩⟩
              · skip
                refine pw_if E (pc' := 51) rfl (by decide) (by omega) (by omega) ?_ ?_
                · intro hc102
                  change x22 = (0 : Int) at hc102
                  refine pw_ld E (pc' := 52) (st' := [pw_i ((-1))]) rfl (fun _ => rfl) ?_
                  refine pw_iret E rfl ?_
                  exact ⟨h1I, h1F, ⟨_, rfl, by omega, by omega⟩⟩
                · intro hc103
                  change ¬ (x22 = (0 : Int)) at hc103
                  exfalso; omega
          · skip
            refine pw_if E (pc' := 51) rfl (by decide) (by omega) (by omega) ?_ ?_
            · intro hc105
              change x16 = (0 : Int) at hc105
              refine pw_ld E (pc' := 52) (st' := [pw_i ((-1))]) rfl (fun _ => rfl) ?_
              refine pw_iret E rfl ?_
              exact ⟨h1I, h1F, ⟨_, rfl, by omega, by omega⟩⟩
            · intro hc106
              change ¬ (x16 = (0 : Int)) at hc106
              exfalso; omega
      · skip
        refine pw_if E (pc' := 51) rfl (by decide) (by omega) (by omega) ?_ ?_
        · intro hc108
          change x10 = (0 : Int) at hc108
          refine pw_ld E (pc' := 52) (st' := [pw_i ((-1))]) rfl (fun _ => rfl) ?_
          refine pw_iret E rfl ?_
          exact ⟨h1I, h1F, ⟨_, rfl, by omega, by omega⟩⟩
        · intro hc109
          change ¬ (x10 = (0 : Int)) at hc109
          exfalso; omega
  · skip
    refine pw_if E (pc' := 51) rfl (by decide) (by omega) (by omega) ?_ ?_
    · intro hc111
      change x4 = (0 : Int) at hc111
      refine pw_ld E (pc' := 52) (st' := [pw_i ((-1))]) rfl (fun _ => rfl) ?_
      refine pw_iret E rfl ?_
      exact ⟨h1I, h1F, ⟨_, rfl, by omega, by omega⟩⟩
    · intro hc112
      change ¬ (x4 = (0 : Int)) at hc112
      exfalso; omega
