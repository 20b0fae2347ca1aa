section
/-! beside, exactly -/
set_option maxHeartbeats 4000000 in
theorem cm_2_s {X : List (Nat × List Value)} {d : Nat} {h : pm_H} (hd : 1 ≤ d) (I : pw_I h) (b : Int) (hb1 : 0 ≤ b) (hb2 : b ≤ 1) (mo : Int) (hmo1 : 0 ≤ mo) (hmo2 : mo ≤ 11) : pw X d h 2 0 [some (.ref 23), some (pw_i b), some (pw_i mo)] [] (fun h' v => h = h' ∧ ∃ a : Int, v = .inl (some (pw_i a)) ∧ 0 ≤ a ∧ a ≤ 999 ∧ (a = pw_g h 8 (b * 12 + mo).toNat)) := by
  have E : pm_ent 2 = some (3, 3, 0, 0, pmc_2) := rfl
  refine pw_ld E (pc' := 1) (st' := [.ref 23]) rfl (fun _ => rfl) ?_
  refine pw_getR (b := 24) I E (c := 7) (k := 0) (pc' := 4) rfl rfl rfl rfl rfl rfl rfl ?_
  refine pw_ld E (pc' := 5) (st' := [pw_i b, .ref 24]) rfl (fun _ => rfl) ?_
  refine pw_bip E (pc' := 7) rfl rfl (by decide) ?_
  refine pw_mul E (pc' := 8) rfl rfl ?_
  refine pw_ld E (pc' := 9) (st' := [pw_i mo, pw_i (b * 12), .ref 24]) rfl (fun _ => rfl) ?_
  refine pw_add E (pc' := 10) rfl rfl ?_
  refine pw_ald2 I E (c := 8) (pc' := 11) rfl rfl rfl (by decide) rfl (by decide) (by omega) (by omega) rfl (fun hf1a hf1b => ?_)
  refine pw_iret E rfl ?_
  exact ⟨rfl, ⟨_, rfl, by omega, by omega, by omega⟩⟩
set_option maxHeartbeats 4000000 in
theorem cm_159_s {X : List (Nat × List Value)} {d : Nat} {h : pm_H} (hd : 2 ≤ d) (I : pw_I h) (k : Int) (hk1 : 0 ≤ k) (hk2 : k ≤ 23) (mo : Int) (hmo1 : 0 ≤ mo) (hmo2 : mo ≤ 11) : pw X d h 159 0 [some (.ref 16), some (pw_i k), some (pw_i mo)] [] (fun h' v => h = h' ∧ ∃ a : Int, v = .inl (some (pw_i a)) ∧ 0 ≤ a ∧ a ≤ 1 ∧ ((a = 1 ∧ pw_g h 5 k.toNat < pw_g h 8 (pw_g h 4 k.toNat * 12 + mo).toNat) ∨ (a = 0 ∧ ¬ (pw_g h 5 k.toNat < pw_g h 8 (pw_g h 4 k.toNat * 12 + mo).toNat)))) := by
  have E : pm_ent 159 = some (3, 3, 11, 1, pmc_159) := rfl
  refine pw_ld E (pc' := 1) (st' := [.ref 16]) rfl (fun _ => rfl) ?_
  refine pw_getR (b := 17) I E (c := 0) (k := 0) (pc' := 4) rfl rfl rfl rfl rfl rfl rfl ?_
  refine pw_ld E (pc' := 5) (st' := [pw_i k, .ref 17]) rfl (fun _ => rfl) ?_
  obtain ⟨f1l, f1h, -⟩ := pw_obj (c := 1) I rfl
  refine pw_call (m' := 64) (As := [.ref 17, pw_i k]) (rest := []) (ls'' := [some (.ref 17), some (pw_i k)]) (Nat.le_trans (by decide) hd) E rfl (fun _ => pw_iV rfl rfl rfl rfl (pw_cellI f1h rfl)) (rfl : pm_ent 64 = some (2, 2, 6, 0, pmc_64)) rfl rfl (cm_64 (pw_dp hd (by decide)) I (k) (by omega) (by omega)) ?_
  rintro u3 v2 ⟨rfl, x4, rfl, hx4a, hx4b, hx4r⟩
  refine ⟨_, rfl, ?_⟩
  show pw X d h 159 8 [some (.ref 16), some (pw_i k), some (pw_i mo)] [pw_i x4] _
  change x4 = pw_g h 5 k.toNat at hx4r
  refine pw_ld E (pc' := 9) (st' := [.ref 16, pw_i x4]) rfl (fun _ => rfl) ?_
  refine pw_getR (b := 23) I E (c := 0) (k := 1) (pc' := 12) rfl rfl rfl rfl rfl rfl rfl ?_
  refine pw_ld E (pc' := 13) (st' := [.ref 16, .ref 23, pw_i x4]) rfl (fun _ => rfl) ?_
  refine pw_getR (b := 17) I E (c := 0) (k := 0) (pc' := 16) rfl rfl rfl rfl rfl rfl rfl ?_
  refine pw_ld E (pc' := 17) (st' := [pw_i k, .ref 17, .ref 23, pw_i x4]) rfl (fun _ => rfl) ?_
  obtain ⟨f5l, f5h, -⟩ := pw_obj (c := 1) I rfl
  refine pw_call (m' := 60) (As := [.ref 17, pw_i k]) (rest := [.ref 23, pw_i x4]) (ls'' := [some (.ref 17), some (pw_i k)]) (Nat.le_trans (by decide) hd) E rfl (fun _ => pw_iV rfl rfl rfl rfl (pw_cellI f5h rfl)) (rfl : pm_ent 60 = some (2, 2, 6, 0, pmc_60)) rfl rfl (cm_60 (pw_dp hd (by decide)) I (k) (by omega) (by omega)) ?_
  rintro u7 v6 ⟨rfl, x8, rfl, hx8a, hx8b, hx8r⟩
  refine ⟨_, rfl, ?_⟩
  show pw X d h 159 20 [some (.ref 16), some (pw_i k), some (pw_i mo)] [pw_i x8, .ref 23, pw_i x4] _
  change x8 = pw_g h 4 k.toNat at hx8r
  refine pw_ld E (pc' := 21) (st' := [pw_i mo, pw_i x8, .ref 23, pw_i x4]) rfl (fun _ => rfl) ?_
  obtain ⟨f9l, f9h, -⟩ := pw_obj (c := 7) I rfl
  refine pw_call (m' := 2) (As := [.ref 23, pw_i x8, pw_i mo]) (rest := [pw_i x4]) (ls'' := [some (.ref 23), some (pw_i x8), some (pw_i mo)]) (Nat.le_trans (by decide) hd) E rfl (fun _ => pw_iV rfl rfl rfl rfl (pw_cellI f9h rfl)) (rfl : pm_ent 2 = some (3, 3, 0, 0, pmc_2)) rfl rfl (cm_2_s (pw_dp hd (by decide)) I (x8) (by omega) (by omega) (mo) (by omega) (by omega)) ?_
  rintro u11 v10 ⟨rfl, x12, rfl, hx12a, hx12b, hx12r⟩
  refine ⟨_, rfl, ?_⟩
  show pw X d h 159 24 [some (.ref 16), some (pw_i k), some (pw_i mo)] [pw_i x12, pw_i x4] _
  change x12 = pw_g h 8 (x8 * 12 + mo).toNat at hx12r
  refine pw_if2 E (pc' := 31) rfl (by decide) (by omega) (by omega) (by omega) (by omega) ?_ ?_
  · intro hc13
    change x12 ≤ x4 at hc13
    refine pw_ld E (pc' := 32) (st' := [pw_i 0]) rfl (fun _ => rfl) ?_
    rw [hx8r] at hx12r
    refine pw_zret E rfl (by omega) ?_
    exact ⟨rfl, ⟨_, rfl, by omega, by omega, by omega⟩⟩
  · intro hc14
    change ¬ (x12 ≤ x4) at hc14
    refine pw_ld E (pc' := 28) (st' := [pw_i 1]) rfl (fun _ => rfl) ?_
    refine pw_goto E (pc' := 32) rfl (by decide) ?_
    rw [hx8r] at hx12r
    refine pw_zret E rfl (by omega) ?_
    exact ⟨rfl, ⟨_, rfl, by omega, by omega, by omega⟩⟩
set_option maxHeartbeats 4000000 in
theorem cm_179_s {X : List (Nat × List Value)} {d : Nat} {h : pm_H} (hd : 4 ≤ d) (I : pw_I h) (b : Int) (hb1 : (-2147483648) ≤ b) (hb2 : b ≤ 2147483647) (e : Int) (he1 : (-2147483648) ≤ e) (he2 : e ≤ 2147483647) (wt : Int) (hwt1 : (-2147483648) ≤ wt) (hwt2 : wt ≤ 2147483647) : pw X d h 179 0 [some (.ref 16), some (pw_i b), some (pw_i e), some (pw_i wt), none] [] (fun h' v => pw_I h' ∧ pw_E [17, 18, 22] h h' ∧ ((v = .inr () ∧ (¬ (0 ≤ b ∧ b ≤ 11 ∧ 0 ≤ e ∧ e ≤ 11 ∧ b ≠ e ∧ 0 ≤ wt ∧ wt ≤ 1) ∨ ¬ pv_OK (pv_sde h b e))) ∨ (∃ a : Int, v = .inl (some (.long (Int64.ofInt a))) ∧ (-1099511627776) ≤ a ∧ a ≤ 1099511627776 ∧ ((0 ≤ b ∧ b ≤ 11 ∧ 0 ≤ e ∧ e ≤ 11 ∧ b ≠ e ∧ 0 ≤ wt ∧ wt ≤ 1) ∧ pv_OK (pv_sde h b e) ∧ a = pv_LW (pv_U (pv_sde h b e) (pv_chc h b e)) (pv_D (pv_sde h b e)) wt)))) := by
  have E : pm_ent 179 = some (4, 5, 11, 2, pmc_179) := rfl
  have E0 : pw_E [17, 18, 22] h h := pw_E.rf _ _
  refine pw_ld E (pc' := 1) (st' := [pw_i b]) rfl (fun _ => rfl) ?_
  refine pw_ld E (pc' := 2) (st' := [pw_i e, pw_i b]) rfl (fun _ => rfl) ?_
  refine pw_call (m' := 131) (As := [pw_i b, pw_i e]) (rest := []) (ls'' := [some (pw_i b), some (pw_i e)]) (Nat.le_trans (by decide) hd) E rfl (fun _ => pw_iS rfl rfl rfl) (rfl : pm_ent 131 = some (2, 2, 11, 1, pmc_131)) rfl rfl (cm_131_s (pw_dp hd (by decide)) I (b) (by omega) (by omega) (e) (by omega) (by omega)) ?_
  rintro u2 v1 ⟨rfl, x3, rfl, hx3a, hx3b, hx3r⟩
  refine ⟨_, rfl, ?_⟩
  show pw X d h 179 5 [some (.ref 16), some (pw_i b), some (pw_i e), some (pw_i wt), none] [pw_i x3] _
  change (x3 = 1 ∧ 0 ≤ b ∧ b ≤ 11 ∧ 0 ≤ e ∧ e ≤ 11 ∧ b ≠ e) ∨ (x3 = 0 ∧ ¬ (0 ≤ b ∧ b ≤ 11 ∧ 0 ≤ e ∧ e ≤ 11 ∧ b ≠ e)) at hx3r
  rcases (by omega : x3 = 1 ∨ x3 = 0) with hb4 | hb4
  · skip
    refine pw_if E (pc' := 15) rfl (by decide) (by omega) (by omega) ?_ ?_
    · intro hc5
      change x3 = (0 : Int) at hc5
      exfalso; omega
    · intro hc6
      change ¬ (x3 = (0 : Int)) at hc6
      refine pw_ld E (pc' := 9) (st' := [pw_i wt]) rfl (fun _ => rfl) ?_
      refine pw_call (m' := 137) (As := [pw_i wt]) (rest := []) (ls'' := [some (pw_i wt)]) (Nat.le_trans (by decide) hd) E rfl (fun _ => pw_iS rfl rfl rfl) (rfl : pm_ent 137 = some (1, 1, 11, 1, pmc_137)) rfl rfl (cm_137 (pw_dp hd (by decide)) I (wt) (by omega) (by omega)) ?_
      rintro u8 v7 ⟨rfl, x9, rfl, hx9a, hx9b, hx9r⟩
      refine ⟨_, rfl, ?_⟩
      show pw X d h 179 12 [some (.ref 16), some (pw_i b), some (pw_i e), some (pw_i wt), none] [pw_i x9] _
      change (x9 = 1 ∧ 0 ≤ wt ∧ wt ≤ 1) ∨ (x9 = 0 ∧ ¬ (0 ≤ wt ∧ wt ≤ 1)) at hx9r
      rcases (by omega : x9 = 1 ∨ x9 = 0) with hb10 | hb10
      · skip
        refine pw_if E (pc' := 23) rfl (by decide) (by omega) (by omega) ?_ ?_
        · intro hc11
          change x9 ≠ (0 : Int) at hc11
          refine pw_ld E (pc' := 24) (st' := [.ref 16]) rfl (fun _ => rfl) ?_
          refine pw_getR (b := 32) I E (c := 0) (k := 7) (pc' := 27) rfl rfl rfl rfl rfl rfl rfl ?_
          obtain ⟨f12l, f12h, -⟩ := pw_obj (c := 16) I rfl
          refine pw_call (m' := 81) (As := [.ref 32]) (rest := []) (ls'' := [some (.ref 32)]) (Nat.le_trans (by decide) hd) E rfl (fun _ => pw_iV rfl rfl rfl rfl (pw_cellI f12h rfl)) (rfl : pm_ent 81 = some (1, 1, 8, 4, pmc_81)) rfl rfl (cm_81_s (pw_dp hd (by decide)) I ) ?_
          rintro h13 v14 ⟨h13I, h13E, hqclear, rfl⟩
          refine ⟨_, rfl, ?_⟩
          have h13F := E0.tr (h13E.wk (W' := [17, 18, 22]) (by first | rfl | simp))
          show pw X d h13 179 30 [some (.ref 16), some (pw_i b), some (pw_i e), some (pw_i wt), none] [] _
          refine pw_ld E (pc' := 31) (st' := [pw_i 0]) rfl (fun _ => rfl) ?_
          refine pw_ist E (pc' := 33) (ls' := [some (.ref 16), some (pw_i b), some (pw_i e), some (pw_i wt), some (pw_i 0)]) rfl rfl rfl rfl ?_
          have L33 : ∀ (n33 : Nat) (k33_4 : Int) (gh33 : pm_H), pw_I gh33 → pw_E [17, 18, 22] h gh33 → 0 ≤ k33_4 → k33_4 ≤ 24 → pv_FL gh33 (pv_sde h b e) (pv_chc h b e) k33_4 → (24 - k33_4).toNat = n33 → pw X d gh33 179 33 [some (.ref 16), some (pw_i b), some (pw_i e), some (pw_i wt), some (pw_i k33_4)] [] (fun h' v => pw_I h' ∧ pw_E [17, 18, 22] h h' ∧ ((v = .inr () ∧ (¬ (0 ≤ b ∧ b ≤ 11 ∧ 0 ≤ e ∧ e ≤ 11 ∧ b ≠ e ∧ 0 ≤ wt ∧ wt ≤ 1) ∨ ¬ pv_OK (pv_sde h b e))) ∨ (∃ a : Int, v = .inl (some (.long (Int64.ofInt a))) ∧ (-1099511627776) ≤ a ∧ a ≤ 1099511627776 ∧ ((0 ≤ b ∧ b ≤ 11 ∧ 0 ≤ e ∧ e ≤ 11 ∧ b ≠ e ∧ 0 ≤ wt ∧ wt ≤ 1) ∧ pv_OK (pv_sde h b e) ∧ a = pv_LW (pv_U (pv_sde h b e) (pv_chc h b e)) (pv_D (pv_sde h b e)) wt)))) := by
            intro n33
            induction n33 using Nat.strongRecOn with
            | ind n33 ih33 =>
              intro k33_4 gh33 I33 E33 k33_4a k33_4b hx33_0 hm33
              refine pw_ld E (pc' := 35) (st' := [pw_i k33_4]) rfl (fun _ => rfl) ?_
              refine pw_bip E (pc' := 37) rfl rfl (by decide) ?_
              refine pw_if2 E (pc' := 112) rfl (by decide) (by omega) (by omega) (by decide) (by decide) ?_ ?_
              · intro hc15
                change (24 : Int) ≤ k33_4 at hc15
                have hFL : pv_FL gh33 (pv_sde h b e) (pv_chc h b e) 24 := by rw [show (24 : Int) = k33_4 by omega]; exact hx33_0
                have hB : pv_Bd gh33 := hFL.bd (pv_chcB I (by omega) (by omega) (by omega) (by omega))
                refine pw_ld E (pc' := 113) (st' := [.ref 16]) rfl (fun _ => rfl) ?_
                refine pw_getR (b := 32) I33 E (c := 0) (k := 7) (pc' := 116) rfl rfl rfl rfl rfl rfl rfl ?_
                refine pw_ld E (pc' := 117) (st' := [.ref 16, .ref 32]) rfl (fun _ => rfl) ?_
                refine pw_getR (b := 38) I33 E (c := 0) (k := 8) (pc' := 120) rfl rfl rfl rfl rfl rfl rfl ?_
                obtain ⟨f16l, f16h, -⟩ := pw_obj (c := 16) I33 rfl
                refine pw_call (m' := 83) (As := [.ref 32, .ref 38]) (rest := []) (ls'' := [some (.ref 32), some (.ref 38), none, none, none, none]) (Nat.le_trans (by decide) hd) E rfl (fun _ => pw_iV rfl rfl rfl rfl (pw_cellI f16h rfl)) (rfl : pm_ent 83 = some (2, 6, 8, 1, pmc_83)) rfl rfl (cm_83_22s (pw_dp hd (by decide)) I33 hB) ?_
                rintro h17 v18 ⟨h17I, h17E, x19, rfl, hx19a, hx19b, hx19r⟩
                refine ⟨_, rfl, ?_⟩
                have h17F := E33.tr (h17E.wk (W' := [17, 18, 22]) (by first | rfl | simp))
                show pw X d h17 179 123 [some (.ref 16), some (pw_i b), some (pw_i e), some (pw_i wt), some (pw_i k33_4)] [pw_i x19] _
                change (x19 = 0 ∧ ¬ pv_OK (pw_g gh33 17)) ∨ (x19 = 1 ∧ pv_OK (pw_g gh33 17) ∧ pw_gm h17 22 0 = Int.tdiv (pv_U (pw_g gh33 17) (pw_g gh33 18)) (pw_gd (pv_U (pw_g gh33 17) (pw_g gh33 18)) (pv_D (pw_g gh33 17))) ∧ pw_gm h17 22 1 = Int.tdiv (pv_D (pw_g gh33 17)) (pw_gd (pv_U (pw_g gh33 17) (pw_g gh33 18)) (pv_D (pw_g gh33 17)))) at hx19r
                rcases (by omega : x19 = 1 ∨ x19 = 0) with hb20 | hb20
                · skip
                  refine pw_if E (pc' := 134) rfl (by decide) (by omega) (by omega) ?_ ?_
                  · intro hc21
                    change x19 ≠ (0 : Int) at hc21
                    obtain ⟨-, hok0, hm0, hm1⟩ := hx19r.resolve_left (fun q => by have := q.1; omega)
                    have hok : pv_OK (pv_sde h b e) := hFL.eq.2.2.1.mp hok0
                    rw [hFL.eq.1, hFL.eq.2.1] at hm0 hm1
                    have htd := pv_tdUB (sd := pv_sde h b e) (ch := pv_chc h b e) (pv_chcB I (by omega) (by omega) (by omega) (by omega)) hok
                    refine pw_ld E (pc' := 135) (st' := [.ref 16]) rfl (fun _ => rfl) ?_
                    refine pw_getR (b := 38) h17I E (c := 0) (k := 8) (pc' := 138) rfl rfl rfl rfl rfl rfl rfl ?_
                    refine pw_ld E (pc' := 139) (st' := [pw_i wt, .ref 38]) rfl (fun _ => rfl) ?_
                    obtain ⟨f22l, f22h, -⟩ := pw_obj (c := 22) h17I rfl
                    refine pw_call (m' := 9) (As := [.ref 38, pw_i wt]) (rest := []) (ls'' := [some (.ref 38), some (pw_i wt)]) (Nat.le_trans (by decide) hd) E rfl (fun _ => pw_iV rfl rfl rfl rfl (pw_cellI f22h rfl)) (rfl : pm_ent 9 = some (2, 2, 1, 2, pmc_9)) rfl rfl (cm_9_22g (pw_dp hd (by decide)) h17I (wt) (by omega) (by omega) (by omega) (by omega) (by omega) (by omega)) ?_
                    rintro u24 v23 ⟨rfl, x25, rfl, hx25a, hx25b, hx25r⟩
                    refine ⟨_, rfl, ?_⟩
                    show pw X d h17 179 142 [some (.ref 16), some (pw_i b), some (pw_i e), some (pw_i wt), some (pw_i k33_4)] [.long (Int64.ofInt x25)] _
                    change (wt = 0 → x25 = pw_gm h17 22 0) ∧ (wt ≠ 0 → x25 = pw_gm h17 22 1) at hx25r
                    refine pw_lret E rfl ?_
                    exact ⟨h17I, h17F, Or.inr ⟨_, rfl, by omega, by omega, by omega, hok, (pv_pick hm0 hm1 hx25r)⟩⟩
                  · intro hc26
                    change ¬ (x19 ≠ (0 : Int)) at hc26
                    exfalso; omega
                · skip
                  refine pw_if E (pc' := 134) rfl (by decide) (by omega) (by omega) ?_ ?_
                  · intro hc28
                    change x19 ≠ (0 : Int) at hc28
                    exfalso; omega
                  · intro hc29
                    change ¬ (x19 ≠ (0 : Int)) at hc29
                    refine pw_thr E rfl rfl h17I.2 ?_
                    exact ⟨h17I, h17F, Or.inl ⟨rfl, Or.inr (fun q => (hx19r.resolve_right (fun q => by have := q.1; omega)).2 (hFL.eq.2.2.1.mpr q))⟩⟩
              · intro hc30
                change ¬ ((24 : Int) ≤ k33_4) at hc30
                have o1 := pv_sde_I (h := h) (b := b) (e := e) (k := k33_4) (by omega)
                have oi := pv_iteI (p := pw_g h 5 (k33_4).toNat < pw_g h 8 e.toNat) (x := 0) (y := 1)
                have q2 : pw_g gh33 2 (k33_4).toNat = pw_g h 2 (k33_4).toNat := pw_Eg (c := 2) I E33 rfl rfl _
                have q4 : pw_g gh33 4 (k33_4).toNat = pw_g h 4 (k33_4).toNat := pw_Eg (c := 4) I E33 rfl rfl _
                have q5 : pw_g gh33 5 (k33_4).toNat = pw_g h 5 (k33_4).toNat := pw_Eg (c := 5) I E33 rfl rfl _
                have q8 : pw_g gh33 8 e.toNat = pw_g h 8 e.toNat := pw_Eg (c := 8) I E33 rfl rfl _
                have qb : pw_g gh33 11 (k33_4 * 12 + b).toNat = pw_g h 11 (k33_4 * 12 + b).toNat := pw_Eg (c := 11) I E33 rfl rfl _
                have qe : pw_g gh33 11 (k33_4 * 12 + e).toNat = pw_g h 11 (k33_4 * 12 + e).toNat := pw_Eg (c := 11) I E33 rfl rfl _
                have q6 : pw_g gh33 0 6 = pw_g h 0 6 := pw_Eg (c := 0) I E33 rfl rfl _
                refine pw_ld E (pc' := 41) (st' := [.ref 16]) rfl (fun _ => rfl) ?_
                refine pw_getR (b := 17) I33 E (c := 0) (k := 0) (pc' := 44) rfl rfl rfl rfl rfl rfl rfl ?_
                refine pw_ld E (pc' := 46) (st' := [pw_i k33_4, .ref 17]) rfl (fun _ => rfl) ?_
                refine pw_ld E (pc' := 47) (st' := [pw_i 0, pw_i k33_4, .ref 17]) rfl (fun _ => rfl) ?_
                obtain ⟨f31l, f31h, -⟩ := pw_obj (c := 1) I33 rfl
                refine pw_call (m' := 63) (As := [.ref 17, pw_i k33_4, pw_i 0]) (rest := []) (ls'' := [some (.ref 17), some (pw_i k33_4), some (pw_i 0)]) (Nat.le_trans (by decide) hd) E rfl (fun _ => pw_iV rfl rfl rfl rfl (pw_cellI f31h rfl)) (rfl : pm_ent 63 = some (3, 3, 6, 1, pmc_63)) rfl rfl (cm_63_s (pw_dp hd (by decide)) I33 (k33_4) (by omega) (by omega) (0) (by omega) (by omega)) ?_
                rintro u33 v32 ⟨rfl, x34, rfl, hx34a, hx34b, hx34r⟩
                refine ⟨_, rfl, ?_⟩
                show pw X d gh33 179 50 [some (.ref 16), some (pw_i b), some (pw_i e), some (pw_i wt), some (pw_i k33_4)] [pw_i x34] _
                change (x34 = 1 ∧ pw_g gh33 2 k33_4.toNat = 1 ∧ pw_g gh33 4 k33_4.toNat = 0) ∨ (x34 = 0 ∧ ¬ (pw_g gh33 2 k33_4.toNat = 1 ∧ pw_g gh33 4 k33_4.toNat = 0)) at hx34r
                rcases (by omega : x34 = 1 ∨ x34 = 0) with hb35 | hb35
                · skip
                  refine pw_if E (pc' := 106) rfl (by decide) (by omega) (by omega) ?_ ?_
                  · intro hc36
                    change x34 = (0 : Int) at hc36
                    exfalso; omega
                  · intro hc37
                    change ¬ (x34 = (0 : Int)) at hc37
                    refine pw_ld E (pc' := 54) (st' := [.ref 16]) rfl (fun _ => rfl) ?_
                    refine pw_getR (b := 26) I33 E (c := 0) (k := 2) (pc' := 57) rfl rfl rfl rfl rfl rfl rfl ?_
                    refine pw_ld E (pc' := 59) (st' := [pw_i k33_4, .ref 26]) rfl (fun _ => rfl) ?_
                    refine pw_ld E (pc' := 60) (st' := [pw_i b, pw_i k33_4, .ref 26]) rfl (fun _ => rfl) ?_
                    refine pw_ld E (pc' := 61) (st' := [pw_i e, pw_i b, pw_i k33_4, .ref 26]) rfl (fun _ => rfl) ?_
                    obtain ⟨f38l, f38h, -⟩ := pw_obj (c := 10) I33 rfl
                    refine pw_call (m' := 23) (As := [.ref 26, pw_i k33_4, pw_i b, pw_i e]) (rest := []) (ls'' := [some (.ref 26), some (pw_i k33_4), some (pw_i b), some (pw_i e)]) (Nat.le_trans (by decide) hd) E rfl (fun _ => pw_iV rfl rfl rfl rfl (pw_cellI f38h rfl)) (rfl : pm_ent 23 = some (4, 4, 2, 1, pmc_23)) rfl rfl (cm_23_10s (pw_dp hd (by decide)) I33 (k33_4) (by omega) (by omega) (b) (by omega) (by omega) (e) (by omega) (by omega)) ?_
                    rintro u40 v39 ⟨rfl, x41, rfl, hx41a, hx41b, hx41r⟩
                    refine ⟨_, rfl, ?_⟩
                    show pw X d gh33 179 64 [some (.ref 16), some (pw_i b), some (pw_i e), some (pw_i wt), some (pw_i k33_4)] [pw_i x41] _
                    change (x41 = 1 ∧ pw_g gh33 11 (k33_4 * 12 + b).toNat ≠ -2 ∧ pw_g gh33 11 (k33_4 * 12 + e).toNat ≠ -2) ∨ (x41 = 0 ∧ ¬ (pw_g gh33 11 (k33_4 * 12 + b).toNat ≠ -2 ∧ pw_g gh33 11 (k33_4 * 12 + e).toNat ≠ -2)) at hx41r
                    rcases (by omega : x41 = 1 ∨ x41 = 0) with hb42 | hb42
                    · skip
                      refine pw_if E (pc' := 106) rfl (by decide) (by omega) (by omega) ?_ ?_
                      · intro hc43
                        change x41 = (0 : Int) at hc43
                        exfalso; omega
                      · intro hc44
                        change ¬ (x41 = (0 : Int)) at hc44
                        refine pw_ld E (pc' := 68) (st' := [.ref 16]) rfl (fun _ => rfl) ?_
                        refine pw_getR (b := 32) I33 E (c := 0) (k := 7) (pc' := 71) rfl rfl rfl rfl rfl rfl rfl ?_
                        refine pw_ld E (pc' := 73) (st' := [pw_i k33_4, .ref 32]) rfl (fun _ => rfl) ?_
                        refine pw_ld E (pc' := 74) (st' := [.ref 16, pw_i k33_4, .ref 32]) rfl (fun _ => rfl) ?_
                        refine pw_ld E (pc' := 76) (st' := [pw_i k33_4, .ref 16, pw_i k33_4, .ref 32]) rfl (fun _ => rfl) ?_
                        refine pw_ld E (pc' := 77) (st' := [pw_i e, pw_i k33_4, .ref 16, pw_i k33_4, .ref 32]) rfl (fun _ => rfl) ?_
                        obtain ⟨f45l, f45h, -⟩ := pw_obj (c := 0) I33 rfl
                        refine pw_call (m' := 159) (As := [.ref 16, pw_i k33_4, pw_i e]) (rest := [pw_i k33_4, .ref 32]) (ls'' := [some (.ref 16), some (pw_i k33_4), some (pw_i e)]) (Nat.le_trans (by decide) hd) E rfl (fun _ => pw_iV rfl rfl rfl rfl (pw_cellI f45h rfl)) (rfl : pm_ent 159 = some (3, 3, 11, 1, pmc_159)) rfl rfl (cm_159_s (pw_dp hd (by decide)) I33 (k33_4) (by omega) (by omega) (e) (by omega) (by omega)) ?_
                        rintro u47 v46 ⟨rfl, x48, rfl, hx48a, hx48b, hx48r⟩
                        refine ⟨_, rfl, ?_⟩
                        show pw X d gh33 179 80 [some (.ref 16), some (pw_i b), some (pw_i e), some (pw_i wt), some (pw_i k33_4)] [pw_i x48, pw_i k33_4, .ref 32] _
                        change (x48 = 1 ∧ pw_g gh33 5 k33_4.toNat < pw_g gh33 8 (pw_g gh33 4 k33_4.toNat * 12 + e).toNat) ∨ (x48 = 0 ∧ ¬ (pw_g gh33 5 k33_4.toNat < pw_g gh33 8 (pw_g gh33 4 k33_4.toNat * 12 + e).toNat)) at hx48r
                        rcases (by omega : x48 = 1 ∨ x48 = 0) with hb49 | hb49
                        · skip
                          refine pw_if E (pc' := 87) rfl (by decide) (by omega) (by omega) ?_ ?_
                          · intro hc50
                            change x48 = (0 : Int) at hc50
                            exfalso; omega
                          · intro hc51
                            change ¬ (x48 = (0 : Int)) at hc51
                            refine pw_ld E (pc' := 84) (st' := [pw_i 0, pw_i k33_4, .ref 32]) rfl (fun _ => rfl) ?_
                            refine pw_goto E (pc' := 88) rfl (by decide) ?_
                            refine pw_ld E (pc' := 89) (st' := [.ref 16, pw_i 0, pw_i k33_4, .ref 32]) rfl (fun _ => rfl) ?_
                            refine pw_getR (b := 26) I33 E (c := 0) (k := 2) (pc' := 92) rfl rfl rfl rfl rfl rfl rfl ?_
                            refine pw_ld E (pc' := 94) (st' := [pw_i k33_4, .ref 26, pw_i 0, pw_i k33_4, .ref 32]) rfl (fun _ => rfl) ?_
                            refine pw_ld E (pc' := 95) (st' := [pw_i b, pw_i k33_4, .ref 26, pw_i 0, pw_i k33_4, .ref 32]) rfl (fun _ => rfl) ?_
                            refine pw_ld E (pc' := 96) (st' := [pw_i e, pw_i b, pw_i k33_4, .ref 26, pw_i 0, pw_i k33_4, .ref 32]) rfl (fun _ => rfl) ?_
                            refine pw_ld E (pc' := 97) (st' := [.ref 16, pw_i e, pw_i b, pw_i k33_4, .ref 26, pw_i 0, pw_i k33_4, .ref 32]) rfl (fun _ => rfl) ?_
                            refine pw_getI2 I33 E (c := 0) (k := 6) (pc' := 100) rfl rfl rfl rfl rfl rfl (fun hf52a hf52b => ?_)
                            obtain ⟨f53l, f53h, -⟩ := pw_obj (c := 10) I33 rfl
                            refine pw_call (m' := 24) (As := [.ref 26, pw_i k33_4, pw_i b, pw_i e, pw_i (pw_g gh33 0 6)]) (rest := [pw_i 0, pw_i k33_4, .ref 32]) (ls'' := [some (.ref 26), some (pw_i k33_4), some (pw_i b), some (pw_i e), some (pw_i (pw_g gh33 0 6))]) (Nat.le_trans (by decide) hd) E rfl (fun _ => pw_iV rfl rfl rfl rfl (pw_cellI f53h rfl)) (rfl : pm_ent 24 = some (5, 5, 2, 0, pmc_24)) rfl rfl (cm_24_10s (pw_dp hd (by decide)) I33 (k33_4) (by omega) (by omega) (b) (by omega) (by omega) (e) (by omega) (by omega) (pw_g gh33 0 6) (by omega) (by omega)) ?_
                            rintro u55 v54 ⟨rfl, x56, rfl, hx56a, hx56b, hx56r⟩
                            refine ⟨_, rfl, ?_⟩
                            show pw X d gh33 179 103 [some (.ref 16), some (pw_i b), some (pw_i e), some (pw_i wt), some (pw_i k33_4)] [pw_i x56, pw_i 0, pw_i k33_4, .ref 32] _
                            change x56 = pw_hc (pw_g gh33 11 (k33_4 * 12 + e).toNat) (pw_g gh33 0 6) - pw_hc (pw_g gh33 11 (k33_4 * 12 + b).toNat) (pw_g gh33 0 6) at hx56r
                            have hch : pv_chc h b e (k33_4).toNat = x56 := by rw [hx56r, qb, qe, q6]; exact pv_chcI (by omega)
                            rw [show (pw_g gh33 4 (k33_4).toNat * 12 + e).toNat = e.toNat by omega] at hx48r
                            obtain ⟨f57l, f57h, -⟩ := pw_obj (c := 16) I33 rfl
                            refine pw_call (m' := 82) (As := [.ref 32, pw_i k33_4, pw_i 0, pw_i x56]) (rest := []) (ls'' := [some (.ref 32), some (pw_i k33_4), some (pw_i 0), some (pw_i x56)]) (Nat.le_trans (by decide) hd) E rfl (fun _ => pw_iV rfl rfl rfl rfl (pw_cellI f57h rfl)) (rfl : pm_ent 82 = some (4, 4, 8, 4, pmc_82)) rfl rfl (cm_82_s (pw_dp hd (by decide)) I33 (k33_4) (by omega) (by omega) (0) (by omega) (by omega) (x56) (by omega) (by omega)) ?_
                            rintro h58 v59 ⟨h58I, h58E, hqput, rfl⟩
                            refine ⟨_, rfl, ?_⟩
                            have h58F := E33.tr (h58E.wk (W' := [17, 18, 22]) (by first | rfl | simp))
                            show pw X d h58 179 106 [some (.ref 16), some (pw_i b), some (pw_i e), some (pw_i wt), some (pw_i k33_4)] [] _
                            refine pw_inc E (pc' := 109) (ls' := [some (.ref 16), some (pw_i b), some (pw_i e), some (pw_i wt), some (pw_i (k33_4 + 1))]) rfl rfl rfl rfl ?_
                            refine pw_goto E (pc' := 33) rfl (by decide) ?_
                            exact ih33 _ (by omega) (k33_4 + 1) h58 h58I h58F (by omega) (by omega) (by first | exact pv_FL.yes hx33_0 (by omega) hqput.1 hqput.2 (by omega) hch | exact pv_FL.no hx33_0 (by omega) (by omega)) rfl
                        · skip
                          refine pw_if E (pc' := 87) rfl (by decide) (by omega) (by omega) ?_ ?_
                          · intro hc61
                            change x48 = (0 : Int) at hc61
                            refine pw_ld E (pc' := 88) (st' := [pw_i 1, pw_i k33_4, .ref 32]) rfl (fun _ => rfl) ?_
                            refine pw_ld E (pc' := 89) (st' := [.ref 16, pw_i 1, pw_i k33_4, .ref 32]) rfl (fun _ => rfl) ?_
                            refine pw_getR (b := 26) I33 E (c := 0) (k := 2) (pc' := 92) rfl rfl rfl rfl rfl rfl rfl ?_
                            refine pw_ld E (pc' := 94) (st' := [pw_i k33_4, .ref 26, pw_i 1, pw_i k33_4, .ref 32]) rfl (fun _ => rfl) ?_
                            refine pw_ld E (pc' := 95) (st' := [pw_i b, pw_i k33_4, .ref 26, pw_i 1, pw_i k33_4, .ref 32]) rfl (fun _ => rfl) ?_
                            refine pw_ld E (pc' := 96) (st' := [pw_i e, pw_i b, pw_i k33_4, .ref 26, pw_i 1, pw_i k33_4, .ref 32]) rfl (fun _ => rfl) ?_
                            refine pw_ld E (pc' := 97) (st' := [.ref 16, pw_i e, pw_i b, pw_i k33_4, .ref 26, pw_i 1, pw_i k33_4, .ref 32]) rfl (fun _ => rfl) ?_
                            refine pw_getI2 I33 E (c := 0) (k := 6) (pc' := 100) rfl rfl rfl rfl rfl rfl (fun hf62a hf62b => ?_)
                            obtain ⟨f63l, f63h, -⟩ := pw_obj (c := 10) I33 rfl
                            refine pw_call (m' := 24) (As := [.ref 26, pw_i k33_4, pw_i b, pw_i e, pw_i (pw_g gh33 0 6)]) (rest := [pw_i 1, pw_i k33_4, .ref 32]) (ls'' := [some (.ref 26), some (pw_i k33_4), some (pw_i b), some (pw_i e), some (pw_i (pw_g gh33 0 6))]) (Nat.le_trans (by decide) hd) E rfl (fun _ => pw_iV rfl rfl rfl rfl (pw_cellI f63h rfl)) (rfl : pm_ent 24 = some (5, 5, 2, 0, pmc_24)) rfl rfl (cm_24_10s (pw_dp hd (by decide)) I33 (k33_4) (by omega) (by omega) (b) (by omega) (by omega) (e) (by omega) (by omega) (pw_g gh33 0 6) (by omega) (by omega)) ?_
                            rintro u65 v64 ⟨rfl, x66, rfl, hx66a, hx66b, hx66r⟩
                            refine ⟨_, rfl, ?_⟩
                            show pw X d gh33 179 103 [some (.ref 16), some (pw_i b), some (pw_i e), some (pw_i wt), some (pw_i k33_4)] [pw_i x66, pw_i 1, pw_i k33_4, .ref 32] _
                            change x66 = pw_hc (pw_g gh33 11 (k33_4 * 12 + e).toNat) (pw_g gh33 0 6) - pw_hc (pw_g gh33 11 (k33_4 * 12 + b).toNat) (pw_g gh33 0 6) at hx66r
                            have hch : pv_chc h b e (k33_4).toNat = x66 := by rw [hx66r, qb, qe, q6]; exact pv_chcI (by omega)
                            rw [show (pw_g gh33 4 (k33_4).toNat * 12 + e).toNat = e.toNat by omega] at hx48r
                            obtain ⟨f67l, f67h, -⟩ := pw_obj (c := 16) I33 rfl
                            refine pw_call (m' := 82) (As := [.ref 32, pw_i k33_4, pw_i 1, pw_i x66]) (rest := []) (ls'' := [some (.ref 32), some (pw_i k33_4), some (pw_i 1), some (pw_i x66)]) (Nat.le_trans (by decide) hd) E rfl (fun _ => pw_iV rfl rfl rfl rfl (pw_cellI f67h rfl)) (rfl : pm_ent 82 = some (4, 4, 8, 4, pmc_82)) rfl rfl (cm_82_s (pw_dp hd (by decide)) I33 (k33_4) (by omega) (by omega) (1) (by omega) (by omega) (x66) (by omega) (by omega)) ?_
                            rintro h68 v69 ⟨h68I, h68E, hqput, rfl⟩
                            refine ⟨_, rfl, ?_⟩
                            have h68F := E33.tr (h68E.wk (W' := [17, 18, 22]) (by first | rfl | simp))
                            show pw X d h68 179 106 [some (.ref 16), some (pw_i b), some (pw_i e), some (pw_i wt), some (pw_i k33_4)] [] _
                            refine pw_inc E (pc' := 109) (ls' := [some (.ref 16), some (pw_i b), some (pw_i e), some (pw_i wt), some (pw_i (k33_4 + 1))]) rfl rfl rfl rfl ?_
                            refine pw_goto E (pc' := 33) rfl (by decide) ?_
                            exact ih33 _ (by omega) (k33_4 + 1) h68 h68I h68F (by omega) (by omega) (by first | exact pv_FL.yes hx33_0 (by omega) hqput.1 hqput.2 (by omega) hch | exact pv_FL.no hx33_0 (by omega) (by omega)) rfl
                          · intro hc70
                            change ¬ (x48 = (0 : Int)) at hc70
                            exfalso; omega
                    · skip
                      refine pw_if E (pc' := 106) rfl (by decide) (by omega) (by omega) ?_ ?_
                      · intro hc72
                        change x41 = (0 : Int) at hc72
                        refine pw_inc E (pc' := 109) (ls' := [some (.ref 16), some (pw_i b), some (pw_i e), some (pw_i wt), some (pw_i (k33_4 + 1))]) rfl rfl rfl rfl ?_
                        refine pw_goto E (pc' := 33) rfl (by decide) ?_
                        exact ih33 _ (by omega) (k33_4 + 1) gh33 I33 E33 (by omega) (by omega) (by first | exact pv_FL.yes hx33_0 (by omega) hqput.1 hqput.2 (by omega) hch | exact pv_FL.no hx33_0 (by omega) (by omega)) rfl
                      · intro hc73
                        change ¬ (x41 = (0 : Int)) at hc73
                        exfalso; omega
                · skip
                  refine pw_if E (pc' := 106) rfl (by decide) (by omega) (by omega) ?_ ?_
                  · intro hc75
                    change x34 = (0 : Int) at hc75
                    refine pw_inc E (pc' := 109) (ls' := [some (.ref 16), some (pw_i b), some (pw_i e), some (pw_i wt), some (pw_i (k33_4 + 1))]) rfl rfl rfl rfl ?_
                    refine pw_goto E (pc' := 33) rfl (by decide) ?_
                    exact ih33 _ (by omega) (k33_4 + 1) gh33 I33 E33 (by omega) (by omega) (by first | exact pv_FL.yes hx33_0 (by omega) hqput.1 hqput.2 (by omega) hch | exact pv_FL.no hx33_0 (by omega) (by omega)) rfl
                  · intro hc76
                    change ¬ (x34 = (0 : Int)) at hc76
                    exfalso; omega
          exact L33 _ (0) h13 h13I h13F (by omega) (by omega) (pv_FL.z hqclear) rfl
        · intro hc77
          change ¬ (x9 ≠ (0 : Int)) at hc77
          exfalso; omega
      · skip
        refine pw_if E (pc' := 23) rfl (by decide) (by omega) (by omega) ?_ ?_
        · intro hc79
          change x9 ≠ (0 : Int) at hc79
          exfalso; omega
        · intro hc80
          change ¬ (x9 ≠ (0 : Int)) at hc80
          refine pw_thr E rfl rfl I.2 ?_
          exact ⟨I, E0, Or.inl ⟨rfl, Or.inl (by omega)⟩⟩
  · skip
    refine pw_if E (pc' := 15) rfl (by decide) (by omega) (by omega) ?_ ?_
    · intro hc82
      change x3 = (0 : Int) at hc82
      refine pw_thr E rfl rfl I.2 ?_
      exact ⟨I, E0, Or.inl ⟨rfl, Or.inl (by omega)⟩⟩
    · intro hc83
      change ¬ (x3 = (0 : Int)) at hc83
      exfalso; omega
set_option maxHeartbeats 4000000 in
theorem cm_234_s {X : List (Nat × List Value)} {d : Nat} {h : pm_H} (hd : 4 ≤ d) (I : pw_I h) (b : Int) (hb1 : (-2147483648) ≤ b) (hb2 : b ≤ 2147483647) (e : Int) (he1 : (-2147483648) ≤ e) (he2 : e ≤ 2147483647) (wt : Int) (hwt1 : (-2147483648) ≤ wt) (hwt2 : wt ≤ 2147483647) : pw X d h 234 0 [some (.ref 141), some (pw_i b), some (pw_i e), some (pw_i wt), none] [] (fun h' v => pw_I h' ∧ pw_E [125] h h' ∧ ∃ a : Int, v = .inl (some (.long (Int64.ofInt a))) ∧ (-1099511627776) ≤ a ∧ a ≤ 1099511627776 ∧ ((pw_g h' 125 0 = 1 ∧ (¬ (0 ≤ b ∧ b ≤ 11 ∧ 0 ≤ e ∧ e ≤ 11 ∧ b ≠ e ∧ 0 ≤ wt ∧ wt ≤ 1) ∨ ¬ pv_OK (pv_sdem h b e))) ∨ (pw_g h' 125 0 = 0 ∧ (0 ≤ b ∧ b ≤ 11 ∧ 0 ≤ e ∧ e ≤ 11 ∧ b ≠ e ∧ 0 ≤ wt ∧ wt ≤ 1) ∧ pv_OK (pv_sdem h b e) ∧ a = pv_LW (pv_U (pv_sdem h b e) (pv_chm h b e)) (pv_D (pv_sdem h b e)) wt))) := by
  have E : pm_ent 234 = some (4, 5, 12, 2, pmc_234) := rfl
  have E0 : pw_E [125] h h := pw_E.rf _ _
  refine pw_ld E (pc' := 1) (st' := [.ref 141]) rfl (fun _ => rfl) ?_
  refine pw_ld E (pc' := 2) (st' := [pw_i b, .ref 141]) rfl (fun _ => rfl) ?_
  refine pw_ld E (pc' := 3) (st' := [pw_i e, pw_i b, .ref 141]) rfl (fun _ => rfl) ?_
  refine pw_call (m' := 213) (As := [pw_i b, pw_i e]) (rest := [.ref 141]) (ls'' := [some (pw_i b), some (pw_i e)]) (Nat.le_trans (by decide) hd) E rfl (fun _ => pw_iS rfl rfl rfl) (rfl : pm_ent 213 = some (2, 2, 12, 1, pmc_213)) rfl rfl (cm_213_s (pw_dp hd (by decide)) I (b) (by omega) (by omega) (e) (by omega) (by omega)) ?_
  rintro u2 v1 ⟨rfl, x3, rfl, hx3a, hx3b, hx3r⟩
  refine ⟨_, rfl, ?_⟩
  show pw X d h 234 6 [some (.ref 141), some (pw_i b), some (pw_i e), some (pw_i wt), none] [pw_i x3, .ref 141] _
  change (x3 = 1 ∧ 0 ≤ b ∧ b ≤ 11 ∧ 0 ≤ e ∧ e ≤ 11 ∧ b ≠ e) ∨ (x3 = 0 ∧ ¬ (0 ≤ b ∧ b ≤ 11 ∧ 0 ≤ e ∧ e ≤ 11 ∧ b ≠ e)) at hx3r
  rcases (by omega : x3 = 1 ∨ x3 = 0) with hb4 | hb4
  · skip
    refine pw_if E (pc' := 20) rfl (by decide) (by omega) (by omega) ?_ ?_
    · intro hc5
      change x3 = (0 : Int) at hc5
      exfalso; omega
    · intro hc6
      change ¬ (x3 = (0 : Int)) at hc6
      refine pw_ld E (pc' := 10) (st' := [pw_i wt, .ref 141]) rfl (fun _ => rfl) ?_
      refine pw_call (m' := 217) (As := [pw_i wt]) (rest := [.ref 141]) (ls'' := [some (pw_i wt)]) (Nat.le_trans (by decide) hd) E rfl (fun _ => pw_iS rfl rfl rfl) (rfl : pm_ent 217 = some (1, 1, 12, 1, pmc_217)) rfl rfl (cm_217 (pw_dp hd (by decide)) I (wt) (by omega) (by omega)) ?_
      rintro u8 v7 ⟨rfl, x9, rfl, hx9a, hx9b, hx9r⟩
      refine ⟨_, rfl, ?_⟩
      show pw X d h 234 13 [some (.ref 141), some (pw_i b), some (pw_i e), some (pw_i wt), none] [pw_i x9, .ref 141] _
      change (x9 = 1 ∧ 0 ≤ wt ∧ wt ≤ 1) ∨ (x9 = 0 ∧ ¬ (0 ≤ wt ∧ wt ≤ 1)) at hx9r
      rcases (by omega : x9 = 1 ∨ x9 = 0) with hb10 | hb10
      · skip
        refine pw_if E (pc' := 20) rfl (by decide) (by omega) (by omega) ?_ ?_
        · intro hc11
          change x9 = (0 : Int) at hc11
          exfalso; omega
        · intro hc12
          change ¬ (x9 = (0 : Int)) at hc12
          refine pw_ld E (pc' := 17) (st' := [pw_i 0, .ref 141]) rfl (fun _ => rfl) ?_
          refine pw_goto E (pc' := 21) rfl (by decide) ?_
          refine pw_putI I E (c := 125) (k := 0) (pc' := 24) rfl rfl rfl rfl (by omega) (by omega) (by omega) (by omega) rfl rfl ?_
          intro h13I h13E
          generalize h13w : pw_w h 125 0 (pw_i 0) = h13 at h13I h13E ⊢
          have h13F := E0.tr (h13E.wk (W' := [125]) (by first | rfl | simp))
          refine pw_ld E (pc' := 25) (st' := [.ref 141]) rfl (fun _ => rfl) ?_
          have he15 : pw_g h13 125 0 = 0 := by rw [← h13w]; exact pw_g_eq (c := 125) (k := 0) I rfl rfl (by omega) (by omega)
          refine pw_getI2 h13I E (c := 125) (k := 0) (pc' := 28) rfl rfl rfl rfl rfl rfl (fun hf14a hf14b => ?_)
          refine pw_if E (pc' := 33) rfl (by decide) (by omega) (by omega) ?_ ?_
          · intro hc16
            change pw_g h13 125 0 ≤ (0 : Int) at hc16
            refine pw_ld E (pc' := 34) (st' := [.ref 141]) rfl (fun _ => rfl) ?_
            obtain ⟨f17l, f17h, -⟩ := pw_obj (c := 125) h13I rfl
            refine pw_call (m' := 219) (As := [.ref 141]) (rest := []) (ls'' := [some (.ref 141)]) (Nat.le_trans (by decide) hd) E rfl (fun _ => pw_iV rfl rfl rfl rfl (pw_cellI f17h rfl)) (rfl : pm_ent 219 = some (1, 1, 12, 4, pmc_219)) rfl rfl (cm_219_s (pw_dp hd (by decide)) h13I ) ?_
            rintro h18 v19 ⟨h18I, h18E, hqbeg, rfl⟩
            refine ⟨_, rfl, ?_⟩
            have h18F := h13F.tr (h18E.wk (W' := [125]) (by first | rfl | simp))
            show pw X d h18 234 37 [some (.ref 141), some (pw_i b), some (pw_i e), some (pw_i wt), none] [] _
            refine pw_ld E (pc' := 38) (st' := [pw_i 0]) rfl (fun _ => rfl) ?_
            refine pw_ist E (pc' := 40) (ls' := [some (.ref 141), some (pw_i b), some (pw_i e), some (pw_i wt), some (pw_i 0)]) rfl rfl rfl rfl ?_
            have L40 : ∀ (n40 : Nat) (k40_4 : Int) (gh40 : pm_H), pw_I gh40 → pw_E [125] h gh40 → 0 ≤ k40_4 → k40_4 ≤ 24 → pw_gm gh40 125 26 = pv_S (pv_sdem h b e) (pv_chm h b e) 0 (k40_4).toNat → pw_gm gh40 125 27 = pv_N (pv_sdem h b e) 0 (k40_4).toNat → pw_gm gh40 125 28 = pv_S (pv_sdem h b e) (pv_chm h b e) 1 (k40_4).toNat → pw_gm gh40 125 29 = pv_N (pv_sdem h b e) 1 (k40_4).toNat → pw_gm gh40 125 27 + pw_gm gh40 125 29 ≤ k40_4 → 0 ≤ pw_gm gh40 125 27 → 0 ≤ pw_gm gh40 125 29 → (-2000) * k40_4 ≤ pw_gm gh40 125 26 → pw_gm gh40 125 26 ≤ 2000 * k40_4 → (-2000) * k40_4 ≤ pw_gm gh40 125 28 → pw_gm gh40 125 28 ≤ 2000 * k40_4 → (24 - k40_4).toNat = n40 → pw X d gh40 234 40 [some (.ref 141), some (pw_i b), some (pw_i e), some (pw_i wt), some (pw_i k40_4)] [] (fun h' v => pw_I h' ∧ pw_E [125] h h' ∧ ∃ a : Int, v = .inl (some (.long (Int64.ofInt a))) ∧ (-1099511627776) ≤ a ∧ a ≤ 1099511627776 ∧ ((pw_g h' 125 0 = 1 ∧ (¬ (0 ≤ b ∧ b ≤ 11 ∧ 0 ≤ e ∧ e ≤ 11 ∧ b ≠ e ∧ 0 ≤ wt ∧ wt ≤ 1) ∨ ¬ pv_OK (pv_sdem h b e))) ∨ (pw_g h' 125 0 = 0 ∧ (0 ≤ b ∧ b ≤ 11 ∧ 0 ≤ e ∧ e ≤ 11 ∧ b ≠ e ∧ 0 ≤ wt ∧ wt ≤ 1) ∧ pv_OK (pv_sdem h b e) ∧ a = pv_LW (pv_U (pv_sdem h b e) (pv_chm h b e)) (pv_D (pv_sdem h b e)) wt))) := by
              intro n40
              induction n40 using Nat.strongRecOn with
              | ind n40 ih40 =>
                intro k40_4 gh40 I40 E40 k40_4a k40_4b hx40_0 hx40_1 hx40_2 hx40_3 hx40_4 hx40_5 hx40_6 hx40_7 hx40_8 hx40_9 hx40_10 hm40
                refine pw_ld E (pc' := 42) (st' := [pw_i k40_4]) rfl (fun _ => rfl) ?_
                refine pw_bip E (pc' := 44) rfl rfl (by decide) ?_
                refine pw_if2 E (pc' := 108) rfl (by decide) (by omega) (by omega) (by decide) (by decide) ?_ ?_
                · intro hc20
                  change (24 : Int) ≤ k40_4 at hc20
                  rw [show (k40_4).toNat = 24 by omega] at hx40_0 hx40_1 hx40_2 hx40_3
                  refine pw_ld E (pc' := 109) (st' := [.ref 141]) rfl (fun _ => rfl) ?_
                  refine pw_ld E (pc' := 110) (st' := [.ref 141, .ref 141]) rfl (fun _ => rfl) ?_
                  obtain ⟨f21l, f21h, -⟩ := pw_obj (c := 125) I40 rfl
                  refine pw_call (m' := 221) (As := [.ref 141]) (rest := [.ref 141]) (ls'' := [some (.ref 141)]) (Nat.le_trans (by decide) hd) E rfl (fun _ => pw_iV rfl rfl rfl rfl (pw_cellI f21h rfl)) (rfl : pm_ent 221 = some (1, 1, 12, 1, pmc_221)) rfl rfl (cm_221_s (pw_dp hd (by decide)) I40 (by omega) (by omega) (by omega) (by omega) (by omega) (by omega) (by omega) (by omega)) ?_
                  rintro h22 v23 ⟨h22I, h22E, x24, rfl, hx24a, hx24b, hx24r⟩
                  refine ⟨_, rfl, ?_⟩
                  have h22F := E40.tr (h22E.wk (W' := [125]) (by first | rfl | simp))
                  show pw X d h22 234 113 [some (.ref 141), some (pw_i b), some (pw_i e), some (pw_i wt), some (pw_i k40_4)] [pw_i x24, .ref 141] _
                  change ((x24 = 1 ∧ 0 < pw_gm gh40 125 27 * pw_gm gh40 125 29) ∨ (x24 = 0 ∧ pw_gm gh40 125 27 * pw_gm gh40 125 29 ≤ 0)) ∧ pw_gm h22 125 24 = pw_gm gh40 125 26 * pw_gm gh40 125 29 - pw_gm gh40 125 28 * pw_gm gh40 125 27 ∧ pw_gm h22 125 25 = pw_gm gh40 125 27 * pw_gm gh40 125 29 ∧ pw_gm h22 125 26 = pw_gm gh40 125 26 ∧ pw_gm h22 125 27 = pw_gm gh40 125 27 ∧ pw_gm h22 125 28 = pw_gm gh40 125 28 ∧ pw_gm h22 125 29 = pw_gm gh40 125 29 at hx24r
                  rcases (by omega : x24 = 1 ∨ x24 = 0) with hb25 | hb25
                  · skip
                    refine pw_if E (pc' := 120) rfl (by decide) (by omega) (by omega) ?_ ?_
                    · intro hc26
                      change x24 = (0 : Int) at hc26
                      exfalso; omega
                    · intro hc27
                      change ¬ (x24 = (0 : Int)) at hc27
                      rw [hx40_0, hx40_1, hx40_2, hx40_3] at hx24r
                      obtain ⟨r0, r4, r5, -⟩ := hx24r
                      have r1 := pv_okD (pv_NB (sd := pv_sdem h b e) (s := 0) 24).1 (pv_NB (sd := pv_sdem h b e) (s := 1) 24).1 r0
                      change _ = pv_U (pv_sdem h b e) (pv_chm h b e) at r4
                      change _ = pv_D (pv_sdem h b e) at r5
                      have hok : pv_OK (pv_sdem h b e) := (r1.resolve_right (fun q => by have := q.1; omega)).2
                      have hUB := pv_UB (sd := pv_sdem h b e) (ch := pv_chm h b e) (pv_chmB I (by omega) (by omega) (by omega) (by omega))
                      have hD1 := hUB.2.2.2.2 hok
                      refine pw_ld E (pc' := 117) (st' := [pw_i 0, .ref 141]) rfl (fun _ => rfl) ?_
                      refine pw_goto E (pc' := 121) rfl (by decide) ?_
                      refine pw_putI h22I E (c := 125) (k := 0) (pc' := 124) rfl rfl rfl rfl (by omega) (by omega) (by omega) (by omega) rfl rfl ?_
                      intro h28I h28E
                      generalize h28w : pw_w h22 125 0 (pw_i 0) = h28 at h28I h28E ⊢
                      have h28F := h22F.tr (h28E.wk (W' := [125]) (by first | rfl | simp))
                      refine pw_ld E (pc' := 125) (st' := [.ref 141]) rfl (fun _ => rfl) ?_
                      have he30 : pw_g h28 125 0 = 0 := by rw [← h28w]; exact pw_g_eq (c := 125) (k := 0) h22I rfl rfl (by omega) (by omega)
                      refine pw_getI2 h28I E (c := 125) (k := 0) (pc' := 128) rfl rfl rfl rfl rfl rfl (fun hf29a hf29b => ?_)
                      refine pw_if E (pc' := 135) rfl (by decide) (by omega) (by omega) ?_ ?_
                      · intro hc31
                        change pw_g h28 125 0 ≤ (0 : Int) at hc31
                        refine pw_ld E (pc' := 136) (st' := [.ref 141]) rfl (fun _ => rfl) ?_
                        refine pw_ld E (pc' := 137) (st' := [pw_i wt, .ref 141]) rfl (fun _ => rfl) ?_
                        have he32 : pw_gm h28 125 24 = pw_gm h22 125 24 := by rw [← h28w]; exact pw_gm_ne (by omega)
                        have he33 : pw_gm h28 125 25 = pw_gm h22 125 25 := by rw [← h28w]; exact pw_gm_ne (by omega)
                        obtain ⟨f34l, f34h, -⟩ := pw_obj (c := 125) h28I rfl
                        refine pw_call (m' := 222) (As := [.ref 141, pw_i wt]) (rest := []) (ls'' := [some (.ref 141), some (pw_i wt), none, none]) (Nat.le_trans (by decide) hd) E rfl (fun _ => pw_iV rfl rfl rfl rfl (pw_cellI f34h rfl)) (rfl : pm_ent 222 = some (2, 4, 12, 2, pmc_222)) rfl rfl (cm_222_g (pw_dp hd (by decide)) h28I (wt) (by omega) (by omega) (by omega) (by omega) (by omega) (by omega)) ?_
                        rintro u36 v35 ⟨rfl, x37, rfl, hx37a, hx37b, hx37r⟩
                        refine ⟨_, rfl, ?_⟩
                        show pw X d h28 234 140 [some (.ref 141), some (pw_i b), some (pw_i e), some (pw_i wt), some (pw_i k40_4)] [.long (Int64.ofInt x37)] _
                        change (wt = 0 → x37 = Int.tdiv (pw_gm h28 125 24) (pw_gd (pw_gm h28 125 24) (pw_gm h28 125 25))) ∧ (wt ≠ 0 → x37 = Int.tdiv (pw_gm h28 125 25) (pw_gd (pw_gm h28 125 24) (pw_gm h28 125 25))) at hx37r
                        refine pw_lret E rfl ?_
                        have e4 : pw_gm h28 125 24 = pv_U (pv_sdem h b e) (pv_chm h b e) := by omega
                        have e5 : pw_gm h28 125 25 = pv_D (pv_sdem h b e) := by omega
                        rw [e4, e5] at hx37r
                        exact ⟨h28I, h28F, ⟨_, rfl, by omega, by omega, Or.inr ⟨by omega, by omega, hok, pv_low hx37r⟩⟩⟩
                      · intro hc38
                        change ¬ (pw_g h28 125 0 ≤ (0 : Int)) at hc38
                        exfalso; omega
                  · skip
                    refine pw_if E (pc' := 120) rfl (by decide) (by omega) (by omega) ?_ ?_
                    · intro hc40
                      change x24 = (0 : Int) at hc40
                      rw [hx40_0, hx40_1, hx40_2, hx40_3] at hx24r
                      obtain ⟨r0, r4, r5, -⟩ := hx24r
                      have r1 := pv_okD (pv_NB (sd := pv_sdem h b e) (s := 0) 24).1 (pv_NB (sd := pv_sdem h b e) (s := 1) 24).1 r0
                      change _ = pv_U (pv_sdem h b e) (pv_chm h b e) at r4
                      change _ = pv_D (pv_sdem h b e) at r5
                      refine pw_ld E (pc' := 121) (st' := [pw_i 1, .ref 141]) rfl (fun _ => rfl) ?_
                      refine pw_putI h22I E (c := 125) (k := 0) (pc' := 124) rfl rfl rfl rfl (by omega) (by omega) (by omega) (by omega) rfl rfl ?_
                      intro h41I h41E
                      generalize h41w : pw_w h22 125 0 (pw_i 1) = h41 at h41I h41E ⊢
                      have h41F := h22F.tr (h41E.wk (W' := [125]) (by first | rfl | simp))
                      refine pw_ld E (pc' := 125) (st' := [.ref 141]) rfl (fun _ => rfl) ?_
                      have he43 : pw_g h41 125 0 = 1 := by rw [← h41w]; exact pw_g_eq (c := 125) (k := 0) h22I rfl rfl (by omega) (by omega)
                      refine pw_getI2 h41I E (c := 125) (k := 0) (pc' := 128) rfl rfl rfl rfl rfl rfl (fun hf42a hf42b => ?_)
                      refine pw_if E (pc' := 135) rfl (by decide) (by omega) (by omega) ?_ ?_
                      · intro hc44
                        change pw_g h41 125 0 ≤ (0 : Int) at hc44
                        exfalso; omega
                      · intro hc45
                        change ¬ (pw_g h41 125 0 ≤ (0 : Int)) at hc45
                        refine pw_ld E (pc' := 132) (st' := [.long (Int64.ofInt 0)]) rfl (fun _ => rfl) ?_
                        refine pw_goto E (pc' := 140) rfl (by decide) ?_
                        refine pw_lret E rfl ?_
                        exact ⟨h41I, h41F, ⟨_, rfl, by omega, by omega, Or.inl ⟨by omega, Or.inr (r1.resolve_left (fun q => by have := q.1; omega)).2⟩⟩⟩
                    · intro hc46
                      change ¬ (x24 = (0 : Int)) at hc46
                      exfalso; omega
                · intro hc47
                  change ¬ ((24 : Int) ≤ k40_4) at hc47
                  have od := pv_sdem_I (h := h) (b := b) (e := e) (k := k40_4) (by omega)
                  have oi := pv_iteI (p := pw_g h 133 (k40_4).toNat < pw_g h 136 e.toNat) (x := 0) (y := 1)
                  have q1 : pw_g gh40 131 (k40_4).toNat = pw_g h 131 (k40_4).toNat := pw_Eg (c := 131) I E40 rfl rfl _
                  have q4 : pw_g gh40 132 (k40_4).toNat = pw_g h 132 (k40_4).toNat := pw_Eg (c := 132) I E40 rfl rfl _
                  have q5 : pw_g gh40 133 (k40_4).toNat = pw_g h 133 (k40_4).toNat := pw_Eg (c := 133) I E40 rfl rfl _
                  have q8 : pw_g gh40 136 e.toNat = pw_g h 136 e.toNat := pw_Eg (c := 136) I E40 rfl rfl _
                  have qb : pw_g gh40 138 (12 * k40_4 + b).toNat = pw_g h 138 (12 * k40_4 + b).toNat := pw_Eg (c := 138) I E40 rfl rfl _
                  have qe : pw_g gh40 138 (12 * k40_4 + e).toNat = pw_g h 138 (12 * k40_4 + e).toNat := pw_Eg (c := 138) I E40 rfl rfl _
                  have hkb : pv_hmk gh40 b k40_4 = pv_hmk h b k40_4 := pv_hmkE I E40 rfl
                  have hke : pv_hmk gh40 e k40_4 = pv_hmk h e k40_4 := pv_hmkE I E40 rfl
                  have hw4 := pw_gA (c := 132) (j := k40_4) I40 rfl (by decide) (by omega) (by omega)
                  refine pw_ld E (pc' := 48) (st' := [.ref 141]) rfl (fun _ => rfl) ?_
                  refine pw_ld E (pc' := 50) (st' := [pw_i k40_4, .ref 141]) rfl (fun _ => rfl) ?_
                  refine pw_ld E (pc' := 51) (st' := [pw_i b, pw_i k40_4, .ref 141]) rfl (fun _ => rfl) ?_
                  refine pw_ld E (pc' := 52) (st' := [pw_i e, pw_i b, pw_i k40_4, .ref 141]) rfl (fun _ => rfl) ?_
                  obtain ⟨f48l, f48h, -⟩ := pw_obj (c := 125) I40 rfl
                  refine pw_call (m' := 214) (As := [.ref 141, pw_i k40_4, pw_i b, pw_i e]) (rest := []) (ls'' := [some (.ref 141), some (pw_i k40_4), some (pw_i b), some (pw_i e)]) (Nat.le_trans (by decide) hd) E rfl (fun _ => pw_iV rfl rfl rfl rfl (pw_cellI f48h rfl)) (rfl : pm_ent 214 = some (4, 4, 12, 1, pmc_214)) rfl rfl (cm_214_s (pw_dp hd (by decide)) I40 (k40_4) (by omega) (by omega) (b) (by omega) (by omega) (e) (by omega) (by omega)) ?_
                  rintro u50 v49 ⟨rfl, x51, rfl, hx51a, hx51b, hx51r⟩
                  refine ⟨_, rfl, ?_⟩
                  show pw X d gh40 234 55 [some (.ref 141), some (pw_i b), some (pw_i e), some (pw_i wt), some (pw_i k40_4)] [pw_i x51] _
                  change (x51 = 1 ∧ pw_g gh40 131 k40_4.toNat ≠ 0 ∧ pw_g gh40 138 (12 * k40_4 + b).toNat ≠ 0 ∧ pw_g gh40 138 (12 * k40_4 + e).toNat ≠ 0) ∨ (x51 = 0 ∧ ¬ (pw_g gh40 131 k40_4.toNat ≠ 0 ∧ pw_g gh40 138 (12 * k40_4 + b).toNat ≠ 0 ∧ pw_g gh40 138 (12 * k40_4 + e).toNat ≠ 0)) at hx51r
                  rcases (by omega : x51 = 1 ∨ x51 = 0) with hb52 | hb52
                  · skip
                    refine pw_if E (pc' := 102) rfl (by decide) (by omega) (by omega) ?_ ?_
                    · intro hc53
                      change x51 = (0 : Int) at hc53
                      exfalso; omega
                    · intro hc54
                      change ¬ (x51 = (0 : Int)) at hc54
                      refine pw_ld E (pc' := 59) (st' := [.ref 141]) rfl (fun _ => rfl) ?_
                      refine pw_getR (b := 148) I40 E (c := 125) (k := 11) (pc' := 62) rfl rfl rfl rfl rfl rfl rfl ?_
                      refine pw_ld E (pc' := 64) (st' := [pw_i k40_4, .ref 148]) rfl (fun _ => rfl) ?_
                      refine pw_ald2 I40 E (c := 132) (pc' := 65) rfl rfl rfl (by decide) rfl (by decide) (by omega) (by omega) rfl (fun hf55a hf55b => ?_)
                      refine pw_if E (pc' := 102) rfl (by decide) (by omega) (by omega) ?_ ?_
                      · intro hc56
                        change pw_g gh40 132 (k40_4.toNat) ≠ (0 : Int) at hc56
                        have hsd : (pv_sdem h b e) (k40_4).toNat = -1 := by omega
                        clear od oi
                        obtain ⟨e0, e1, e2, e3⟩ := pv_stpm (sd := pv_sdem h b e) (ch := pv_chm h b e) (k := k40_4) (by omega) hsd
                        refine pw_inc E (pc' := 105) (ls' := [some (.ref 141), some (pw_i b), some (pw_i e), some (pw_i wt), some (pw_i (k40_4 + 1))]) rfl rfl rfl rfl ?_
                        refine pw_goto E (pc' := 40) rfl (by decide) ?_
                        exact ih40 _ (by omega) (k40_4 + 1) gh40 I40 E40 (by omega) (by omega) (by omega) (by omega) (by omega) (by omega) (by omega) (by omega) (by omega) (by omega) (by omega) (by omega) (by omega) rfl
                      · intro hc57
                        change ¬ (pw_g gh40 132 (k40_4.toNat) ≠ (0 : Int)) at hc57
                        refine pw_ld E (pc' := 69) (st' := [.ref 141]) rfl (fun _ => rfl) ?_
                        refine pw_ld E (pc' := 70) (st' := [.ref 141, .ref 141]) rfl (fun _ => rfl) ?_
                        refine pw_getR (b := 149) I40 E (c := 125) (k := 12) (pc' := 73) rfl rfl rfl rfl rfl rfl rfl ?_
                        refine pw_ld E (pc' := 75) (st' := [pw_i k40_4, .ref 149, .ref 141]) rfl (fun _ => rfl) ?_
                        refine pw_ald2 I40 E (c := 133) (pc' := 76) rfl rfl rfl (by decide) rfl (by decide) (by omega) (by omega) rfl (fun hf58a hf58b => ?_)
                        refine pw_ld E (pc' := 77) (st' := [.ref 141, pw_i (pw_g gh40 133 (k40_4.toNat)), .ref 141]) rfl (fun _ => rfl) ?_
                        refine pw_getR (b := 152) I40 E (c := 125) (k := 16) (pc' := 80) rfl rfl rfl rfl rfl rfl rfl ?_
                        refine pw_ld E (pc' := 81) (st' := [pw_i e, .ref 152, pw_i (pw_g gh40 133 (k40_4.toNat)), .ref 141]) rfl (fun _ => rfl) ?_
                        refine pw_ald2 I40 E (c := 136) (pc' := 82) rfl rfl rfl (by decide) rfl (by decide) (by omega) (by omega) rfl (fun hf59a hf59b => ?_)
                        refine pw_if2 E (pc' := 89) rfl (by decide) (by omega) (by omega) (by omega) (by omega) ?_ ?_
                        · intro hc60
                          change pw_g gh40 136 (e.toNat) ≤ pw_g gh40 133 (k40_4.toNat) at hc60
                          refine pw_ld E (pc' := 90) (st' := [pw_i 0, .ref 141]) rfl (fun _ => rfl) ?_
                          refine pw_ld E (pc' := 91) (st' := [.ref 141, pw_i 0, .ref 141]) rfl (fun _ => rfl) ?_
                          refine pw_ld E (pc' := 93) (st' := [pw_i k40_4, .ref 141, pw_i 0, .ref 141]) rfl (fun _ => rfl) ?_
                          refine pw_ld E (pc' := 94) (st' := [pw_i b, pw_i k40_4, .ref 141, pw_i 0, .ref 141]) rfl (fun _ => rfl) ?_
                          refine pw_ld E (pc' := 95) (st' := [pw_i e, pw_i b, pw_i k40_4, .ref 141, pw_i 0, .ref 141]) rfl (fun _ => rfl) ?_
                          obtain ⟨f61l, f61h, -⟩ := pw_obj (c := 125) I40 rfl
                          refine pw_call (m' := 215) (As := [.ref 141, pw_i k40_4, pw_i b, pw_i e]) (rest := [pw_i 0, .ref 141]) (ls'' := [some (.ref 141), some (pw_i k40_4), some (pw_i b), some (pw_i e)]) (Nat.le_trans (by decide) hd) E rfl (fun _ => pw_iV rfl rfl rfl rfl (pw_cellI f61h rfl)) (rfl : pm_ent 215 = some (4, 4, 12, 0, pmc_215)) rfl rfl (cm_215_s (pw_dp hd (by decide)) I40 (k40_4) (by omega) (by omega) (b) (by omega) (by omega) (e) (by omega) (by omega)) ?_
                          rintro u63 v62 ⟨rfl, x64, rfl, hx64a, hx64b, hx64r⟩
                          refine ⟨_, rfl, ?_⟩
                          show pw X d gh40 234 98 [some (.ref 141), some (pw_i b), some (pw_i e), some (pw_i wt), some (pw_i k40_4)] [pw_i x64, pw_i 0, .ref 141] _
                          change x64 = pv_hmk gh40 e k40_4 - pv_hmk gh40 b k40_4 at hx64r
                          refine pw_i2l E (pc' := 99) rfl rfl (by omega) (by omega) ?_
                          have hch : pv_chm h b e (k40_4).toNat = x64 := by rw [hx64r, hkb, hke]; exact pv_chmI (by omega)
                          have hsd : (pv_sdem h b e) (k40_4).toNat = 1 := by omega
                          clear od oi
                          obtain ⟨e0, e1, e2, e3⟩ := pv_stp1 (sd := pv_sdem h b e) (ch := pv_chm h b e) (k := k40_4) (by omega) hsd
                          rw [hch] at e3
                          obtain ⟨f65l, f65h, -⟩ := pw_obj (c := 125) I40 rfl
                          refine pw_call (m' := 220) (As := [.ref 141, pw_i 0, .long (Int64.ofInt x64)]) (rest := []) (ls'' := [some (.ref 141), some (pw_i 0), some (.long (Int64.ofInt x64)), none]) (Nat.le_trans (by decide) hd) E rfl (fun _ => pw_iV rfl rfl rfl rfl (pw_cellI f65h rfl)) (rfl : pm_ent 220 = some (3, 4, 12, 4, pmc_220)) rfl rfl (cm_220_s (pw_dp hd (by decide)) I40 (0) (by omega) (by omega) (x64) (by omega) (by omega) (by omega) (by omega) (by omega) (by omega) (by omega) (by omega) (by omega)) ?_
                          rintro h66 v67 ⟨h66I, h66E, hqadd, rfl⟩
                          refine ⟨_, rfl, ?_⟩
                          have h66F := E40.tr (h66E.wk (W' := [125]) (by first | rfl | simp))
                          show pw X d h66 234 102 [some (.ref 141), some (pw_i b), some (pw_i e), some (pw_i wt), some (pw_i k40_4)] [] _
                          have hqa := hqadd.2 rfl
                          clear hqadd
                          refine pw_inc E (pc' := 105) (ls' := [some (.ref 141), some (pw_i b), some (pw_i e), some (pw_i wt), some (pw_i (k40_4 + 1))]) rfl rfl rfl rfl ?_
                          refine pw_goto E (pc' := 40) rfl (by decide) ?_
                          exact ih40 _ (by omega) (k40_4 + 1) h66 h66I h66F (by omega) (by omega) (by omega) (by omega) (by omega) (by omega) (by omega) (by omega) (by omega) (by omega) (by omega) (by omega) (by omega) rfl
                        · intro hc68
                          change ¬ (pw_g gh40 136 (e.toNat) ≤ pw_g gh40 133 (k40_4.toNat)) at hc68
                          refine pw_ld E (pc' := 86) (st' := [pw_i 1, .ref 141]) rfl (fun _ => rfl) ?_
                          refine pw_goto E (pc' := 90) rfl (by decide) ?_
                          refine pw_ld E (pc' := 91) (st' := [.ref 141, pw_i 1, .ref 141]) rfl (fun _ => rfl) ?_
                          refine pw_ld E (pc' := 93) (st' := [pw_i k40_4, .ref 141, pw_i 1, .ref 141]) rfl (fun _ => rfl) ?_
                          refine pw_ld E (pc' := 94) (st' := [pw_i b, pw_i k40_4, .ref 141, pw_i 1, .ref 141]) rfl (fun _ => rfl) ?_
                          refine pw_ld E (pc' := 95) (st' := [pw_i e, pw_i b, pw_i k40_4, .ref 141, pw_i 1, .ref 141]) rfl (fun _ => rfl) ?_
                          obtain ⟨f69l, f69h, -⟩ := pw_obj (c := 125) I40 rfl
                          refine pw_call (m' := 215) (As := [.ref 141, pw_i k40_4, pw_i b, pw_i e]) (rest := [pw_i 1, .ref 141]) (ls'' := [some (.ref 141), some (pw_i k40_4), some (pw_i b), some (pw_i e)]) (Nat.le_trans (by decide) hd) E rfl (fun _ => pw_iV rfl rfl rfl rfl (pw_cellI f69h rfl)) (rfl : pm_ent 215 = some (4, 4, 12, 0, pmc_215)) rfl rfl (cm_215_s (pw_dp hd (by decide)) I40 (k40_4) (by omega) (by omega) (b) (by omega) (by omega) (e) (by omega) (by omega)) ?_
                          rintro u71 v70 ⟨rfl, x72, rfl, hx72a, hx72b, hx72r⟩
                          refine ⟨_, rfl, ?_⟩
                          show pw X d gh40 234 98 [some (.ref 141), some (pw_i b), some (pw_i e), some (pw_i wt), some (pw_i k40_4)] [pw_i x72, pw_i 1, .ref 141] _
                          change x72 = pv_hmk gh40 e k40_4 - pv_hmk gh40 b k40_4 at hx72r
                          refine pw_i2l E (pc' := 99) rfl rfl (by omega) (by omega) ?_
                          have hch : pv_chm h b e (k40_4).toNat = x72 := by rw [hx72r, hkb, hke]; exact pv_chmI (by omega)
                          have hsd : (pv_sdem h b e) (k40_4).toNat = 0 := by omega
                          clear od oi
                          obtain ⟨e0, e1, e2, e3⟩ := pv_stp0 (sd := pv_sdem h b e) (ch := pv_chm h b e) (k := k40_4) (by omega) hsd
                          rw [hch] at e2
                          obtain ⟨f73l, f73h, -⟩ := pw_obj (c := 125) I40 rfl
                          refine pw_call (m' := 220) (As := [.ref 141, pw_i 1, .long (Int64.ofInt x72)]) (rest := []) (ls'' := [some (.ref 141), some (pw_i 1), some (.long (Int64.ofInt x72)), none]) (Nat.le_trans (by decide) hd) E rfl (fun _ => pw_iV rfl rfl rfl rfl (pw_cellI f73h rfl)) (rfl : pm_ent 220 = some (3, 4, 12, 4, pmc_220)) rfl rfl (cm_220_s (pw_dp hd (by decide)) I40 (1) (by omega) (by omega) (x72) (by omega) (by omega) (by omega) (by omega) (by omega) (by omega) (by omega) (by omega) (by omega)) ?_
                          rintro h74 v75 ⟨h74I, h74E, hqadd, rfl⟩
                          refine ⟨_, rfl, ?_⟩
                          have h74F := E40.tr (h74E.wk (W' := [125]) (by first | rfl | simp))
                          show pw X d h74 234 102 [some (.ref 141), some (pw_i b), some (pw_i e), some (pw_i wt), some (pw_i k40_4)] [] _
                          have hqa := hqadd.1 rfl
                          clear hqadd
                          refine pw_inc E (pc' := 105) (ls' := [some (.ref 141), some (pw_i b), some (pw_i e), some (pw_i wt), some (pw_i (k40_4 + 1))]) rfl rfl rfl rfl ?_
                          refine pw_goto E (pc' := 40) rfl (by decide) ?_
                          exact ih40 _ (by omega) (k40_4 + 1) h74 h74I h74F (by omega) (by omega) (by omega) (by omega) (by omega) (by omega) (by omega) (by omega) (by omega) (by omega) (by omega) (by omega) (by omega) rfl
                  · skip
                    refine pw_if E (pc' := 102) rfl (by decide) (by omega) (by omega) ?_ ?_
                    · intro hc77
                      change x51 = (0 : Int) at hc77
                      have hsd : (pv_sdem h b e) (k40_4).toNat = -1 := by omega
                      clear od oi
                      obtain ⟨e0, e1, e2, e3⟩ := pv_stpm (sd := pv_sdem h b e) (ch := pv_chm h b e) (k := k40_4) (by omega) hsd
                      refine pw_inc E (pc' := 105) (ls' := [some (.ref 141), some (pw_i b), some (pw_i e), some (pw_i wt), some (pw_i (k40_4 + 1))]) rfl rfl rfl rfl ?_
                      refine pw_goto E (pc' := 40) rfl (by decide) ?_
                      exact ih40 _ (by omega) (k40_4 + 1) gh40 I40 E40 (by omega) (by omega) (by omega) (by omega) (by omega) (by omega) (by omega) (by omega) (by omega) (by omega) (by omega) (by omega) (by omega) rfl
                    · intro hc78
                      change ¬ (x51 = (0 : Int)) at hc78
                      exfalso; omega
            exact L40 _ (0) h18 h18I h18F (by omega) (by omega) (by show _ = (0 : Int); omega) (by show _ = (0 : Int); omega) (by show _ = (0 : Int); omega) (by show _ = (0 : Int); omega) (by omega) (by omega) (by omega) (by omega) (by omega) (by omega) (by omega) rfl
          · intro hc79
            change ¬ (pw_g h13 125 0 ≤ (0 : Int)) at hc79
            exfalso; omega
      · skip
        refine pw_if E (pc' := 20) rfl (by decide) (by omega) (by omega) ?_ ?_
        · intro hc81
          change x9 = (0 : Int) at hc81
          refine pw_ld E (pc' := 21) (st' := [pw_i 1, .ref 141]) rfl (fun _ => rfl) ?_
          refine pw_putI I E (c := 125) (k := 0) (pc' := 24) rfl rfl rfl rfl (by omega) (by omega) (by omega) (by omega) rfl rfl ?_
          intro h82I h82E
          generalize h82w : pw_w h 125 0 (pw_i 1) = h82 at h82I h82E ⊢
          have h82F := E0.tr (h82E.wk (W' := [125]) (by first | rfl | simp))
          refine pw_ld E (pc' := 25) (st' := [.ref 141]) rfl (fun _ => rfl) ?_
          have he84 : pw_g h82 125 0 = 1 := by rw [← h82w]; exact pw_g_eq (c := 125) (k := 0) I rfl rfl (by omega) (by omega)
          refine pw_getI2 h82I E (c := 125) (k := 0) (pc' := 28) rfl rfl rfl rfl rfl rfl (fun hf83a hf83b => ?_)
          refine pw_if E (pc' := 33) rfl (by decide) (by omega) (by omega) ?_ ?_
          · intro hc85
            change pw_g h82 125 0 ≤ (0 : Int) at hc85
            exfalso; omega
          · intro hc86
            change ¬ (pw_g h82 125 0 ≤ (0 : Int)) at hc86
            refine pw_ld E (pc' := 32) (st' := [.long (Int64.ofInt 0)]) rfl (fun _ => rfl) ?_
            refine pw_lret E rfl ?_
            exact ⟨h82I, h82F, ⟨_, rfl, by omega, by omega, Or.inl ⟨by omega, Or.inl (by omega)⟩⟩⟩
        · intro hc87
          change ¬ (x9 = (0 : Int)) at hc87
          exfalso; omega
  · skip
    refine pw_if E (pc' := 20) rfl (by decide) (by omega) (by omega) ?_ ?_
    · intro hc89
      change x3 = (0 : Int) at hc89
      refine pw_ld E (pc' := 21) (st' := [pw_i 1, .ref 141]) rfl (fun _ => rfl) ?_
      refine pw_putI I E (c := 125) (k := 0) (pc' := 24) rfl rfl rfl rfl (by omega) (by omega) (by omega) (by omega) rfl rfl ?_
      intro h90I h90E
      generalize h90w : pw_w h 125 0 (pw_i 1) = h90 at h90I h90E ⊢
      have h90F := E0.tr (h90E.wk (W' := [125]) (by first | rfl | simp))
      refine pw_ld E (pc' := 25) (st' := [.ref 141]) rfl (fun _ => rfl) ?_
      have he92 : pw_g h90 125 0 = 1 := by rw [← h90w]; exact pw_g_eq (c := 125) (k := 0) I rfl rfl (by omega) (by omega)
      refine pw_getI2 h90I E (c := 125) (k := 0) (pc' := 28) rfl rfl rfl rfl rfl rfl (fun hf91a hf91b => ?_)
      refine pw_if E (pc' := 33) rfl (by decide) (by omega) (by omega) ?_ ?_
      · intro hc93
        change pw_g h90 125 0 ≤ (0 : Int) at hc93
        exfalso; omega
      · intro hc94
        change ¬ (pw_g h90 125 0 ≤ (0 : Int)) at hc94
        refine pw_ld E (pc' := 32) (st' := [.long (Int64.ofInt 0)]) rfl (fun _ => rfl) ?_
        refine pw_lret E rfl ?_
        exact ⟨h90I, h90F, ⟨_, rfl, by omega, by omega, Or.inl ⟨by omega, Or.inl (by omega)⟩⟩⟩
    · intro hc95
      change ¬ (x3 = (0 : Int)) at hc95
      exfalso; omega
end
section
/-! a new row of ints: Arrays.copyOf, Script.copyOf -/
/-- as pw_E, but one cell of at most 1000 may be new -/
def pw_G (W : List Nat) (h h' : pm_H) : Prop := (h.length ≤ h'.length ∧ h'.length ≤ h.length + 1 ∧ pm_slt h ≤ pm_slt h' ∧ pm_slt h' ≤ pm_slt h + 1000) ∧ ∀ c : Nat, c < h.length → c ∉ W → h'[c]? = h[c]?
theorem pw_E.G {W : List Nat} {a b : pm_H} (h1 : pw_E W a b) : pw_G W a b := ⟨⟨by rw [h1.1.1]; exact Nat.le_refl _, by rw [h1.1.1]; omega, by rw [h1.1.2]; exact Nat.le_refl _, by rw [h1.1.2]; omega⟩, h1.2.1⟩
theorem pw_G.tE {W : List Nat} {a b c : pm_H} (h1 : pw_G W a b) (h2 : pw_E W b c) : pw_G W a c := ⟨by rw [h2.1.1, h2.1.2]; exact h1.1, fun q hq hn => (h2.2.1 q (Nat.lt_of_lt_of_le hq h1.1.1) hn).trans (h1.2 q hq hn)⟩
theorem pw_E.tG {W : List Nat} {a b c : pm_H} (h1 : pw_E W a b) (h2 : pw_G W b c) : pw_G W a c := ⟨by rw [← h1.1.1, ← h1.1.2]; exact h2.1, fun q hq hn => (h2.2 q (by rw [h1.1.1]; exact hq) hn).trans (h1.2.1 q hq hn)⟩
theorem pw_G.wk {W W' : List Nat} {a b : pm_H} (h1 : pw_G W a b) (hs : W.all (fun c => W'.contains c) = true) : pw_G W' a b := ⟨h1.1, fun q hq hn => h1.2 q hq fun hm => hn (by
  have := List.all_eq_true.mp hs q hm
  exact List.contains_iff_mem.mp this)⟩
theorem pw_Gg {h h' : pm_H} {c : Nat} {W : List Nat} {s : pw_S} (I : pw_I h) (E : pw_G W h h') (hs : pw_T[c]? = some s) (hn : W.contains c = false) (k : Nat) : pw_at h' c k = pw_at h c k := by
  obtain ⟨q, h1, -⟩ := I.1 c _ hs
  unfold pw_at
  rw [E.2 c (List.getElem?_eq_some_iff.mp h1).1 (fun hm => by
    have := List.contains_iff_mem.mpr hm
    rw [hn] at this; cases this)]
theorem pw_vk_push {h : pm_H} {x : pm_C} {sp : pw_F} {v : Value} (hv : pw_vk h sp v) : pw_vk (h ++ [x]) sp v := by
  obtain ⟨k, lo, hi⟩ := sp
  have key : (∃ (c : Nat) (l : List Value), v = .ref (16 + c) ∧ h[c]? = some (.inl (0, l)) ∧ l.length ≤ 1000 ∧ pw_ints l) → ∃ (c2 : Nat) (l : List Value), v = .ref (16 + c2) ∧ (h ++ [x])[c2]? = some (.inl (0, l)) ∧ l.length ≤ 1000 ∧ pw_ints l := by
    rintro ⟨c2, l, e1, e2, e3⟩
    exact ⟨c2, l, e1, by rw [List.getElem?_append_left (List.getElem?_eq_some_iff.mp e2).1]; exact e2, e3⟩
  match k, hv with
  | 0, hv => exact hv
  | 1, hv => exact hv
  | 2, hv => exact hv
  | 4, hv => exact hv
  | 3, hv => exact key hv
  | k + 5, hv => exact key hv
theorem pw_ok_push {h : pm_H} {y : pm_C} {s : pw_S} {x : pm_C} (hv : pw_ok h s x) : pw_ok (h ++ [y]) s x := by
  match s, x, hv with
  | .inl _, .inl _, hv => exact hv
  | .inr (ci, sps), .inr (cj, fs), hv => exact ⟨hv.1, hv.2.1, fun k sp v g1 g2 => pw_vk_push (hv.2.2 k sp v g1 g2)⟩
theorem pw_scv_mono {n m : Nat} (hn : n ≤ m) {v : Value} (h : pm_scv n v = true) : pm_scv m v = true := by
  cases v with
  | ref a => exact Nat.blt_eq.mpr (Nat.lt_of_lt_of_le (Nat.blt_eq.mp h) hn)
  | _ => rfl
theorem pw_scc_mono {n m : Nat} (hn : n ≤ m) {c : pm_C} (h : pm_scc n c = true) : pm_scc m c = true := by
  match c, h with
  | .inl q, h =>
    have h : cond (Nat.blt q.1 5) true (pm_all (pm_scv n) q.2) = true := h
    show cond (Nat.blt q.1 5) true (pm_all (pm_scv m) q.2) = true
    cases hb : Nat.blt q.1 5 with
    | true => rfl
    | false =>
      rw [hb] at h
      have h : pm_all (pm_scv n) q.2 = true := h
      show pm_all (pm_scv m) q.2 = true
      rw [pm_all_eq, List.all_eq_true] at h ⊢
      exact fun v hv => pw_scv_mono hn (h v hv)
  | .inr q, h =>
    have h : pm_all (pm_scv n) q.2 = true := h
    show pm_all (pm_scv m) q.2 = true
    rw [pm_all_eq, List.all_eq_true] at h ⊢
    exact fun v hv => pw_scv_mono hn (h v hv)
theorem pw_I_push {h : pm_H} {t : Nat} {l : List Value} (ht : Nat.blt t 5 = true) (I : pw_I h) : pw_I (h ++ [.inl (t, l)]) := by
  refine ⟨fun c s hT => ?_, ?_⟩
  · obtain ⟨q, h1, h2⟩ := I.1 c s hT
    exact ⟨q, by rw [List.getElem?_append_left (List.getElem?_eq_some_iff.mp h1).1]; exact h1, pw_ok_push h2⟩
  · have h1 := I.2
    unfold pm_scH at h1 ⊢
    rw [pm_all_eq, List.all_eq_true, pm_len_eq] at h1 ⊢
    intro c hc
    rw [List.length_append]
    rcases List.mem_append.mp hc with g | g
    · exact pw_scc_mono (by simp) (h1 c g)
    · rw [List.mem_singleton.mp g]
      show cond (Nat.blt t 5) true _ = true
      rw [ht]; rfl
section Pn
variable {X : List (Nat × List Value)} {d : Nat} {h : pm_H} {m pc pc' len na nl own rt : Nat} {C : pm_T (Instr × Nat)} {ls : pm_L} {r : List Value} {Q : pm_H → (Option Value ⊕ Unit) → Prop} {i : Instr}
theorem pw_newi {n : Int} (he : pm_ent m = some (na, nl, own, rt, C)) (hq : pm_get C pc = some (.newarray .int, len)) (hc : pc + len = pc') (h0 : 0 ≤ n) (h1 : n ≤ 60000) (H : pw X d (h ++ [.inl (0, List.replicate n.toNat (.int 0))]) m pc' ls (.ref (16 + h.length) :: r) Q) : pw X d h m pc ls (pw_i n :: r) Q := by
  subst hc
  refine pw_go he hq (fun ih => ?_) H
  show cond (decide (Int32.ofInt n < 0)) none (cond (Nat.ble (Int32.ofInt n).toNatClampNeg 60000) (cond (Nat.blt 0 5) (pm_fn (pm_len h) fun z => pm_fn (pc + len) fun q => ih d (h ++ [.inl (0, pm_rep (Int32.ofInt n).toNatClampNeg (.int 0))]) m q ls (.ref (16 + z) :: r)) none) none) = _
  rw [decide_eq_false (pw_neg h0 (by omega)), cond_false, pw_clamp h0 (by omega), Nat.ble_eq_true_of_le (by omega), cond_true, pm_fn_eq, pm_fn_eq, pm_len_eq, pm_rep_eq]
  rfl
theorem pw_cpyN {ix c q a a2 : Nat} {l l' : List Value} {n : Int} (he : pm_ent m = some (na, nl, own, rt, C)) (hq : pm_get C pc = some (.invokestatic ix, len)) (hl : pm_get (pm_lnk own) ix = some (12, 5, 0, 0)) (e1 : h[c]? = some (.inl (0, l))) (f1 : h[q]? = some (.inl (0, l'))) (h0 : 0 ≤ n) (h1 : n ≤ 60000) (hn : n.toNat ≤ l.length) (hn2 : n.toNat = l'.length) (ha : 16 + c = a) (ha2 : 16 + q = a2) (h8 : pm_cat8 r = true)
    (H : pw X d (h.set q (.inl (0, l.take n.toNat))) m (pc + 3) ls r Q) : pw X d h m pc ls (pw_i n :: pw_i 0 :: .ref a2 :: pw_i 0 :: .ref a :: r) Q := by
  refine pw_go he hq (fun ih => ?_) H
  refine (pw_prim0 (len := len) hl rfl).trans ?_
  show (match pm_row X h a, pm_cell h a2 with
    | some (t, l), some (.inl (t', l')) => cond (Nat.beq t 0 && (Nat.beq t' 0 && (Nat.ble 16 a && (!decide (Int32.ofInt n < 0) && (!decide (Int32.ofInt 0 < 0) && (!decide (Int32.ofInt 0 < 0) && (Nat.ble ((Int32.ofInt 0).toNatClampNeg + (Int32.ofInt n).toNatClampNeg) (pm_len l) && Nat.ble ((Int32.ofInt 0).toNatClampNeg + (Int32.ofInt n).toNatClampNeg) (pm_len l'))))))))
      (cond (pm_cat8 r) (pm_fn (pc + 3) fun q => ih d (pm_set h (a2 - 16) (.inl (0, pm_cpy l l' (Int32.ofInt 0).toNatClampNeg (Int32.ofInt 0).toNatClampNeg (Int32.ofInt n).toNatClampNeg))) m q ls r) none) none
    | _, _ => none) = _
  rw [pw_rowI e1 ha, pw_cellI f1 ha2]
  dsimp only
  have en : (Int32.ofInt n).toNatClampNeg = n.toNat := pw_clamp h0 (by omega)
  have e0 : (Int32.ofInt 0).toNatClampNeg = 0 := rfl
  rw [en, e0, decide_eq_false (pw_neg h0 (by omega)), pm_len_eq, pm_len_eq]
  have hb : (Nat.beq 0 0 && (Nat.beq 0 0 && (Nat.ble 16 a && (!false && (!decide (Int32.ofInt 0 < 0) && (!decide (Int32.ofInt 0 < 0) && (Nat.ble (0 + n.toNat) l.length && Nat.ble (0 + n.toNat) l'.length))))))) = true := by
    rw [Nat.ble_eq_true_of_le (show 16 ≤ a by omega), Nat.ble_eq_true_of_le (show 0 + n.toNat ≤ l.length by omega), Nat.ble_eq_true_of_le (show 0 + n.toNat ≤ l'.length by omega)]
    rfl
  have ea : a2 - 16 = q := by omega
  rw [hb, cond_true, h8, cond_true, pm_fn_eq, ea, pm_set_eq]
  have ec : pm_cpy l l' 0 0 n.toNat = l.take n.toNat := by
    unfold pm_cpy
    rw [List.take_zero, List.drop_zero, List.nil_append, List.drop_of_length_le (by omega), List.append_nil]
  rw [ec]
end Pn
theorem cm_325 {X : List (Nat × List Value)} {d : Nat} {h : pm_H} {c : Nat} {l : List Value} {n : Int} (e1 : h[c]? = some (.inl (0, l))) (hl : l.length = 1000) (h0 : 0 ≤ n) (h1 : n ≤ 999) : pw X d h 325 0 [some (.ref (16 + c)), some (pw_i n), none] [] (fun h' v => h' = h ++ [.inl (0, l.take n.toNat)] ∧ v = .inl (some (.ref (16 + h.length)))) := by
  have E : pm_ent 325 = some (2, 3, 14, 3, pmc_325) := rfl
  have hc : c < h.length := (List.getElem?_eq_some_iff.mp e1).1
  refine pw_ld E (pc' := 1) (st' := [pw_i n]) rfl (fun _ => rfl) ?_
  refine pw_ld E (pc' := 2) (st' := [.ref (16 + c), pw_i n]) rfl (fun _ => rfl) ?_
  refine pw_alen E (pc' := 3) rfl (pw_rowI e1 rfl) rfl rfl ?_
  rw [hl]
  refine pw_if2 E (pc' := 14) rfl (by decide) (by omega) (by omega) (by decide) (by decide) ?_ ?_
  · intro _
    refine pw_ld E (pc' := 15) (st' := [pw_i n]) rfl (fun _ => rfl) ?_
    refine pw_newi E (pc' := 17) rfl rfl h0 (by omega) ?_
    have e2 : (h ++ [.inl (0, List.replicate n.toNat (.int 0))])[c]? = some (.inl (0, l)) := by rw [List.getElem?_append_left hc]; exact e1
    have e3 : (h ++ [.inl (0, List.replicate n.toNat (.int 0))])[h.length]? = some (.inl (0, List.replicate n.toNat (.int 0))) := by rw [List.getElem?_append_right (Nat.le_refl _), Nat.sub_self]; rfl
    generalize hg : h ++ [.inl (0, List.replicate n.toNat (Value.int 0))] = g at e2 e3 ⊢
    refine pw_astn E (pc' := 18) (ls' := [some (.ref (16 + c)), some (pw_i n), some (.ref (16 + h.length))]) rfl rfl rfl rfl ?_
    refine pw_ld E (pc' := 19) (st' := [.ref (16 + c)]) rfl (fun _ => rfl) ?_
    refine pw_ld E (pc' := 20) (st' := [pw_i 0, .ref (16 + c)]) rfl (fun _ => rfl) ?_
    refine pw_ld E (pc' := 21) (st' := [.ref (16 + h.length), pw_i 0, .ref (16 + c)]) rfl (fun _ => rfl) ?_
    refine pw_ld E (pc' := 22) (st' := [pw_i 0, .ref (16 + h.length), pw_i 0, .ref (16 + c)]) rfl (fun _ => rfl) ?_
    refine pw_ld E (pc' := 23) (st' := [.ref (16 + c), pw_i 0, .ref (16 + h.length), pw_i 0, .ref (16 + c)]) rfl (fun _ => rfl) ?_
    refine pw_alen E (pc' := 24) rfl (pw_rowI e2 rfl) rfl rfl ?_
    rw [hl]
    refine pw_ld E (pc' := 25) (st' := [pw_i n, pw_i (1000 : Nat), pw_i 0, .ref (16 + h.length), pw_i 0, .ref (16 + c)]) rfl (fun _ => rfl) ?_
    refine pw_min E rfl rfl (by decide) (by decide) (by omega) (by omega) rfl ?_
    rw [show min ((1000 : Nat) : Int) n = n by omega]
    refine pw_cpyN (q := h.length) E rfl rfl e2 e3 h0 (by omega) (by omega) List.length_replicate.symm rfl rfl rfl ?_
    refine pw_ld E (pc' := 32) (st' := [.ref (16 + h.length)]) rfl (fun _ => rfl) ?_
    refine pw_aret E rfl ⟨?_, rfl⟩
    rw [← hg, List.set_append_right _ _ (Nat.le_refl _), Nat.sub_self]
    rfl
  · intro hn
    exact absurd (show pw_c .ne n ((1000 : Nat) : Int) from (by show n ≠ ((1000 : Nat) : Int); omega)) hn
theorem pw_scq {h : pm_H} {q : Nat} {x : pm_C} (hq : h[q]? = some x) : pm_scv (16 + h.length) (.ref (16 + q)) = true := by
  have := (List.getElem?_eq_some_iff.mp hq).1
  exact Nat.blt_eq.mpr (by omega)
set_option maxHeartbeats 4000000 in
theorem cm_73t {X : List (Nat × List Value)} {d : Nat} {h : pm_H} (I : pw_I h) (c : Nat) (hc : pw_Sc c) (q0 : Nat) (q0l : List Value) (q0h : h[q0]? = some (.inl (0, q0l))) (q0n : q0l.length ≤ 1000) (q0i : pw_ints q0l) : pw X d h 73 12 [some (.ref (16 + c)), some (.ref 46), none] [.ref (16 + q0), .ref (16 + c)] (fun h' v => pw_I h' ∧ pw_E [c, c + 1, c + 2, c + 3, c + 4] h h' ∧ v = .inl none) := by
  have E : pm_ent 73 = some (2, 3, 7, 4, pmc_73) := rfl
  have E0 : pw_E [c, c + 1, c + 2, c + 3, c + 4] h h := pw_E.rf _ _
  refine pw_put0 I E (c := c) (k := 0) (pc' := 15) rfl rfl (pw_Sc_o hc) rfl ⟨q0, q0l, rfl, q0h, q0n, q0i⟩ (pw_scq q0h) rfl rfl rfl ?_
  intro h1I h1E
  generalize h1w : pw_w h c 0 (.ref (16 + q0)) = h1 at h1I h1E ⊢
  have h1F := E0.tr (h1E.wk (W' := [c, c + 1, c + 2, c + 3, c + 4]) (by first | rfl | simp))
  refine pw_ld E (pc' := 16) (st' := [.ref (16 + c)]) rfl (fun _ => rfl) ?_
  refine pw_ld E (pc' := 17) (st' := [.ref 46, .ref (16 + c)]) rfl (fun _ => rfl) ?_
  refine pw_getI h1I E (c := 30) (k := 1) (pc' := 20) rfl rfl rfl rfl rfl rfl (fun hf2a hf2b hf2c hf2d => ?_)
  refine pw_putI h1I E (c := c) (k := 1) (pc' := 23) rfl rfl (pw_Sc_o hc) rfl (by omega) (by omega) (by omega) (by omega) rfl rfl ?_
  intro h3I h3E
  generalize h3w : pw_w h1 c 1 (pw_i (pw_g h1 30 1)) = h3 at h3I h3E ⊢
  have h3F := h1F.tr (h3E.wk (W' := [c, c + 1, c + 2, c + 3, c + 4]) (by first | rfl | simp))
  refine pw_ld E (pc' := 24) (st' := [pw_i 0]) rfl (fun _ => rfl) ?_
  refine pw_istn E (pc' := 25) (ls' := [some (.ref (16 + c)), some (.ref 46), some (pw_i 0)]) rfl rfl rfl rfl ?_
  have L25 : ∀ (n25 : Nat) (k25_2 : Int) (h25 : pm_H), pw_I h25 → pw_E [c, c + 1, c + 2, c + 3, c + 4] h h25 → 0 ≤ k25_2 → k25_2 ≤ 4 → (4 - k25_2).toNat = n25 → pw X d h25 73 25 [some (.ref (16 + c)), some (.ref 46), some (pw_i k25_2)] [] (fun h' v => pw_I h' ∧ pw_E [c, c + 1, c + 2, c + 3, c + 4] h h' ∧ v = .inl none) := by
    intro n25
    induction n25 using Nat.strongRecOn with
    | ind n25 ih25 =>
      intro k25_2 h25 I25 E25 k25_2a k25_2b hm25
      refine pw_ld E (pc' := 26) (st' := [pw_i k25_2]) rfl (fun _ => rfl) ?_
      refine pw_ld E (pc' := 27) (st' := [pw_i 4, pw_i k25_2]) rfl (fun _ => rfl) ?_
      refine pw_if2 E (pc' := 84) rfl (by decide) (by omega) (by omega) (by decide) (by decide) ?_ ?_
      · intro hc4
        have hc4 : (4 : Int) ≤ k25_2 := hc4
        refine pw_vret E rfl ?_
        exact ⟨I25, E25, rfl⟩
      · intro hc5
        have hc5 : ¬ ((4 : Int) ≤ k25_2) := hc5
        refine pw_ld E (pc' := 31) (st' := [.ref (16 + c)]) rfl (fun _ => rfl) ?_
        refine pw_getR (b := 16 + (c + 1)) I25 E (c := c) (k := 2) (pc' := 34) rfl rfl (pw_Sc_o hc) rfl rfl rfl rfl ?_
        refine pw_ld E (pc' := 35) (st' := [pw_i k25_2, .ref (16 + (c + 1))]) rfl (fun _ => rfl) ?_
        refine pw_ld E (pc' := 36) (st' := [.ref 46, pw_i k25_2, .ref (16 + (c + 1))]) rfl (fun _ => rfl) ?_
        refine pw_getR (b := 47) I25 E (c := 30) (k := 2) (pc' := 39) rfl rfl rfl rfl rfl rfl rfl ?_
        refine pw_ld E (pc' := 40) (st' := [pw_i k25_2, .ref 47, pw_i k25_2, .ref (16 + (c + 1))]) rfl (fun _ => rfl) ?_
        refine pw_ald I25 E (c := 31) (pc' := 41) rfl rfl rfl (by decide) rfl (by decide) (by omega) (by omega) rfl (fun hf6a hf6b hf6c hf6d => ?_)
        refine pw_ast0 I25 E (c := c + 1) (pc' := 42) rfl rfl (pw_Sc_1 hc) (by decide) rfl (by decide) (by omega) (by omega) (pw_b1 (by omega) (by omega)) (by omega) (by omega) (by omega) (by omega) rfl ?_
        intro h7I h7E
        generalize h7w : pw_w h25 (c + 1) (k25_2.toNat) (pw_i (pw_g h25 31 (k25_2.toNat))) = h7 at h7I h7E ⊢
        have h7F := E25.tr (h7E.wk (W' := [c, c + 1, c + 2, c + 3, c + 4]) (by first | rfl | simp))
        refine pw_ld E (pc' := 43) (st' := [.ref (16 + c)]) rfl (fun _ => rfl) ?_
        refine pw_getR (b := 16 + (c + 2)) h7I E (c := c) (k := 3) (pc' := 46) rfl rfl (pw_Sc_o hc) rfl rfl rfl rfl ?_
        refine pw_ld E (pc' := 47) (st' := [pw_i k25_2, .ref (16 + (c + 2))]) rfl (fun _ => rfl) ?_
        refine pw_ld E (pc' := 48) (st' := [.ref 46, pw_i k25_2, .ref (16 + (c + 2))]) rfl (fun _ => rfl) ?_
        refine pw_getR (b := 48) h7I E (c := 30) (k := 3) (pc' := 51) rfl rfl rfl rfl rfl rfl rfl ?_
        refine pw_ld E (pc' := 52) (st' := [pw_i k25_2, .ref 48, pw_i k25_2, .ref (16 + (c + 2))]) rfl (fun _ => rfl) ?_
        refine pw_ald h7I E (c := 32) (pc' := 53) rfl rfl rfl (by decide) rfl (by decide) (by omega) (by omega) rfl (fun hf8a hf8b hf8c hf8d => ?_)
        refine pw_ast0 h7I E (c := c + 2) (pc' := 54) rfl rfl (pw_Sc_2 hc) (by decide) rfl (by decide) (by omega) (by omega) rfl (by omega) (by omega) (by omega) (by omega) rfl ?_
        intro h9I h9E
        generalize h9w : pw_w h7 (c + 2) (k25_2.toNat) (pw_i (pw_g h7 32 (k25_2.toNat))) = h9 at h9I h9E ⊢
        have h9F := h7F.tr (h9E.wk (W' := [c, c + 1, c + 2, c + 3, c + 4]) (by first | rfl | simp))
        refine pw_ld E (pc' := 55) (st' := [.ref (16 + c)]) rfl (fun _ => rfl) ?_
        refine pw_getR (b := 16 + (c + 3)) h9I E (c := c) (k := 4) (pc' := 58) rfl rfl (pw_Sc_o hc) rfl rfl rfl rfl ?_
        refine pw_ld E (pc' := 59) (st' := [pw_i k25_2, .ref (16 + (c + 3))]) rfl (fun _ => rfl) ?_
        refine pw_ld E (pc' := 60) (st' := [.ref 46, pw_i k25_2, .ref (16 + (c + 3))]) rfl (fun _ => rfl) ?_
        refine pw_getR (b := 49) h9I E (c := 30) (k := 4) (pc' := 63) rfl rfl rfl rfl rfl rfl rfl ?_
        refine pw_ld E (pc' := 64) (st' := [pw_i k25_2, .ref 49, pw_i k25_2, .ref (16 + (c + 3))]) rfl (fun _ => rfl) ?_
        refine pw_ald h9I E (c := 33) (pc' := 65) rfl rfl rfl (by decide) rfl (by decide) (by omega) (by omega) rfl (fun hf10a hf10b hf10c hf10d => ?_)
        refine pw_ast0 h9I E (c := c + 3) (pc' := 66) rfl rfl (pw_Sc_3 hc) (by decide) rfl (by decide) (by omega) (by omega) rfl (by omega) (by omega) (by omega) (by omega) rfl ?_
        intro h11I h11E
        generalize h11w : pw_w h9 (c + 3) (k25_2.toNat) (pw_i (pw_g h9 33 (k25_2.toNat))) = h11 at h11I h11E ⊢
        have h11F := h9F.tr (h11E.wk (W' := [c, c + 1, c + 2, c + 3, c + 4]) (by first | rfl | simp))
        refine pw_ld E (pc' := 67) (st' := [.ref (16 + c)]) rfl (fun _ => rfl) ?_
        refine pw_getR (b := 16 + (c + 4)) h11I E (c := c) (k := 5) (pc' := 70) rfl rfl (pw_Sc_o hc) rfl rfl rfl rfl ?_
        refine pw_ld E (pc' := 71) (st' := [pw_i k25_2, .ref (16 + (c + 4))]) rfl (fun _ => rfl) ?_
        refine pw_ld E (pc' := 72) (st' := [.ref 46, pw_i k25_2, .ref (16 + (c + 4))]) rfl (fun _ => rfl) ?_
        refine pw_getR (b := 50) h11I E (c := 30) (k := 5) (pc' := 75) rfl rfl rfl rfl rfl rfl rfl ?_
        refine pw_ld E (pc' := 76) (st' := [pw_i k25_2, .ref 50, pw_i k25_2, .ref (16 + (c + 4))]) rfl (fun _ => rfl) ?_
        refine pw_ald h11I E (c := 34) (pc' := 77) rfl rfl rfl (by decide) rfl (by decide) (by omega) (by omega) rfl (fun hf12a hf12b hf12c hf12d => ?_)
        refine pw_ast0 h11I E (c := c + 4) (pc' := 78) rfl rfl (pw_Sc_4 hc) (by decide) rfl (by decide) (by omega) (by omega) rfl (by omega) (by omega) (by omega) (by omega) rfl ?_
        intro h13I h13E
        generalize h13w : pw_w h11 (c + 4) (k25_2.toNat) (pw_i (pw_g h11 34 (k25_2.toNat))) = h13 at h13I h13E ⊢
        have h13F := h11F.tr (h13E.wk (W' := [c, c + 1, c + 2, c + 3, c + 4]) (by first | rfl | simp))
        refine pw_inc E (pc' := 81) (ls' := [some (.ref (16 + c)), some (.ref 46), some (pw_i (k25_2 + 1))]) rfl rfl rfl rfl ?_
        refine pw_goto E (pc' := 25) rfl (by decide) ?_
        exact ih25 _ (by omega) (k25_2 + 1) h13 h13I h13F (by omega) (by omega)  rfl
  exact L25 _ (0) h3 h3I h3F (by omega) (by omega)  rfl
theorem pw_G_push {W : List Nat} {h : pm_H} {l : List Value} (hl : l.length ≤ 1000) : pw_G W h (h ++ [.inl (0, l)]) := by
  refine ⟨⟨by simp, by simp, by rw [pm_slt_push]; omega, by rw [pm_slt_push]; show pm_slt h + l.length ≤ _; omega⟩, fun c hc _ => List.getElem?_append_left hc⟩
theorem cm_73 {X : List (Nat × List Value)} {d : Nat} {h : pm_H} (hd : 2 ≤ d) (I : pw_I h) (c : Nat) (hc : pw_Sc c) (hlen : pw_g h 30 1 ≤ 999) : pw X d h 73 0 [some (.ref (16 + c)), some (.ref 46), none] [] (fun h' v => pw_I h' ∧ pw_G [c, c + 1, c + 2, c + 3, c + 4] h h' ∧ v = .inl none) := by
  have E : pm_ent 73 = some (2, 3, 7, 4, pmc_73) := rfl
  refine pw_ld E (pc' := 1) (st' := [.ref (16 + c)]) rfl (fun _ => rfl) ?_
  refine pw_ld E (pc' := 2) (st' := [.ref 46, .ref (16 + c)]) rfl (fun _ => rfl) ?_
  refine pw_getR (b := 52) I E (c := 30) (k := 0) (pc' := 5) rfl rfl rfl rfl rfl rfl rfl ?_
  refine pw_ld E (pc' := 6) (st' := [.ref 46, .ref 52, .ref (16 + c)]) rfl (fun _ => rfl) ?_
  refine pw_getI I E (c := 30) (k := 1) (pc' := 9) rfl rfl rfl rfl rfl rfl (fun ha hb _ _ => ?_)
  obtain ⟨l, e1, e2, e3⟩ := pw_arr (c := 36) I rfl
  refine pw_call (m' := 325) (As := [.ref 52, pw_i (pw_g h 30 1)]) (rest := [.ref (16 + c)]) (ls'' := [some (.ref (16 + 36)), some (pw_i (pw_g h 30 1)), none]) (by omega) E rfl (fun _ => pw_iS rfl rfl rfl) (rfl : pm_ent 325 = some (2, 3, 14, 3, pmc_325)) rfl rfl (cm_325 e1 e2 ha hlen) ?_
  rintro h1 v1 ⟨rfl, rfl⟩
  refine ⟨_, rfl, ?_⟩
  have ht : (l.take (pw_g h 30 1).toNat).length ≤ 1000 := by rw [List.length_take]; omega
  refine pw_mono (cm_73t (pw_I_push rfl I) c hc h.length (l.take (pw_g h 30 1).toNat) (by rw [List.getElem?_append_right (Nat.le_refl _), Nat.sub_self]; rfl) ht (fun j v hv => ?_)) ?_
  · rw [List.getElem?_take] at hv
    split at hv
    · obtain ⟨a, rfl, -⟩ := e3 j v hv
      exact ⟨_, rfl⟩
    · cases hv
  · rintro h2 v2 ⟨I2, E2, rfl⟩
    exact ⟨I2, (pw_G_push ht).tE E2, rfl⟩
set_option maxHeartbeats 4000000 in
theorem cm_143_26 {X : List (Nat × List Value)} {d : Nat} {h : pm_H} (hd : 7 ≤ d) (I : pw_I h) (hX : pw_Xk X) (hR : pw_Xr X) (c : Nat) (hc : pw_Sc c) : pw X d h 143 0 [some (.ref 16), some (.ref 42), some (.ref (16 + c)), none] [] (fun h' v => pw_I h' ∧ pw_G [24, 26, 27, 30, 31, 32, 33, 34, 36, c, c + 1, c + 2, c + 3, c + 4] h h' ∧ ∃ a : Int, v = .inl (some (pw_i a)) ∧ (-2147483648) ≤ a ∧ a ≤ 2147483647) := by
  have E : pm_ent 143 = some (3, 4, 11, 0, pmc_143) := rfl
  refine pw_ld E (pc' := 1) (st' := [.ref 42]) rfl (fun _ => rfl) ?_
  refine pw_ld E (pc' := 2) (st' := [.ref 16, .ref 42]) rfl (fun _ => rfl) ?_
  refine pw_getR (b := 40) I E (c := 0) (k := 10) (pc' := 5) rfl rfl rfl rfl rfl rfl rfl ?_
  refine pw_ld E (pc' := 6) (st' := [.ref 16, .ref 40, .ref 42]) rfl (fun _ => rfl) ?_
  refine pw_getR (b := 46) I E (c := 0) (k := 13) (pc' := 9) rfl rfl rfl rfl rfl rfl rfl ?_
  obtain ⟨f1l, f1h, -⟩ := pw_obj (c := 26) I rfl
  refine pw_call (m' := 44) (As := [.ref 42, .ref 40, .ref 46]) (rest := []) (ls'' := [some (.ref 42), some (.ref 40), some (.ref 46), none, none]) (by omega) E rfl (fun _ => pw_iV rfl rfl rfl rfl (pw_cellI f1h rfl)) (rfl : pm_ent 44 = some (3, 5, 5, 0, pmc_44)) rfl rfl (cm_44_26 (by omega) I hX hR) ?_
  rintro h1 v1 ⟨I1, E1, a, rfl, ha, hb, hz⟩
  refine ⟨_, rfl, ?_⟩
  show pw X d h1 143 12 [some (.ref 16), some (.ref 42), some (.ref (16 + c)), none] [pw_i a] _
  refine pw_istn E (pc' := 13) (ls' := [some (.ref 16), some (.ref 42), some (.ref (16 + c)), some (pw_i a)]) rfl rfl rfl rfl ?_
  refine pw_ld E (pc' := 14) (st' := [.ref 16]) rfl (fun _ => rfl) ?_
  refine pw_getR (b := 40) I1 E (c := 0) (k := 10) (pc' := 17) rfl rfl rfl rfl rfl rfl rfl ?_
  obtain ⟨f2l, f2h, -⟩ := pw_obj (c := 24) I1 rfl
  refine pw_call (m' := 99) (As := [.ref 40]) (rest := []) (ls'' := [some (.ref 40)]) (by omega) E rfl (fun _ => pw_iV rfl rfl rfl rfl (pw_cellI f2h rfl)) (rfl : pm_ent 99 = some (1, 1, 9, 4, pmc_99)) rfl rfl (cm_99 (by omega) I1) ?_
  rintro h2 v2 ⟨I2, E2, rfl⟩
  refine ⟨_, rfl, ?_⟩
  show pw X d h2 143 20 [some (.ref 16), some (.ref 42), some (.ref (16 + c)), some (pw_i a)] [] _
  have e30 : pw_g h2 30 1 = pw_g h1 30 1 := pw_Eg (c := 30) I1 E2 rfl rfl 1
  have EE : pw_E [24, 26, 27, 30, 31, 32, 33, 34, 36, c, c + 1, c + 2, c + 3, c + 4] h h2 := (E1.wk (W' := [24, 26, 27, 30, 31, 32, 33, 34, 36, c, c + 1, c + 2, c + 3, c + 4]) (by simp)).tr (E2.wk (W' := [24, 26, 27, 30, 31, 32, 33, 34, 36, c, c + 1, c + 2, c + 3, c + 4]) (by simp))
  refine pw_ld E (pc' := 21) (st' := [pw_i a]) rfl (fun _ => rfl) ?_
  refine pw_if E (pc' := 32) rfl (by decide) ha hb ?_ ?_
  · intro _
    refine pw_ld E (pc' := 33) (st' := [pw_i a]) rfl (fun _ => rfl) ?_
    refine pw_iret E rfl ?_
    exact ⟨I2, EE.G, a, rfl, ha, hb⟩
  · intro hn
    have hn : ¬ (a ≠ 0) := hn
    refine pw_ld E (pc' := 25) (st' := [.ref (16 + c)]) rfl (fun _ => rfl) ?_
    refine pw_ld E (pc' := 26) (st' := [.ref 16, .ref (16 + c)]) rfl (fun _ => rfl) ?_
    refine pw_getR (b := 46) I2 E (c := 0) (k := 13) (pc' := 29) rfl rfl rfl rfl rfl rfl rfl ?_
    obtain ⟨f3l, f3h, -⟩ := pw_obj (c := c) I2 (pw_Sc_o hc)
    refine pw_call (m' := 73) (As := [.ref (16 + c), .ref 46]) (rest := []) (ls'' := [some (.ref (16 + c)), some (.ref 46), none]) (by omega) E rfl (fun _ => pw_iV rfl rfl rfl rfl (pw_cellI f3h rfl)) (rfl : pm_ent 73 = some (2, 3, 7, 4, pmc_73)) rfl rfl (cm_73 (by omega) I2 c hc (by omega)) ?_
    rintro h3 v3 ⟨I3, G3, rfl⟩
    refine ⟨_, rfl, ?_⟩
    show pw X d h3 143 32 [some (.ref 16), some (.ref 42), some (.ref (16 + c)), some (pw_i a)] [] _
    refine pw_ld E (pc' := 33) (st' := [pw_i a]) rfl (fun _ => rfl) ?_
    refine pw_iret E rfl ?_
    exact ⟨I3, EE.tG (G3.wk (W' := [24, 26, 27, 30, 31, 32, 33, 34, 36, c, c + 1, c + 2, c + 3, c + 4]) (by simp)), a, rfl, ha, hb⟩
set_option maxHeartbeats 4000000 in
theorem cm_143_28 {X : List (Nat × List Value)} {d : Nat} {h : pm_H} (hd : 7 ≤ d) (I : pw_I h) (hX : pw_Xk X) (hR : pw_Xr X) (c : Nat) (hc : pw_Sc c) : pw X d h 143 0 [some (.ref 16), some (.ref 44), some (.ref (16 + c)), none] [] (fun h' v => pw_I h' ∧ pw_G [24, 28, 29, 30, 31, 32, 33, 34, 36, c, c + 1, c + 2, c + 3, c + 4] h h' ∧ ∃ a : Int, v = .inl (some (pw_i a)) ∧ (-2147483648) ≤ a ∧ a ≤ 2147483647) := by
  have E : pm_ent 143 = some (3, 4, 11, 0, pmc_143) := rfl
  refine pw_ld E (pc' := 1) (st' := [.ref 44]) rfl (fun _ => rfl) ?_
  refine pw_ld E (pc' := 2) (st' := [.ref 16, .ref 44]) rfl (fun _ => rfl) ?_
  refine pw_getR (b := 40) I E (c := 0) (k := 10) (pc' := 5) rfl rfl rfl rfl rfl rfl rfl ?_
  refine pw_ld E (pc' := 6) (st' := [.ref 16, .ref 40, .ref 44]) rfl (fun _ => rfl) ?_
  refine pw_getR (b := 46) I E (c := 0) (k := 13) (pc' := 9) rfl rfl rfl rfl rfl rfl rfl ?_
  obtain ⟨f1l, f1h, -⟩ := pw_obj (c := 28) I rfl
  refine pw_call (m' := 44) (As := [.ref 44, .ref 40, .ref 46]) (rest := []) (ls'' := [some (.ref 44), some (.ref 40), some (.ref 46), none, none]) (by omega) E rfl (fun _ => pw_iV rfl rfl rfl rfl (pw_cellI f1h rfl)) (rfl : pm_ent 44 = some (3, 5, 5, 0, pmc_44)) rfl rfl (cm_44_28 (by omega) I hX hR) ?_
  rintro h1 v1 ⟨I1, E1, a, rfl, ha, hb, hz⟩
  refine ⟨_, rfl, ?_⟩
  show pw X d h1 143 12 [some (.ref 16), some (.ref 44), some (.ref (16 + c)), none] [pw_i a] _
  refine pw_istn E (pc' := 13) (ls' := [some (.ref 16), some (.ref 44), some (.ref (16 + c)), some (pw_i a)]) rfl rfl rfl rfl ?_
  refine pw_ld E (pc' := 14) (st' := [.ref 16]) rfl (fun _ => rfl) ?_
  refine pw_getR (b := 40) I1 E (c := 0) (k := 10) (pc' := 17) rfl rfl rfl rfl rfl rfl rfl ?_
  obtain ⟨f2l, f2h, -⟩ := pw_obj (c := 24) I1 rfl
  refine pw_call (m' := 99) (As := [.ref 40]) (rest := []) (ls'' := [some (.ref 40)]) (by omega) E rfl (fun _ => pw_iV rfl rfl rfl rfl (pw_cellI f2h rfl)) (rfl : pm_ent 99 = some (1, 1, 9, 4, pmc_99)) rfl rfl (cm_99 (by omega) I1) ?_
  rintro h2 v2 ⟨I2, E2, rfl⟩
  refine ⟨_, rfl, ?_⟩
  show pw X d h2 143 20 [some (.ref 16), some (.ref 44), some (.ref (16 + c)), some (pw_i a)] [] _
  have e30 : pw_g h2 30 1 = pw_g h1 30 1 := pw_Eg (c := 30) I1 E2 rfl rfl 1
  have EE : pw_E [24, 28, 29, 30, 31, 32, 33, 34, 36, c, c + 1, c + 2, c + 3, c + 4] h h2 := (E1.wk (W' := [24, 28, 29, 30, 31, 32, 33, 34, 36, c, c + 1, c + 2, c + 3, c + 4]) (by simp)).tr (E2.wk (W' := [24, 28, 29, 30, 31, 32, 33, 34, 36, c, c + 1, c + 2, c + 3, c + 4]) (by simp))
  refine pw_ld E (pc' := 21) (st' := [pw_i a]) rfl (fun _ => rfl) ?_
  refine pw_if E (pc' := 32) rfl (by decide) ha hb ?_ ?_
  · intro _
    refine pw_ld E (pc' := 33) (st' := [pw_i a]) rfl (fun _ => rfl) ?_
    refine pw_iret E rfl ?_
    exact ⟨I2, EE.G, a, rfl, ha, hb⟩
  · intro hn
    have hn : ¬ (a ≠ 0) := hn
    refine pw_ld E (pc' := 25) (st' := [.ref (16 + c)]) rfl (fun _ => rfl) ?_
    refine pw_ld E (pc' := 26) (st' := [.ref 16, .ref (16 + c)]) rfl (fun _ => rfl) ?_
    refine pw_getR (b := 46) I2 E (c := 0) (k := 13) (pc' := 29) rfl rfl rfl rfl rfl rfl rfl ?_
    obtain ⟨f3l, f3h, -⟩ := pw_obj (c := c) I2 (pw_Sc_o hc)
    refine pw_call (m' := 73) (As := [.ref (16 + c), .ref 46]) (rest := []) (ls'' := [some (.ref (16 + c)), some (.ref 46), none]) (by omega) E rfl (fun _ => pw_iV rfl rfl rfl rfl (pw_cellI f3h rfl)) (rfl : pm_ent 73 = some (2, 3, 7, 4, pmc_73)) rfl rfl (cm_73 (by omega) I2 c hc (by omega)) ?_
    rintro h3 v3 ⟨I3, G3, rfl⟩
    refine ⟨_, rfl, ?_⟩
    show pw X d h3 143 32 [some (.ref 16), some (.ref 44), some (.ref (16 + c)), some (pw_i a)] [] _
    refine pw_ld E (pc' := 33) (st' := [pw_i a]) rfl (fun _ => rfl) ?_
    refine pw_iret E rfl ?_
    exact ⟨I3, EE.tG (G3.wk (W' := [24, 28, 29, 30, 31, 32, 33, 34, 36, c, c + 1, c + 2, c + 3, c + 4]) (by simp)), a, rfl, ha, hb⟩
/-- the cells that law and writer of the class may write -/
def pw_WL : List Nat := [24, 26, 27, 28, 29, 30, 31, 32, 33, 34, 36] ++ (List.range 56).map (fun j => 39 + j)
set_option maxHeartbeats 4000000 in
theorem cm_141 {X : List (Nat × List Value)} {d : Nat} {h : pm_H} (hd : 8 ≤ d) (I : pw_I h) (hX : pw_Xk X) (hR : pw_Xr X) (l : Int) (hl1 : (-2147483648) ≤ l) (hl2 : l ≤ 2147483647) : pw X d h 141 0 [some (.ref 16), some (pw_i l)] [] (fun h' v => pw_I h' ∧ pw_G pw_WL h h' ∧ ∃ a : Int, v = .inl (some (pw_i a)) ∧ (-2147483648) ≤ a ∧ a ≤ 2147483647) := by
  have E : pm_ent 141 = some (2, 2, 11, 0, pmc_141) := rfl
  refine pw_ld E (pc' := 1) (st' := [pw_i l]) rfl (fun _ => rfl) ?_
  refine pw_call (m' := 142) (As := [pw_i l]) (rest := []) (ls'' := [some (pw_i l)]) (by omega) E rfl (fun _ => pw_iS rfl rfl rfl) (rfl : pm_ent 142 = some (1, 1, 11, 1, pmc_142)) rfl rfl (cm_142 (by omega) I (l) (by omega) (by omega)) ?_
  rintro u v ⟨rfl, x, rfl, hxa, hxb, hxr⟩
  refine ⟨_, rfl, ?_⟩
  show pw X d h 141 4 [some (.ref 16), some (pw_i l)] [pw_i x] _
  refine pw_if E (pc' := 16) rfl (by decide) (by omega) (by omega) ?_ ?_
  · intro hn
    have hn : x ≠ 0 := hn
    refine pw_ld E (pc' := 17) (st' := [.ref 16]) rfl (fun _ => rfl) ?_
    refine pw_ld E (pc' := 18) (st' := [.ref 16, .ref 16]) rfl (fun _ => rfl) ?_
    refine pw_getR (b := 42) I E (c := 0) (k := 11) (pc' := 21) rfl rfl rfl rfl rfl rfl rfl ?_
    refine pw_ld E (pc' := 22) (st' := [.ref 16, .ref 42, .ref 16]) rfl (fun _ => rfl) ?_
    refine pw_getR (b := 53) I E (c := 0) (k := 14) (pc' := 25) rfl rfl rfl rfl rfl rfl rfl ?_
    refine pw_ld E (pc' := 26) (st' := [pw_i l, .ref 53, .ref 42, .ref 16]) rfl (fun _ => rfl) ?_
    obtain ⟨c, hc, hcl⟩ : ∃ c : Nat, pw_Sc c ∧ (((55 : Int) + 14 * ((l.toNat : Nat) : Int)).toNat = 16 + c) := by
      rcases (by omega : l = 0 ∨ l = 1 ∨ l = 2 ∨ l = 3) with rfl | rfl | rfl | rfl
      · exact ⟨39, by unfold pw_Sc; omega, rfl⟩
      · exact ⟨53, by unfold pw_Sc; omega, rfl⟩
      · exact ⟨67, by unfold pw_Sc; omega, rfl⟩
      · exact ⟨81, by unfold pw_Sc; omega, rfl⟩
    refine pw_aald (b := 16 + c) I E (c := 37) (pc' := 27) rfl rfl (by decide) rfl (by decide) (by omega) (by omega) hcl rfl ?_
    obtain ⟨f1l, f1h, -⟩ := pw_obj (c := 0) I rfl
    refine pw_call (m' := 143) (As := [.ref 16, .ref 42, .ref (16 + c)]) (rest := []) (ls'' := [some (.ref 16), some (.ref 42), some (.ref (16 + c)), none]) (by omega) E rfl (fun _ => pw_iV rfl rfl rfl rfl (pw_cellI f1h rfl)) (rfl : pm_ent 143 = some (3, 4, 11, 0, pmc_143)) rfl rfl (cm_143_26 (by omega) I hX hR c hc) ?_
    rintro h1 v1 ⟨I1, G1, a, rfl, ha, hb⟩
    refine ⟨_, rfl, ?_⟩
    show pw X d h1 141 30 [some (.ref 16), some (pw_i l)] [pw_i a] _
    refine pw_iret E rfl ?_
    refine ⟨I1, G1.wk ?_, a, rfl, ha, hb⟩
    rcases hc with rfl | rfl | rfl | rfl | rfl | rfl | rfl | rfl <;> decide
  · intro hn
    refine pw_ld E (pc' := 8) (st' := [.ref 16]) rfl (fun _ => rfl) ?_
    refine pw_getR (b := 40) I E (c := 0) (k := 10) (pc' := 11) rfl rfl rfl rfl rfl rfl rfl ?_
    obtain ⟨f2l, f2h, -⟩ := pw_obj (c := 24) I rfl
    refine pw_call (m' := 99) (As := [.ref 40]) (rest := []) (ls'' := [some (.ref 40)]) (by omega) E rfl (fun _ => pw_iV rfl rfl rfl rfl (pw_cellI f2h rfl)) (rfl : pm_ent 99 = some (1, 1, 9, 4, pmc_99)) rfl rfl (cm_99 (by omega) I) ?_
    rintro h2 v2 ⟨I2, E2, rfl⟩
    refine ⟨_, rfl, ?_⟩
    show pw X d h2 141 14 [some (.ref 16), some (pw_i l)] [] _
    refine pw_ld E (pc' := 15) (st' := [pw_i (-1)]) rfl (fun _ => rfl) ?_
    refine pw_iret E rfl ?_
    exact ⟨I2, (E2.wk (W' := pw_WL) (by decide)).G, -1, rfl, by decide, by decide⟩
set_option maxHeartbeats 4000000 in
theorem cm_153 {X : List (Nat × List Value)} {d : Nat} {h : pm_H} (hd : 8 ≤ d) (I : pw_I h) (hX : pw_Xk X) (hR : pw_Xr X) (l : Int) (hl1 : (-2147483648) ≤ l) (hl2 : l ≤ 2147483647) : pw X d h 153 0 [some (.ref 16), some (pw_i l)] [] (fun h' v => pw_I h' ∧ pw_G pw_WL h h' ∧ ∃ a : Int, v = .inl (some (pw_i a)) ∧ (-2147483648) ≤ a ∧ a ≤ 2147483647) := by
  have E : pm_ent 153 = some (2, 2, 11, 0, pmc_153) := rfl
  refine pw_ld E (pc' := 1) (st' := [pw_i l]) rfl (fun _ => rfl) ?_
  refine pw_call (m' := 142) (As := [pw_i l]) (rest := []) (ls'' := [some (pw_i l)]) (by omega) E rfl (fun _ => pw_iS rfl rfl rfl) (rfl : pm_ent 142 = some (1, 1, 11, 1, pmc_142)) rfl rfl (cm_142 (by omega) I (l) (by omega) (by omega)) ?_
  rintro u v ⟨rfl, x, rfl, hxa, hxb, hxr⟩
  refine ⟨_, rfl, ?_⟩
  show pw X d h 153 4 [some (.ref 16), some (pw_i l)] [pw_i x] _
  refine pw_if E (pc' := 16) rfl (by decide) (by omega) (by omega) ?_ ?_
  · intro hn
    have hn : x ≠ 0 := hn
    refine pw_ld E (pc' := 17) (st' := [.ref 16]) rfl (fun _ => rfl) ?_
    refine pw_ld E (pc' := 18) (st' := [.ref 16, .ref 16]) rfl (fun _ => rfl) ?_
    refine pw_getR (b := 44) I E (c := 0) (k := 12) (pc' := 21) rfl rfl rfl rfl rfl rfl rfl ?_
    refine pw_ld E (pc' := 22) (st' := [.ref 16, .ref 44, .ref 16]) rfl (fun _ => rfl) ?_
    refine pw_getR (b := 54) I E (c := 0) (k := 15) (pc' := 25) rfl rfl rfl rfl rfl rfl rfl ?_
    refine pw_ld E (pc' := 26) (st' := [pw_i l, .ref 54, .ref 44, .ref 16]) rfl (fun _ => rfl) ?_
    obtain ⟨c, hc, hcl⟩ : ∃ c : Nat, pw_Sc c ∧ (((62 : Int) + 14 * ((l.toNat : Nat) : Int)).toNat = 16 + c) := by
      rcases (by omega : l = 0 ∨ l = 1 ∨ l = 2 ∨ l = 3) with rfl | rfl | rfl | rfl
      · exact ⟨46, by unfold pw_Sc; omega, rfl⟩
      · exact ⟨60, by unfold pw_Sc; omega, rfl⟩
      · exact ⟨74, by unfold pw_Sc; omega, rfl⟩
      · exact ⟨88, by unfold pw_Sc; omega, rfl⟩
    refine pw_aald (b := 16 + c) I E (c := 38) (pc' := 27) rfl rfl (by decide) rfl (by decide) (by omega) (by omega) hcl rfl ?_
    obtain ⟨f1l, f1h, -⟩ := pw_obj (c := 0) I rfl
    refine pw_call (m' := 143) (As := [.ref 16, .ref 44, .ref (16 + c)]) (rest := []) (ls'' := [some (.ref 16), some (.ref 44), some (.ref (16 + c)), none]) (by omega) E rfl (fun _ => pw_iV rfl rfl rfl rfl (pw_cellI f1h rfl)) (rfl : pm_ent 143 = some (3, 4, 11, 0, pmc_143)) rfl rfl (cm_143_28 (by omega) I hX hR c hc) ?_
    rintro h1 v1 ⟨I1, G1, a, rfl, ha, hb⟩
    refine ⟨_, rfl, ?_⟩
    show pw X d h1 153 30 [some (.ref 16), some (pw_i l)] [pw_i a] _
    refine pw_iret E rfl ?_
    refine ⟨I1, G1.wk ?_, a, rfl, ha, hb⟩
    rcases hc with rfl | rfl | rfl | rfl | rfl | rfl | rfl | rfl <;> decide
  · intro hn
    refine pw_ld E (pc' := 8) (st' := [.ref 16]) rfl (fun _ => rfl) ?_
    refine pw_getR (b := 40) I E (c := 0) (k := 10) (pc' := 11) rfl rfl rfl rfl rfl rfl rfl ?_
    obtain ⟨f2l, f2h, -⟩ := pw_obj (c := 24) I rfl
    refine pw_call (m' := 99) (As := [.ref 40]) (rest := []) (ls'' := [some (.ref 40)]) (by omega) E rfl (fun _ => pw_iV rfl rfl rfl rfl (pw_cellI f2h rfl)) (rfl : pm_ent 99 = some (1, 1, 9, 4, pmc_99)) rfl rfl (cm_99 (by omega) I) ?_
    rintro h2 v2 ⟨I2, E2, rfl⟩
    refine ⟨_, rfl, ?_⟩
    show pw X d h2 153 14 [some (.ref 16), some (pw_i l)] [] _
    refine pw_ld E (pc' := 15) (st' := [pw_i (-1)]) rfl (fun _ => rfl) ?_
    refine pw_iret E rfl ?_
    exact ⟨I2, (E2.wk (W' := pw_WL) (by decide)).G, -1, rfl, by decide, by decide⟩
end
section
/-! the law's own frame (printed by wip/tool/mlawrules.py) -/
def pwl (X : List (Nat × List Value)) (K : Nat) (h : pm_H) (pc : Nat) (ls : pm_L) (st : List Value) (Q : pm_H → (Option Value ⊕ Unit) → Prop) : Prop :=
  ∃ k N0 o, k ≤ K ∧ Q o.1 o.2 ∧ ∀ N, N0 ≤ N → pm_xk X N k 50 h 309 pc ls st = some o
theorem pwl_mono {X : List (Nat × List Value)} {K K' : Nat} {h : pm_H} {pc : Nat} {ls : pm_L} {st : List Value} {Q : pm_H → (Option Value ⊕ Unit) → Prop} (hk : K ≤ K') (H : pwl X K h pc ls st Q) : pwl X K' h pc ls st Q := by
  obtain ⟨k, N0, o, h1, h2, h3⟩ := H
  exact ⟨k, N0, o, Nat.le_trans h1 hk, h2, h3⟩
theorem pm_xk_at {X : List (Nat × List Value)} {N k d : Nat} {h : pm_H} {m pc len na nl own rt : Nat} {C : pm_T (Instr × Nat)} {ls : pm_L} {st : List Value} {i : Instr} (he : pm_ent m = some (na, nl, own, rt, C)) (hq : pm_get C pc = some (i, len)) : pm_xk X N (k + 1) d h m pc ls st = pm_dsp X i (pm_ik X N (pm_xk X N k)) d h m own pc len ls st := by
  show pm_F X (pm_ik X N (pm_xk X N k)) d h m pc ls st = _
  unfold pm_F
  rw [he]
  show (match pm_get C pc with
    | none => none
    | some q => pm_dsp X q.1 (pm_ik X N (pm_xk X N k)) d h m own pc q.2 ls st) = _
  rw [hq]
theorem pm_ik_309 {X : List (Nat × List Value)} {N : Nat} {K : pm_I} {d : Nat} {h : pm_H} {pc : Nat} {ls : pm_L} {st : List Value} : pm_ik X N K d h 309 pc ls st = K d h 309 pc ls st := by
  unfold pm_ik
  rw [Nat.beq_refl]
  rfl
/-- an int of the script -/
def pw_s (xs : List Int32) (j : Int) : Int := (xs.getD j.toNat 0).toInt
theorem pw_s_r (xs : List Int32) (j : Int) : -2147483648 ≤ pw_s xs j ∧ pw_s xs j ≤ 2147483647 := pw_i32r _
section Pl
variable {X : List (Nat × List Value)} {K : Nat} {h h' : pm_H} {pc pc' len na nl own rt : Nat} {C : pm_T (Instr × Nat)} {ls ls' : pm_L} {st st' r : List Value} {Q : pm_H → (Option Value ⊕ Unit) → Prop} {i : Instr}
theorem pwl_go (he : pm_ent 309 = some (na, nl, own, rt, C)) (hq : pm_get C pc = some (i, len)) (hs : ∀ ih : pm_I, pm_dsp X i ih 50 h 309 own pc len ls st = ih 50 h' 309 pc' ls' st') (H : pwl X K h' pc' ls' st' Q) : pwl X (K + 1) h pc ls st Q := by
  obtain ⟨k, N0, o, hk, hQ, hn⟩ := H
  refine ⟨k + 1, N0, o, by omega, hQ, fun n hn' => ?_⟩
  rw [pm_xk_at he hq]
  exact (hs _).trans (pm_ik_309.trans (hn n hn'))
theorem pwl_end {v : Option Value ⊕ Unit} (he : pm_ent 309 = some (na, nl, own, rt, C)) (hq : pm_get C pc = some (i, len)) (hs : ∀ ih : pm_I, pm_dsp X i ih 50 h 309 own pc len ls st = some (h, v)) (H : Q h v) : pwl X (K + 1) h pc ls st Q := by
  refine ⟨1, 0, (h, v), by omega, H, fun n hn' => ?_⟩
  rw [pm_xk_at he hq]
  exact hs _
theorem pwl_ld (he : pm_ent 309 = some (na, nl, own, rt, C)) (hq : pm_get C pc = some (i, len)) (hs : ∀ ih : pm_I, pm_dsp X i ih 50 h 309 own pc len ls st = ih 50 h 309 pc' ls st') (H : pwl X K h pc' ls st' Q) : pwl X (K + 1) h pc ls st Q := pwl_go he hq hs H
theorem pwl_nmx {x : Int32} (H : ∀ b : Int, -2147483648 ≤ b → b ≤ 2147483647 → pwl X K h pc ls (pw_i b :: r) Q) : pwl X K h pc ls (.int x :: r) Q := by
  obtain ⟨b, h1, h2, h3⟩ := pw_any x
  rw [h3]
  exact H b h1 h2
theorem pwl_bip {n : Int} (he : pm_ent 309 = some (na, nl, own, rt, C)) (hq : pm_get C pc = some (.bipush n, len)) (hc : pc + len = pc') (hv : (Int8.ofInt n).toInt32 = Int32.ofInt n) (H : pwl X K h pc' ls (pw_i n :: st) Q) : pwl X (K + 1) h pc ls st Q := by
  subst hc
  refine pwl_ld he hq (st' := .int (Int8.ofInt n).toInt32 :: st) (pc' := pc + len) (fun ih => ?_) (by rw [hv]; exact H)
  exact pm_fn_eq (pc + len) (fun q => ih 50 h 309 q ls (.int (Int8.ofInt n).toInt32 :: st))
theorem pwl_ist {k : Nat} {a : Int} (he : pm_ent 309 = some (na, nl, own, rt, C)) (hq : pm_get C pc = some (.istore k, len)) (hk : Nat.blt k (pm_len ls) = true) (hp : pm_put1 ls k (pw_i a) = ls') (hc : pc + len = pc') (H : pwl X K h pc' ls' r Q) : pwl X (K + 1) h pc ls (pw_i a :: r) Q := by
  subst hc; subst hp
  refine pwl_go he hq (fun ih => ?_) H
  show cond (Nat.blt k (pm_len ls)) (pm_fi (Int32.ofInt a) fun y => pm_fn (pc + len) fun q => ih 50 h 309 q (pm_put1 ls k (.int y)) r) none = _
  rw [hk, cond_true, pm_fi_eq, pm_fn_eq]
  rfl
theorem pwl_lst {k : Nat} {w : Int64} (he : pm_ent 309 = some (na, nl, own, rt, C)) (hq : pm_get C pc = some (.lstore k, len)) (hk : Nat.blt (k + 1) (pm_len ls) = true) (hp : pm_put2 ls k (.long w) = ls') (hc : pc + len = pc') (H : pwl X K h pc' ls' r Q) : pwl X (K + 1) h pc ls (.long w :: r) Q := by
  subst hc; subst hp
  refine pwl_go he hq (fun ih => ?_) H
  show cond (Nat.blt (k + 1) (pm_len ls)) (pm_fl w fun y => pm_fn (pc + len) fun q => ih 50 h 309 q (pm_put2 ls k (.long y)) r) none = _
  rw [hk, cond_true, pm_fl_eq, pm_fn_eq]
theorem pwl_astn {k : Fin 4} {a : Nat} (he : pm_ent 309 = some (na, nl, own, rt, C)) (hq : pm_get C pc = some (.astore_n k, len)) (hk : Nat.blt k.val (pm_len ls) = true) (hp : pm_put1 ls k.val (.ref a) = ls') (hc : pc + len = pc') (H : pwl X K h pc' ls' r Q) : pwl X (K + 1) h pc ls (.ref a :: r) Q := by
  subst hc; subst hp
  refine pwl_go he hq (fun ih => ?_) H
  show cond (Nat.blt k.val (pm_len ls)) (pm_fn (pc + len) fun q => ih 50 h 309 q (pm_put1 ls k.val (.ref a)) r) none = _
  rw [hk, cond_true, pm_fn_eq]
theorem pwl_inc {k : Nat} {n a : Int} (he : pm_ent 309 = some (na, nl, own, rt, C)) (hq : pm_get C pc = some (.iinc k n, 3)) (hl : pm_nth ls k = some (some (pw_i a))) (hp : pm_put1 ls k (pw_i (a + n)) = ls') (hc : pc + 3 = pc') (H : pwl X K h pc' ls' st Q) : pwl X (K + 1) h pc ls st Q := by
  subst hc; subst hp
  refine pwl_go he hq (fun ih => ?_) H
  show pm_lift (pm_sInc k n) ih 50 h 309 own pc 3 ls st = _
  unfold pm_lift pm_sInc
  rw [hl]
  show cond (Nat.beq 3 3) (pm_fi (Int32.ofInt a + Int32.ofInt n) fun y => pm_fn (pc + 3) fun q => ih 50 h 309 q (pm_put1 ls k (.int y)) st) none = _
  rw [Nat.beq_refl, cond_true, pm_fi_eq, pm_fn_eq, ← Int32.ofInt_add]
  rfl
theorem pwl_add {a b : Int} (he : pm_ent 309 = some (na, nl, own, rt, C)) (hq : pm_get C pc = some (.iadd, len)) (hc : pc + len = pc') (H : pwl X K h pc' ls (pw_i (a + b) :: r) Q) : pwl X (K + 1) h pc ls (pw_i b :: pw_i a :: r) Q := by
  subst hc
  refine pwl_ld he hq (st' := pw_i (a + b) :: r) (pc' := pc + len) (fun ih => ?_) H
  unfold pw_i
  rw [Int32.ofInt_add]
  exact pm_fn_eq (pc + len) (fun q => ih 50 h 309 q ls (.int (Int32.ofInt a + Int32.ofInt b) :: r))
theorem pwl_sub {a b : Int} (he : pm_ent 309 = some (na, nl, own, rt, C)) (hq : pm_get C pc = some (.isub, len)) (hc : pc + len = pc') (H : pwl X K h pc' ls (pw_i (a - b) :: r) Q) : pwl X (K + 1) h pc ls (pw_i b :: pw_i a :: r) Q := by
  subst hc
  refine pwl_ld he hq (st' := pw_i (a - b) :: r) (pc' := pc + len) (fun ih => ?_) H
  unfold pw_i
  rw [Int32.ofInt_sub]
  exact pm_fn_eq (pc + len) (fun q => ih 50 h 309 q ls (.int (Int32.ofInt a - Int32.ofInt b) :: r))
theorem pwl_ii {f : Int32 → Int32 → Int32} {a b : Int} (he : pm_ent 309 = some (na, nl, own, rt, C)) (hq : pm_get C pc = some (i, len)) (hs : ∀ ih : pm_I, pm_dsp X i ih 50 h 309 own pc len ls (pw_i b :: pw_i a :: r) = ih 50 h 309 pc' ls (.int (f (Int32.ofInt a) (Int32.ofInt b)) :: r)) (H : ∀ c : Int, -2147483648 ≤ c → c ≤ 2147483647 → pwl X K h pc' ls (pw_i c :: r) Q) : pwl X (K + 1) h pc ls (pw_i b :: pw_i a :: r) Q := pwl_ld he hq hs (pwl_nmx H)
theorem pwl_goto {off : Int} (he : pm_ent 309 = some (na, nl, own, rt, C)) (hq : pm_get C pc = some (.goto off, len)) (ht : (pc : Int) + off = (pc' : Int)) (H : pwl X K h pc' ls st Q) : pwl X (K + 1) h pc ls st Q := by
  refine pwl_ld he hq (pc' := pc') (st' := st) (fun ih => ?_) H
  show pm_to ((pc : Int) + off) (fun t => ih 50 h 309 t ls st) = _
  rw [ht]
  exact pm_fn_eq pc' (fun t => ih 50 h 309 t ls st)
theorem pwl_if {c : ClassFile.Cond} {off a : Int} (he : pm_ent 309 = some (na, nl, own, rt, C)) (hq : pm_get C pc = some (.ifCond c off, len)) (ht : (pc : Int) + off = (pc' : Int)) (h1 : -2147483648 ≤ a) (h2 : a ≤ 2147483647) (HT : pw_c c a 0 → pwl X K h pc' ls r Q) (HF : ¬ pw_c c a 0 → pwl X K h (pc + 3) ls r Q) : pwl X (K + 1) h pc ls (pw_i a :: r) Q := by
  have key : ∀ ih : pm_I, pm_dsp X (.ifCond c off) ih 50 h 309 own pc len ls (pw_i a :: r) = cond (pm_cnd c (Int32.ofInt a) (Int32.ofInt 0)) (ih 50 h 309 pc' ls r) (ih 50 h 309 (pc + 3) ls r) := by
    intro ih
    show pm_to ((pc : Int) + off) (fun t => cond (pm_cnd c (Int32.ofInt a) 0) (ih 50 h 309 t ls r) (pm_fn (pc + 3) fun q => ih 50 h 309 q ls r)) = _
    rw [ht]
    rw [pm_fn_eq (pc + 3)]
    exact pm_fn_eq pc' (fun t => cond (pm_cnd c (Int32.ofInt a) 0) (ih 50 h 309 t ls r) (ih 50 h 309 (pc + 3) ls r))
  by_cases hc : pm_cnd c (Int32.ofInt a) (Int32.ofInt 0) = true
  · refine pwl_ld he hq (fun ih => ?_) (HT ((pw_cnd h1 h2 (by omega) (by omega)).mp hc))
    rw [key, hc, cond_true]
  · refine pwl_ld he hq (fun ih => ?_) (HF (fun q => hc ((pw_cnd h1 h2 (by omega) (by omega)).mpr q)))
    rw [key, Bool.not_eq_true _ |>.mp hc, cond_false]
theorem pwl_if2 {c : ClassFile.Cond} {off a b : Int} (he : pm_ent 309 = some (na, nl, own, rt, C)) (hq : pm_get C pc = some (.if_icmp c off, len)) (ht : (pc : Int) + off = (pc' : Int)) (h1 : -2147483648 ≤ a) (h2 : a ≤ 2147483647) (h3 : -2147483648 ≤ b) (h4 : b ≤ 2147483647) (HT : pw_c c a b → pwl X K h pc' ls r Q) (HF : ¬ pw_c c a b → pwl X K h (pc + 3) ls r Q) : pwl X (K + 1) h pc ls (pw_i b :: pw_i a :: r) Q := by
  have key : ∀ ih : pm_I, pm_dsp X (.if_icmp c off) ih 50 h 309 own pc len ls (pw_i b :: pw_i a :: r) = cond (pm_cnd c (Int32.ofInt a) (Int32.ofInt b)) (ih 50 h 309 pc' ls r) (ih 50 h 309 (pc + 3) ls r) := by
    intro ih
    show pm_to ((pc : Int) + off) (fun t => cond (pm_cnd c (Int32.ofInt a) (Int32.ofInt b)) (ih 50 h 309 t ls r) (pm_fn (pc + 3) fun q => ih 50 h 309 q ls r)) = _
    rw [ht]
    rw [pm_fn_eq (pc + 3)]
    exact pm_fn_eq pc' (fun t => cond (pm_cnd c (Int32.ofInt a) (Int32.ofInt b)) (ih 50 h 309 t ls r) (ih 50 h 309 (pc + 3) ls r))
  by_cases hc : pm_cnd c (Int32.ofInt a) (Int32.ofInt b) = true
  · refine pwl_ld he hq (fun ih => ?_) (HT ((pw_cnd h1 h2 h3 h4).mp hc))
    rw [key, hc, cond_true]
  · refine pwl_ld he hq (fun ih => ?_) (HF (fun q => hc ((pw_cnd h1 h2 h3 h4).mpr q)))
    rw [key, Bool.not_eq_true _ |>.mp hc, cond_false]
theorem pwl_tswD {df lo hi a : Int} {offs : Array Int} (he : pm_ent 309 = some (na, nl, own, rt, C)) (hq : pm_get C pc = some (.tableswitch df lo hi offs, len)) (h1 : -2147483648 ≤ a) (h2 : a ≤ 2147483647) (ho : a < lo ∨ hi < a) (ht : (pc : Int) + df = (pc' : Int)) (H : pwl X K h pc' ls r Q) : pwl X (K + 1) h pc ls (pw_i a :: r) Q := by
  refine pwl_ld he hq (fun ih => ?_) H
  show pm_tsw (Int32.ofInt a).toInt lo hi df offs (fun o => pm_to ((pc : Int) + o) fun t => ih 50 h 309 t ls r) = _
  unfold pm_tsw
  rw [pw_toInt h1 h2, if_pos ho]
  show pm_to ((pc : Int) + df) (fun t => ih 50 h 309 t ls r) = _
  rw [ht]
  exact pm_fn_eq pc' (fun t => ih 50 h 309 t ls r)
theorem pwl_tswJ {df lo hi a o : Int} {offs : Array Int} (he : pm_ent 309 = some (na, nl, own, rt, C)) (hq : pm_get C pc = some (.tableswitch df lo hi offs, len)) (h1 : -2147483648 ≤ a) (h2 : a ≤ 2147483647) (ho : ¬ (a < lo ∨ hi < a)) (hj : pm_nth offs.toList (a - lo).toNat = some o) (ht : (pc : Int) + o = (pc' : Int)) (H : pwl X K h pc' ls r Q) : pwl X (K + 1) h pc ls (pw_i a :: r) Q := by
  refine pwl_ld he hq (fun ih => ?_) H
  show pm_tsw (Int32.ofInt a).toInt lo hi df offs (fun o => pm_to ((pc : Int) + o) fun t => ih 50 h 309 t ls r) = _
  unfold pm_tsw
  rw [pw_toInt h1 h2, if_neg ho, hj]
  show pm_to ((pc : Int) + o) (fun t => ih 50 h 309 t ls r) = _
  rw [ht]
  exact pm_fn_eq pc' (fun t => ih 50 h 309 t ls r)
theorem pwl_zret {a : Int} (he : pm_ent 309 = some (na, nl, own, 1, C)) (hq : pm_get C pc = some (.ireturn, len)) (ha : a = 0 ∨ a = 1) (H : Q h (.inl (some (pw_i a)))) : pwl X (K + 1) h pc ls [pw_i a] Q := by
  refine pwl_end he hq (fun ih => ?_) H
  show ((match pm_ent 309 with
    | some e => cond (Nat.ble 0 e.2.2.2.1) (cond (Nat.ble e.2.2.2.1 1) (cond (pm_fit e.2.2.2.1 (pw_i a)) (some (h, .inl (some (pw_i a)))) none) none) none
    | none => none) : pm_R) = _
  rw [he]
  rcases ha with rfl | rfl <;> rfl
theorem pwl_alen {t a : Nat} {l : List Value} (he : pm_ent 309 = some (na, nl, own, rt, C)) (hq : pm_get C pc = some (.arraylength, len)) (hr : pm_row X h a = some (t, l)) (ht : pm_okt t = true) (hc : pc + len = pc') (H : pwl X K h pc' ls (pw_i (l.length : Int) :: r) Q) : pwl X (K + 1) h pc ls (.ref a :: r) Q := by
  subst hc
  refine pwl_ld he hq (st' := pw_i (l.length : Int) :: r) (pc' := pc + len) (fun ih => ?_) H
  show pm_gLen X ih 50 h 309 own pc len ls (.ref a :: r) = _
  unfold pm_gLen
  dsimp only
  rw [hr]
  show cond (pm_okt t) (pm_fn (pm_len l) fun z => pm_fn (pc + len) fun q => ih 50 h 309 q ls (.int (Int32.ofNat z) :: r)) none = _
  rw [ht, cond_true, pm_fn_eq, pm_fn_eq, pm_len_eq]
  rfl
theorem pwl_xlen {a n : Nat} {l : List Value} (he : pm_ent 309 = some (na, nl, own, rt, C)) (hq : pm_get C pc = some (.arraylength, len)) (hX : X[a]? = some (0, l)) (ha : a < 16) (hn : l.length = n) (hc : pc + len = pc') (H : pwl X K h pc' ls (pw_i (n : Int) :: r) Q) : pwl X (K + 1) h pc ls (.ref a :: r) Q := by
  subst hn
  refine pwl_alen he hq (t := 0) (l := l) ?_ rfl hc H
  unfold pm_row
  rw [show Nat.blt a 16 = true from Nat.ble_eq_true_of_le ha, cond_true, pm_nth_eq, hX]
  rfl
theorem pwl_sald {xs : List Int32} {j : Int} (he : pm_ent 309 = some (na, nl, own, rt, C)) (hq : pm_get C pc = some (.iaload, len)) (hX : X[0]? = some (0, xs.map Value.int)) (hl : xs.length ≤ 3584) (h0 : 0 ≤ j) (h1 : j < xs.length) (hc : pc + len = pc') (H : pwl X K h pc' ls (pw_i (pw_s xs j) :: r) Q) : pwl X (K + 1) h pc ls (pw_i j :: .ref 0 :: r) Q := by
  subst hc
  refine pwl_ld he hq (st' := pw_i (pw_s xs j) :: r) (pc' := pc + len) (fun ih => ?_) H
  have er : pm_row X h 0 = some (0, xs.map Value.int) := by
    unfold pm_row
    rw [show Nat.blt 0 16 = true from rfl, cond_true, pm_nth_eq, hX]
    rfl
  have en : (xs.map Value.int)[j.toNat]? = some (pw_i (pw_s xs j)) := by
    rw [List.getElem?_map, List.getElem?_eq_getElem (by omega : j.toNat < xs.length)]
    unfold pw_i pw_s
    rw [Int32.ofInt_toInt, List.getD_eq_getElem?_getD, List.getElem?_eq_getElem (by omega : j.toNat < xs.length)]
    rfl
  show pm_gAld X 0 0 ih 50 h 309 own pc len ls (pw_i j :: .ref 0 :: r) = _
  unfold pm_gAld pw_i
  dsimp only
  rw [er]
  show cond (Nat.beq 0 0 || Nat.beq 0 0) (cond (decide (Int32.ofInt j < 0)) none (match pm_nth (xs.map Value.int) (Int32.ofInt j).toNatClampNeg with
        | some (.int x) => pm_fn (pc + len) fun q => ih 50 h 309 q ls (.int x :: r)
        | _ => none)) none = _
  rw [Nat.beq_refl, Bool.true_or, cond_true, decide_eq_false (pw_neg h0 (by omega)), cond_false, pw_clamp h0 (by omega), pm_nth_eq, en]
  show pm_fn (pc + len) _ = _
  rw [pm_fn_eq]
theorem pwl_call {m' : Nat} {e' : pm_M} {As rest : List Value} {ls'' : pm_L} {Qc : pm_H → (Option Value ⊕ Unit) → Prop} (he : pm_ent 309 = some (na, nl, own, rt, C)) (hq : pm_get C pc = some (i, len)) (hs : ∀ ih : pm_I, pm_dsp X i ih 50 h 309 own pc len ls st = pm_call ih 50 h 309 pc ls m' As rest false) (he' : pm_ent m' = some e') (hm : m' ≠ 309) (hlay : pm_lay As e'.2.1 = ls'') (hlen : pm_len ls'' = e'.2.1)
    (HC : pw X 49 h m' 0 ls'' [] Qc) (HK : ∀ h' v, Qc h' v → ∃ w, v = .inl w ∧ pwl X K h' (pc + 3) ls (w.toList ++ rest) Q) : pwl X (K + 1) h pc ls st Q := by
  obtain ⟨n1, o1, hQ1, hn1⟩ := HC
  obtain ⟨h1, v1⟩ := o1
  obtain ⟨w, hw, k, n2, o2, hk, hQ2, hn2⟩ := HK h1 v1 hQ1
  have hw : v1 = .inl w := hw
  subst hw
  refine ⟨k + 1, max n1 n2, o2, by omega, hQ2, fun n hn' => ?_⟩
  rw [pm_xk_at he hq]
  refine (hs _).trans ?_
  show (match pm_ent m' with
    | none => none
    | some e => cond (Nat.beq (pm_len (pm_lay As e.2.1)) e.2.1) (match pm_ik X n (pm_xk X n k) 49 h m' 0 (pm_lay As e.2.1) [] with
      | some (h', .inl v) => pm_fn (pc + 3) fun q => pm_ik X n (pm_xk X n k) 50 h' 309 q ls (v.toList ++ rest)
      | some (h', .inr _) => cond false (some (h', .inl (some (.int 1)))) none
      | none => none) none) = _
  rw [he']
  show cond (Nat.beq (pm_len (pm_lay As e'.2.1)) e'.2.1) (match pm_ik X n (pm_xk X n k) 49 h m' 0 (pm_lay As e'.2.1) [] with
      | some (h', .inl v) => pm_fn (pc + 3) fun q => pm_ik X n (pm_xk X n k) 50 h' 309 q ls (v.toList ++ rest)
      | some (h', .inr _) => cond false (some (h', .inl (some (.int 1)))) none
      | none => none) none = _
  have hn1 := hn1 n (by omega)
  rw [hlay, hlen, Nat.beq_refl, cond_true, pm_ik_ne hm, hn1]
  show (pm_fn (pc + 3) fun q => pm_ik X n (pm_xk X n k) 50 h1 309 q ls (w.toList ++ rest)) = _
  rw [pm_fn_eq, pm_ik_309]
  exact hn2 n (by omega)
theorem pwl_iV {ix m' nb ci a : Nat} {As rest fs : List Value} {ih : pm_I} (hl : pm_get (pm_lnk 13) ix = some (1, m', nb, ci)) (hp : pm_pop nb st [] = some (.ref a :: As, rest)) (h8 : pm_cat8 rest = true) (hc : pm_cell h a = some (.inr (ci, fs))) : pm_dsp X (.invokevirtual ix) ih 50 h 309 13 pc len ls st = pm_call ih 50 h 309 pc ls m' (.ref a :: As) rest false := by
  show pm_gInv X 1 ix ih 50 h 309 13 pc len ls st = _
  unfold pm_gInv
  rw [hl]
  show (match pm_pop nb st [] with
      | some (As, rest) => cond (pm_cat8 rest) (pm_gC 1 ih 50 h 309 13 pc ls m' ci As rest) none
      | none => none) = _
  rw [hp]
  show cond (pm_cat8 rest) (pm_gC 1 ih 50 h 309 13 pc ls m' ci (.ref a :: As) rest) none = _
  rw [h8, cond_true]
  show (match pm_cell h a with
      | some (.inr (cj, _)) => cond (Nat.beq cj ci) (pm_call ih 50 h 309 pc ls m' (.ref a :: As) rest (Nat.beq 13 13 && !Nat.beq 309 309)) none
      | _ => none) = _
  rw [hc]
  show cond (Nat.beq ci ci) _ none = _
  rw [Nat.beq_refl]
  rfl
theorem pwl_iS {ix m' nb ci : Nat} {As rest : List Value} {ih : pm_I} (hl : pm_get (pm_lnk 13) ix = some (14, m', nb, ci)) (hp : pm_pop nb st [] = some (As, rest)) (h8 : pm_cat8 rest = true) (hsc : pm_all (pm_scl (16 + pm_len h)) ls = true) (hsr : pm_all (pm_scv (16 + pm_len h)) rest = true) : pm_dsp X (.invokestatic ix) ih 50 h 309 13 pc len ls st = pm_call ih 50 h 309 pc ls m' As rest false := by
  show pm_gInv X 2 ix ih 50 h 309 13 pc len ls st = _
  unfold pm_gInv
  rw [hl]
  show (match pm_pop nb st [] with
      | some (As, rest) => cond (pm_cat8 rest) (cond (pm_all (pm_scl (16 + pm_len h)) ls && pm_all (pm_scv (16 + pm_len h)) rest) (pm_call ih 50 h 309 pc ls m' As rest false) none) none
      | none => none) = _
  rw [hp]
  show cond (pm_cat8 rest) (cond (pm_all (pm_scl (16 + pm_len h)) ls && pm_all (pm_scv (16 + pm_len h)) rest) (pm_call ih 50 h 309 pc ls m' As rest false) none) none = _
  rw [h8, cond_true, hsc, hsr]
  rfl
end Pl
section Ph
variable {X : List (Nat × List Value)} {d : Nat} {h : pm_H} {m pc len na nl own rt : Nat} {C : pm_T (Instr × Nat)} {ls : pm_L} {st : List Value} {Q : pm_H → (Option Value ⊕ Unit) → Prop} {i : Instr}
/-- a call in one of the law's helpers: what is thrown there is caught, and answers 1 -/
theorem pw_callH {m' : Nat} {e' : pm_M} {As rest : List Value} {ls'' : pm_L} (hd : 1 ≤ d) {Qc : pm_H → (Option Value ⊕ Unit) → Prop} (he : pm_ent m = some (na, nl, own, rt, C)) (hq : pm_get C pc = some (i, len)) (hs : ∀ ih : pm_I, pm_dsp X i ih d h m own pc len ls st = pm_call ih d h m pc ls m' As rest true) (he' : pm_ent m' = some e') (hlay : pm_lay As e'.2.1 = ls'') (hlen : pm_len ls'' = e'.2.1)
    (HC : pw X (d - 1) h m' 0 ls'' [] Qc) (HK : ∀ h' v, Qc h' v → (v = .inr () ∧ Q h' (.inl (some (.int 1)))) ∨ ∃ w, v = .inl w ∧ pw X d h' m (pc + 3) ls (w.toList ++ rest) Q) : pw X d h m pc ls st Q := by
  obtain ⟨n1, o1, hQ1, hn1⟩ := HC
  obtain ⟨h1, v1⟩ := o1
  obtain ⟨d', rfl⟩ : ∃ d', d = d' + 1 := ⟨d - 1, by omega⟩
  have key : ∀ k, n1 ≤ k → pm_x X (k + 1) (d' + 1) h m pc ls st = (match v1 with
      | .inl v => pm_x X k (d' + 1) h1 m (pc + 3) ls (v.toList ++ rest)
      | .inr _ => some (h1, .inl (some (.int 1)))) := by
    intro k hk
    rw [pm_x_at he hq]
    refine (hs _).trans ?_
    show (match pm_ent m' with
      | none => none
      | some e => cond (Nat.beq (pm_len (pm_lay As e.2.1)) e.2.1) (match pm_x X k d' h m' 0 (pm_lay As e.2.1) [] with
        | some (h', .inl v) => pm_fn (pc + 3) fun q => pm_x X k (d' + 1) h' m q ls (v.toList ++ rest)
        | some (h', .inr _) => cond true (some (h', .inl (some (.int 1)))) none
        | none => none) none) = _
    rw [he']
    show cond (Nat.beq (pm_len (pm_lay As e'.2.1)) e'.2.1) (match pm_x X k d' h m' 0 (pm_lay As e'.2.1) [] with
        | some (h', .inl v) => pm_fn (pc + 3) fun q => pm_x X k (d' + 1) h' m q ls (v.toList ++ rest)
        | some (h', .inr _) => cond true (some (h', .inl (some (.int 1)))) none
        | none => none) none = _
    have hn1 := hn1 k hk
    rw [Nat.add_sub_cancel] at hn1
    rw [hlay, hlen, Nat.beq_refl, cond_true, hn1]
    cases v1 with
    | inl v =>
      show (pm_fn (pc + 3) fun q => pm_x X k (d' + 1) h1 m q ls (v.toList ++ rest)) = _
      rw [pm_fn_eq]
    | inr u => rfl
  rcases HK h1 v1 hQ1 with ⟨hv, hQ⟩ | ⟨w, hw, n2, o2, hQ2, hn2⟩
  · have hv : v1 = .inr () := hv
    subst hv
    refine ⟨n1 + 1, (h1, .inl (some (.int 1))), hQ, fun n hn' => ?_⟩
    obtain ⟨k, rfl⟩ : ∃ k, n = k + 1 := ⟨n - 1, by omega⟩
    exact key k (by omega)
  · have hw : v1 = .inl w := hw
    subst hw
    refine ⟨max n1 n2 + 1, o2, hQ2, fun n hn' => ?_⟩
    obtain ⟨k, rfl⟩ : ∃ k, n = k + 1 := ⟨n - 1, by omega⟩
    exact (key k (by omega)).trans (hn2 k (by omega))
theorem pw_iVh {ix m' nb ci a : Nat} {As rest fs : List Value} {ih : pm_I} (hm : Nat.beq m 309 = false) (hl : pm_get (pm_lnk 13) ix = some (1, m', nb, ci)) (hp : pm_pop nb st [] = some (.ref a :: As, rest)) (h8 : pm_cat8 rest = true) (hc : pm_cell h a = some (.inr (ci, fs))) : pm_dsp X (.invokevirtual ix) ih d h m 13 pc len ls st = pm_call ih d h m pc ls m' (.ref a :: As) rest true := by
  show pm_gInv X 1 ix ih d h m 13 pc len ls st = _
  unfold pm_gInv
  rw [hl]
  show (match pm_pop nb st [] with
      | some (As, rest) => cond (pm_cat8 rest) (pm_gC 1 ih d h m 13 pc ls m' ci As rest) none
      | none => none) = _
  rw [hp]
  show cond (pm_cat8 rest) (pm_gC 1 ih d h m 13 pc ls m' ci (.ref a :: As) rest) none = _
  rw [h8, cond_true]
  show (match pm_cell h a with
      | some (.inr (cj, _)) => cond (Nat.beq cj ci) (pm_call ih d h m pc ls m' (.ref a :: As) rest (Nat.beq 13 13 && !Nat.beq m 309)) none
      | _ => none) = _
  rw [hc, hm]
  show cond (Nat.beq ci ci) _ none = _
  rw [Nat.beq_refl]
  rfl
end Ph
end
section
/-! the law's helpers (printed by wip/tool/mhelp.py) -/
set_option maxHeartbeats 1000000 in
theorem cm_310 {X : List (Nat × List Value)} {d : Nat} {h : pm_H} (hd : 6 ≤ d) (I : pw_I h) (bk : Int) (hbk1 : (-2147483648) ≤ bk) (hbk2 : bk ≤ 2147483647) (b : Int) (hb1 : (-2147483648) ≤ b) (hb2 : b ≤ 2147483647) (e : Int) (he1 : (-2147483648) ≤ e) (he2 : e ≤ 2147483647) (wt : Int) (hwt1 : (-2147483648) ≤ wt) (hwt2 : wt ≤ 2147483647) : pw X d h 310 0 [some (.ref 16), some (pw_i bk), some (pw_i b), some (pw_i e), some (pw_i wt), some (.ref 185), none] [] (fun h' v => pw_I h' ∧ pw_E [169] h h' ∧ ∃ a : Int, v = .inl (some (pw_i a)) ∧ 0 ≤ a ∧ a ≤ 1) := by
  have E : pm_ent 310 = some (6, 7, 13, 0, pmc_310) := rfl
  refine pw_ld E (pc' := 2) (st' := [.ref 185]) rfl (fun _ => rfl) ?_
  refine pw_ld E (pc' := 3) (st' := [pw_i 0, .ref 185]) rfl (fun _ => rfl) ?_
  refine pw_ld E (pc' := 4) (st' := [.ref 16, pw_i 0, .ref 185]) rfl (fun _ => rfl) ?_
  refine pw_ld E (pc' := 5) (st' := [pw_i bk, .ref 16, pw_i 0, .ref 185]) rfl (fun _ => rfl) ?_
  refine pw_ld E (pc' := 6) (st' := [pw_i b, pw_i bk, .ref 16, pw_i 0, .ref 185]) rfl (fun _ => rfl) ?_
  refine pw_ld E (pc' := 7) (st' := [pw_i e, pw_i b, pw_i bk, .ref 16, pw_i 0, .ref 185]) rfl (fun _ => rfl) ?_
  refine pw_ld E (pc' := 9) (st' := [pw_i wt, pw_i e, pw_i b, pw_i bk, .ref 16, pw_i 0, .ref 185]) rfl (fun _ => rfl) ?_
  obtain ⟨fl, fh, -⟩ := pw_obj (c := 0) I rfl
  refine pw_callH (m' := 169) (As := [.ref 16, pw_i bk, pw_i b, pw_i e, pw_i wt]) (rest := [pw_i 0, .ref 185]) (ls'' := [some (.ref 16), some (pw_i bk), some (pw_i b), some (pw_i e), some (pw_i wt), none, none]) (by omega) E rfl (fun _ => pw_iVh rfl rfl rfl rfl (pw_cellI fh rfl)) (rfl : pm_ent 169 = some (5, 7, 11, 0, pmc_169)) rfl rfl (cm_169 (by omega) I bk (by omega) (by omega) b (by omega) (by omega) e (by omega) (by omega) wt (by omega) (by omega)) ?_
  rintro h1 v1 ⟨rfl, rfl | ⟨a, rfl, ha, hb⟩⟩
  · exact Or.inl ⟨rfl, I, pw_E.rf _ _, 1, rfl, by decide, by decide⟩
  · refine Or.inr ⟨_, rfl, ?_⟩
    show pw X d h 310 12 [some (.ref 16), some (pw_i bk), some (pw_i b), some (pw_i e), some (pw_i wt), some (.ref 185), none] [pw_i a, pw_i 0, .ref 185] _
    refine pw_ld E (pc' := 13) (st' := [.long ((Int32.ofInt a).toInt64), pw_i 0, .ref 185]) rfl (fun _ => rfl) ?_
    refine pw_last I E (c := 169) (pc' := 14) rfl rfl rfl (by decide) (by decide) (by decide) rfl ?_
    intro I2 E2
    have E3 := (pw_E.rf _ _ : pw_E [169] h h).tr (E2.wk (W' := [169]) (by first | rfl | decide))
    refine pw_goto E (pc' := 21) rfl (by decide) ?_
    refine pw_ld E (pc' := 22) (st' := [pw_i 0]) rfl (fun _ => rfl) ?_
    refine pw_iret E rfl ?_
    exact ⟨I2, E3, 0, rfl, by decide, by decide⟩
set_option maxHeartbeats 1000000 in
theorem cm_311 {X : List (Nat × List Value)} {d : Nat} {h : pm_H} (hd : 6 ≤ d) (I : pw_I h) (a0 : Int) (ha01 : (-2147483648) ≤ a0) (ha02 : a0 ≤ 2147483647) (a1 : Int) (ha11 : (-2147483648) ≤ a1) (ha12 : a1 ≤ 2147483647) (a2 : Int) (ha21 : (-2147483648) ≤ a2) (ha22 : a2 ≤ 2147483647) (a3 : Int) (ha31 : (-2147483648) ≤ a3) (ha32 : a3 ≤ 2147483647) : pw X d h 311 0 [some (.ref 16), some (pw_i a0), some (pw_i a1), some (pw_i a2), some (pw_i a3), some (.ref 185), none] [] (fun h' v => pw_I h' ∧ pw_E [17, 18, 22, 169] h h' ∧ ∃ a : Int, v = .inl (some (pw_i a)) ∧ 0 ≤ a ∧ a ≤ 1) := by
  have E : pm_ent 311 = some (6, 7, 13, 0, pmc_311) := rfl
  refine pw_ld E (pc' := 2) (st' := [.ref 185]) rfl (fun _ => rfl) ?_
  refine pw_ld E (pc' := 3) (st' := [pw_i 0, .ref 185]) rfl (fun _ => rfl) ?_
  refine pw_ld E (pc' := 4) (st' := [.ref 16, pw_i 0, .ref 185]) rfl (fun _ => rfl) ?_
  refine pw_ld E (pc' := 5) (st' := [pw_i a0, .ref 16, pw_i 0, .ref 185]) rfl (fun _ => rfl) ?_
  refine pw_ld E (pc' := 6) (st' := [pw_i a1, pw_i a0, .ref 16, pw_i 0, .ref 185]) rfl (fun _ => rfl) ?_
  refine pw_ld E (pc' := 7) (st' := [pw_i a2, pw_i a1, pw_i a0, .ref 16, pw_i 0, .ref 185]) rfl (fun _ => rfl) ?_
  refine pw_ld E (pc' := 9) (st' := [pw_i a3, pw_i a2, pw_i a1, pw_i a0, .ref 16, pw_i 0, .ref 185]) rfl (fun _ => rfl) ?_
  obtain ⟨fl, fh, -⟩ := pw_obj (c := 0) I rfl
  refine pw_callH (m' := 171) (As := [.ref 16, pw_i a0, pw_i a1, pw_i a2, pw_i a3]) (rest := [pw_i 0, .ref 185]) (ls'' := [some (.ref 16), some (pw_i a0), some (pw_i a1), some (pw_i a2), some (pw_i a3), none]) (by omega) E rfl (fun _ => pw_iVh rfl rfl rfl rfl (pw_cellI fh rfl)) (rfl : pm_ent 171 = some (5, 6, 11, 2, pmc_171)) rfl rfl (cm_171 (by omega) I a0 (by omega) (by omega) a1 (by omega) (by omega) a2 (by omega) (by omega) a3 (by omega) (by omega)) ?_
  rintro h1 v1 ⟨I1, E1, rfl | ⟨w, rfl⟩⟩
  · exact Or.inl ⟨rfl, I1, (E1.wk (W' := [17, 18, 22, 169]) (by first | rfl | decide)), 1, rfl, by decide, by decide⟩
  · refine Or.inr ⟨_, rfl, ?_⟩
    show pw X d h1 311 12 [some (.ref 16), some (pw_i a0), some (pw_i a1), some (pw_i a2), some (pw_i a3), some (.ref 185), none] [.long w, pw_i 0, .ref 185] _
    refine pw_last I1 E (c := 169) (pc' := 13) rfl rfl rfl (by decide) (by decide) (by decide) rfl ?_
    intro I2 E2
    have E3 := ((E1.wk (W' := [17, 18, 22, 169]) (by first | rfl | decide)) : pw_E [17, 18, 22, 169] h h1).tr (E2.wk (W' := [17, 18, 22, 169]) (by first | rfl | decide))
    refine pw_goto E (pc' := 20) rfl (by decide) ?_
    refine pw_ld E (pc' := 21) (st' := [pw_i 0]) rfl (fun _ => rfl) ?_
    refine pw_iret E rfl ?_
    exact ⟨I2, E3, 0, rfl, by decide, by decide⟩
set_option maxHeartbeats 1000000 in
theorem cm_312 {X : List (Nat × List Value)} {d : Nat} {h : pm_H} (hd : 6 ≤ d) (I : pw_I h) (a0 : Int) (ha01 : (-2147483648) ≤ a0) (ha02 : a0 ≤ 2147483647) (a1 : Int) (ha11 : (-2147483648) ≤ a1) (ha12 : a1 ≤ 2147483647) (a2 : Int) (ha21 : (-2147483648) ≤ a2) (ha22 : a2 ≤ 2147483647) (a3 : Int) (ha31 : (-2147483648) ≤ a3) (ha32 : a3 ≤ 2147483647) : pw X d h 312 0 [some (.ref 16), some (pw_i a0), some (pw_i a1), some (pw_i a2), some (pw_i a3), some (.ref 185), none] [] (fun h' v => pw_I h' ∧ pw_E [17, 18, 22, 23, 169] h h' ∧ ∃ a : Int, v = .inl (some (pw_i a)) ∧ 0 ≤ a ∧ a ≤ 1) := by
  have E : pm_ent 312 = some (6, 7, 13, 0, pmc_312) := rfl
  refine pw_ld E (pc' := 2) (st' := [.ref 185]) rfl (fun _ => rfl) ?_
  refine pw_ld E (pc' := 3) (st' := [pw_i 0, .ref 185]) rfl (fun _ => rfl) ?_
  refine pw_ld E (pc' := 4) (st' := [.ref 16, pw_i 0, .ref 185]) rfl (fun _ => rfl) ?_
  refine pw_ld E (pc' := 5) (st' := [pw_i a0, .ref 16, pw_i 0, .ref 185]) rfl (fun _ => rfl) ?_
  refine pw_ld E (pc' := 6) (st' := [pw_i a1, pw_i a0, .ref 16, pw_i 0, .ref 185]) rfl (fun _ => rfl) ?_
  refine pw_ld E (pc' := 7) (st' := [pw_i a2, pw_i a1, pw_i a0, .ref 16, pw_i 0, .ref 185]) rfl (fun _ => rfl) ?_
  refine pw_ld E (pc' := 9) (st' := [pw_i a3, pw_i a2, pw_i a1, pw_i a0, .ref 16, pw_i 0, .ref 185]) rfl (fun _ => rfl) ?_
  obtain ⟨fl, fh, -⟩ := pw_obj (c := 0) I rfl
  refine pw_callH (m' := 172) (As := [.ref 16, pw_i a0, pw_i a1, pw_i a2, pw_i a3]) (rest := [pw_i 0, .ref 185]) (ls'' := [some (.ref 16), some (pw_i a0), some (pw_i a1), some (pw_i a2), some (pw_i a3), none]) (by omega) E rfl (fun _ => pw_iVh rfl rfl rfl rfl (pw_cellI fh rfl)) (rfl : pm_ent 172 = some (5, 6, 11, 2, pmc_172)) rfl rfl (cm_172 (by omega) I a0 (by omega) (by omega) a1 (by omega) (by omega) a2 (by omega) (by omega) a3 (by omega) (by omega)) ?_
  rintro h1 v1 ⟨I1, E1, rfl | ⟨w, rfl⟩⟩
  · exact Or.inl ⟨rfl, I1, (E1.wk (W' := [17, 18, 22, 23, 169]) (by first | rfl | decide)), 1, rfl, by decide, by decide⟩
  · refine Or.inr ⟨_, rfl, ?_⟩
    show pw X d h1 312 12 [some (.ref 16), some (pw_i a0), some (pw_i a1), some (pw_i a2), some (pw_i a3), some (.ref 185), none] [.long w, pw_i 0, .ref 185] _
    refine pw_last I1 E (c := 169) (pc' := 13) rfl rfl rfl (by decide) (by decide) (by decide) rfl ?_
    intro I2 E2
    have E3 := ((E1.wk (W' := [17, 18, 22, 23, 169]) (by first | rfl | decide)) : pw_E [17, 18, 22, 23, 169] h h1).tr (E2.wk (W' := [17, 18, 22, 23, 169]) (by first | rfl | decide))
    refine pw_goto E (pc' := 20) rfl (by decide) ?_
    refine pw_ld E (pc' := 21) (st' := [pw_i 0]) rfl (fun _ => rfl) ?_
    refine pw_iret E rfl ?_
    exact ⟨I2, E3, 0, rfl, by decide, by decide⟩
set_option maxHeartbeats 1000000 in
theorem cm_313 {X : List (Nat × List Value)} {d : Nat} {h : pm_H} (hd : 6 ≤ d) (I : pw_I h) (a0 : Int) (ha01 : (-2147483648) ≤ a0) (ha02 : a0 ≤ 2147483647) (a1 : Int) (ha11 : (-2147483648) ≤ a1) (ha12 : a1 ≤ 2147483647) (a2 : Int) (ha21 : (-2147483648) ≤ a2) (ha22 : a2 ≤ 2147483647) : pw X d h 313 0 [some (.ref 16), some (pw_i a0), some (pw_i a1), some (pw_i a2), some (.ref 185), none] [] (fun h' v => pw_I h' ∧ pw_E [17, 18, 22, 169] h h' ∧ ∃ a : Int, v = .inl (some (pw_i a)) ∧ 0 ≤ a ∧ a ≤ 1) := by
  have E : pm_ent 313 = some (5, 6, 13, 0, pmc_313) := rfl
  refine pw_ld E (pc' := 2) (st' := [.ref 185]) rfl (fun _ => rfl) ?_
  refine pw_ld E (pc' := 3) (st' := [pw_i 0, .ref 185]) rfl (fun _ => rfl) ?_
  refine pw_ld E (pc' := 4) (st' := [.ref 16, pw_i 0, .ref 185]) rfl (fun _ => rfl) ?_
  refine pw_ld E (pc' := 5) (st' := [pw_i a0, .ref 16, pw_i 0, .ref 185]) rfl (fun _ => rfl) ?_
  refine pw_ld E (pc' := 6) (st' := [pw_i a1, pw_i a0, .ref 16, pw_i 0, .ref 185]) rfl (fun _ => rfl) ?_
  refine pw_ld E (pc' := 7) (st' := [pw_i a2, pw_i a1, pw_i a0, .ref 16, pw_i 0, .ref 185]) rfl (fun _ => rfl) ?_
  obtain ⟨fl, fh, -⟩ := pw_obj (c := 0) I rfl
  refine pw_callH (m' := 173) (As := [.ref 16, pw_i a0, pw_i a1, pw_i a2]) (rest := [pw_i 0, .ref 185]) (ls'' := [some (.ref 16), some (pw_i a0), some (pw_i a1), some (pw_i a2)]) (by omega) E rfl (fun _ => pw_iVh rfl rfl rfl rfl (pw_cellI fh rfl)) (rfl : pm_ent 173 = some (4, 4, 11, 2, pmc_173)) rfl rfl (cm_173 (by omega) I a0 (by omega) (by omega) a1 (by omega) (by omega) a2 (by omega) (by omega)) ?_
  rintro h1 v1 ⟨I1, E1, rfl | ⟨w, rfl⟩⟩
  · exact Or.inl ⟨rfl, I1, (E1.wk (W' := [17, 18, 22, 169]) (by first | rfl | decide)), 1, rfl, by decide, by decide⟩
  · refine Or.inr ⟨_, rfl, ?_⟩
    show pw X d h1 313 10 [some (.ref 16), some (pw_i a0), some (pw_i a1), some (pw_i a2), some (.ref 185), none] [.long w, pw_i 0, .ref 185] _
    refine pw_last I1 E (c := 169) (pc' := 11) rfl rfl rfl (by decide) (by decide) (by decide) rfl ?_
    intro I2 E2
    have E3 := ((E1.wk (W' := [17, 18, 22, 169]) (by first | rfl | decide)) : pw_E [17, 18, 22, 169] h h1).tr (E2.wk (W' := [17, 18, 22, 169]) (by first | rfl | decide))
    refine pw_goto E (pc' := 18) rfl (by decide) ?_
    refine pw_ld E (pc' := 19) (st' := [pw_i 0]) rfl (fun _ => rfl) ?_
    refine pw_iret E rfl ?_
    exact ⟨I2, E3, 0, rfl, by decide, by decide⟩
set_option maxHeartbeats 1000000 in
theorem cm_314 {X : List (Nat × List Value)} {d : Nat} {h : pm_H} (hd : 5 ≤ d) (I : pw_I h) (b : Int) (hb1 : (-2147483648) ≤ b) (hb2 : b ≤ 2147483647) (e : Int) (he1 : (-2147483648) ≤ e) (he2 : e ≤ 2147483647) (z : Int) (hz1 : 0 ≤ z) (hz2 : z ≤ 1) (wt : Int) (hwt1 : (-2147483648) ≤ wt) (hwt2 : wt ≤ 2147483647) : pw X d h 314 0 [some (.ref 16), some (pw_i b), some (pw_i e), some (pw_i z), some (pw_i wt), some (.ref 185), none] [] (fun h' v => pw_I h' ∧ pw_E [17, 18, 22, 169] h h' ∧ ∃ a : Int, v = .inl (some (pw_i a)) ∧ 0 ≤ a ∧ a ≤ 1) := by
  have E : pm_ent 314 = some (6, 7, 13, 0, pmc_314) := rfl
  refine pw_ld E (pc' := 2) (st' := [.ref 185]) rfl (fun _ => rfl) ?_
  refine pw_ld E (pc' := 3) (st' := [pw_i 0, .ref 185]) rfl (fun _ => rfl) ?_
  refine pw_ld E (pc' := 4) (st' := [.ref 16, pw_i 0, .ref 185]) rfl (fun _ => rfl) ?_
  refine pw_ld E (pc' := 5) (st' := [pw_i b, .ref 16, pw_i 0, .ref 185]) rfl (fun _ => rfl) ?_
  refine pw_ld E (pc' := 6) (st' := [pw_i e, pw_i b, .ref 16, pw_i 0, .ref 185]) rfl (fun _ => rfl) ?_
  refine pw_ld E (pc' := 7) (st' := [pw_i z, pw_i e, pw_i b, .ref 16, pw_i 0, .ref 185]) rfl (fun _ => rfl) ?_
  refine pw_ld E (pc' := 9) (st' := [pw_i wt, pw_i z, pw_i e, pw_i b, .ref 16, pw_i 0, .ref 185]) rfl (fun _ => rfl) ?_
  obtain ⟨fl, fh, -⟩ := pw_obj (c := 0) I rfl
  refine pw_callH (m' := 177) (As := [.ref 16, pw_i b, pw_i e, pw_i z, pw_i wt]) (rest := [pw_i 0, .ref 185]) (ls'' := [some (.ref 16), some (pw_i b), some (pw_i e), some (pw_i z), some (pw_i wt), none, none]) (by omega) E rfl (fun _ => pw_iVh rfl rfl rfl rfl (pw_cellI fh rfl)) (rfl : pm_ent 177 = some (5, 7, 11, 2, pmc_177)) rfl rfl (cm_177 (by omega) I b (by omega) (by omega) e (by omega) (by omega) z (by omega) (by omega) wt (by omega) (by omega)) ?_
  rintro h1 v1 ⟨I1, E1, rfl | ⟨w, rfl⟩⟩
  · exact Or.inl ⟨rfl, I1, (E1.wk (W' := [17, 18, 22, 169]) (by first | rfl | decide)), 1, rfl, by decide, by decide⟩
  · refine Or.inr ⟨_, rfl, ?_⟩
    show pw X d h1 314 12 [some (.ref 16), some (pw_i b), some (pw_i e), some (pw_i z), some (pw_i wt), some (.ref 185), none] [.long w, pw_i 0, .ref 185] _
    refine pw_last I1 E (c := 169) (pc' := 13) rfl rfl rfl (by decide) (by decide) (by decide) rfl ?_
    intro I2 E2
    have E3 := ((E1.wk (W' := [17, 18, 22, 169]) (by first | rfl | decide)) : pw_E [17, 18, 22, 169] h h1).tr (E2.wk (W' := [17, 18, 22, 169]) (by first | rfl | decide))
    refine pw_goto E (pc' := 20) rfl (by decide) ?_
    refine pw_ld E (pc' := 21) (st' := [pw_i 0]) rfl (fun _ => rfl) ?_
    refine pw_iret E rfl ?_
    exact ⟨I2, E3, 0, rfl, by decide, by decide⟩
set_option maxHeartbeats 1000000 in
theorem cm_315 {X : List (Nat × List Value)} {d : Nat} {h : pm_H} (hd : 6 ≤ d) (I : pw_I h) (a0 : Int) (ha01 : (-2147483648) ≤ a0) (ha02 : a0 ≤ 2147483647) (a1 : Int) (ha11 : (-2147483648) ≤ a1) (ha12 : a1 ≤ 2147483647) (a2 : Int) (ha21 : (-2147483648) ≤ a2) (ha22 : a2 ≤ 2147483647) (a3 : Int) (ha31 : (-2147483648) ≤ a3) (ha32 : a3 ≤ 2147483647) : pw X d h 315 0 [some (.ref 16), some (pw_i a0), some (pw_i a1), some (pw_i a2), some (pw_i a3), some (.ref 185), none] [] (fun h' v => pw_I h' ∧ pw_E [17, 18, 22, 19, 169] h h' ∧ ∃ a : Int, v = .inl (some (pw_i a)) ∧ 0 ≤ a ∧ a ≤ 1) := by
  have E : pm_ent 315 = some (6, 7, 13, 0, pmc_315) := rfl
  refine pw_ld E (pc' := 2) (st' := [.ref 185]) rfl (fun _ => rfl) ?_
  refine pw_ld E (pc' := 3) (st' := [pw_i 0, .ref 185]) rfl (fun _ => rfl) ?_
  refine pw_ld E (pc' := 4) (st' := [.ref 16, pw_i 0, .ref 185]) rfl (fun _ => rfl) ?_
  refine pw_ld E (pc' := 5) (st' := [pw_i a0, .ref 16, pw_i 0, .ref 185]) rfl (fun _ => rfl) ?_
  refine pw_ld E (pc' := 6) (st' := [pw_i a1, pw_i a0, .ref 16, pw_i 0, .ref 185]) rfl (fun _ => rfl) ?_
  refine pw_ld E (pc' := 7) (st' := [pw_i a2, pw_i a1, pw_i a0, .ref 16, pw_i 0, .ref 185]) rfl (fun _ => rfl) ?_
  refine pw_ld E (pc' := 9) (st' := [pw_i a3, pw_i a2, pw_i a1, pw_i a0, .ref 16, pw_i 0, .ref 185]) rfl (fun _ => rfl) ?_
  obtain ⟨fl, fh, -⟩ := pw_obj (c := 0) I rfl
  refine pw_callH (m' := 178) (As := [.ref 16, pw_i a0, pw_i a1, pw_i a2, pw_i a3]) (rest := [pw_i 0, .ref 185]) (ls'' := [some (.ref 16), some (pw_i a0), some (pw_i a1), some (pw_i a2), some (pw_i a3), none]) (by omega) E rfl (fun _ => pw_iVh rfl rfl rfl rfl (pw_cellI fh rfl)) (rfl : pm_ent 178 = some (5, 6, 11, 2, pmc_178)) rfl rfl (cm_178 (by omega) I a0 (by omega) (by omega) a1 (by omega) (by omega) a2 (by omega) (by omega) a3 (by omega) (by omega)) ?_
  rintro h1 v1 ⟨I1, E1, rfl | ⟨w, rfl⟩⟩
  · exact Or.inl ⟨rfl, I1, (E1.wk (W' := [17, 18, 22, 19, 169]) (by first | rfl | decide)), 1, rfl, by decide, by decide⟩
  · refine Or.inr ⟨_, rfl, ?_⟩
    show pw X d h1 315 12 [some (.ref 16), some (pw_i a0), some (pw_i a1), some (pw_i a2), some (pw_i a3), some (.ref 185), none] [.long w, pw_i 0, .ref 185] _
    refine pw_last I1 E (c := 169) (pc' := 13) rfl rfl rfl (by decide) (by decide) (by decide) rfl ?_
    intro I2 E2
    have E3 := ((E1.wk (W' := [17, 18, 22, 19, 169]) (by first | rfl | decide)) : pw_E [17, 18, 22, 19, 169] h h1).tr (E2.wk (W' := [17, 18, 22, 19, 169]) (by first | rfl | decide))
    refine pw_goto E (pc' := 20) rfl (by decide) ?_
    refine pw_ld E (pc' := 21) (st' := [pw_i 0]) rfl (fun _ => rfl) ?_
    refine pw_iret E rfl ?_
    exact ⟨I2, E3, 0, rfl, by decide, by decide⟩
set_option maxHeartbeats 1000000 in
theorem cm_317 {X : List (Nat × List Value)} {d : Nat} {h : pm_H} (hd : 6 ≤ d) (I : pw_I h) (a0 : Int) (ha01 : (-2147483648) ≤ a0) (ha02 : a0 ≤ 2147483647) (a1 : Int) (ha11 : (-2147483648) ≤ a1) (ha12 : a1 ≤ 2147483647) (a2 : Int) (ha21 : (-2147483648) ≤ a2) (ha22 : a2 ≤ 2147483647) (a3 : Int) (ha31 : (-2147483648) ≤ a3) (ha32 : a3 ≤ 2147483647) : pw X d h 317 0 [some (.ref 16), some (pw_i a0), some (pw_i a1), some (pw_i a2), some (pw_i a3), some (.ref 185), none] [] (fun h' v => pw_I h' ∧ pw_E [17, 18, 22, 23, 169] h h' ∧ ∃ a : Int, v = .inl (some (pw_i a)) ∧ 0 ≤ a ∧ a ≤ 1) := by
  have E : pm_ent 317 = some (6, 7, 13, 0, pmc_317) := rfl
  refine pw_ld E (pc' := 2) (st' := [.ref 185]) rfl (fun _ => rfl) ?_
  refine pw_ld E (pc' := 3) (st' := [pw_i 0, .ref 185]) rfl (fun _ => rfl) ?_
  refine pw_ld E (pc' := 4) (st' := [.ref 16, pw_i 0, .ref 185]) rfl (fun _ => rfl) ?_
  refine pw_ld E (pc' := 5) (st' := [pw_i a0, .ref 16, pw_i 0, .ref 185]) rfl (fun _ => rfl) ?_
  refine pw_ld E (pc' := 6) (st' := [pw_i a1, pw_i a0, .ref 16, pw_i 0, .ref 185]) rfl (fun _ => rfl) ?_
  refine pw_ld E (pc' := 7) (st' := [pw_i a2, pw_i a1, pw_i a0, .ref 16, pw_i 0, .ref 185]) rfl (fun _ => rfl) ?_
  refine pw_ld E (pc' := 9) (st' := [pw_i a3, pw_i a2, pw_i a1, pw_i a0, .ref 16, pw_i 0, .ref 185]) rfl (fun _ => rfl) ?_
  obtain ⟨fl, fh, -⟩ := pw_obj (c := 0) I rfl
  refine pw_callH (m' := 180) (As := [.ref 16, pw_i a0, pw_i a1, pw_i a2, pw_i a3]) (rest := [pw_i 0, .ref 185]) (ls'' := [some (.ref 16), some (pw_i a0), some (pw_i a1), some (pw_i a2), some (pw_i a3)]) (by omega) E rfl (fun _ => pw_iVh rfl rfl rfl rfl (pw_cellI fh rfl)) (rfl : pm_ent 180 = some (5, 5, 11, 2, pmc_180)) rfl rfl (cm_180 (by omega) I a0 (by omega) (by omega) a1 (by omega) (by omega) a2 (by omega) (by omega) a3 (by omega) (by omega)) ?_
  rintro h1 v1 ⟨I1, E1, rfl | ⟨w, rfl⟩⟩
  · exact Or.inl ⟨rfl, I1, (E1.wk (W' := [17, 18, 22, 23, 169]) (by first | rfl | decide)), 1, rfl, by decide, by decide⟩
  · refine Or.inr ⟨_, rfl, ?_⟩
    show pw X d h1 317 12 [some (.ref 16), some (pw_i a0), some (pw_i a1), some (pw_i a2), some (pw_i a3), some (.ref 185), none] [.long w, pw_i 0, .ref 185] _
    refine pw_last I1 E (c := 169) (pc' := 13) rfl rfl rfl (by decide) (by decide) (by decide) rfl ?_
    intro I2 E2
    have E3 := ((E1.wk (W' := [17, 18, 22, 23, 169]) (by first | rfl | decide)) : pw_E [17, 18, 22, 23, 169] h h1).tr (E2.wk (W' := [17, 18, 22, 23, 169]) (by first | rfl | decide))
    refine pw_goto E (pc' := 20) rfl (by decide) ?_
    refine pw_ld E (pc' := 21) (st' := [pw_i 0]) rfl (fun _ => rfl) ?_
    refine pw_iret E rfl ?_
    exact ⟨I2, E3, 0, rfl, by decide, by decide⟩
set_option maxHeartbeats 1000000 in
theorem cm_318 {X : List (Nat × List Value)} {d : Nat} {h : pm_H} (hd : 4 ≤ d) (I : pw_I h) (z : Int) (hz1 : 0 ≤ z) (hz2 : z ≤ 1) (wt : Int) (hwt1 : (-2147483648) ≤ wt) (hwt2 : wt ≤ 2147483647) : pw X d h 318 0 [some (.ref 16), some (pw_i z), some (pw_i wt), some (.ref 185), none] [] (fun h' v => pw_I h' ∧ pw_E [22, 169] h h' ∧ ∃ a : Int, v = .inl (some (pw_i a)) ∧ 0 ≤ a ∧ a ≤ 1) := by
  have E : pm_ent 318 = some (4, 5, 13, 0, pmc_318) := rfl
  refine pw_ld E (pc' := 1) (st' := [.ref 185]) rfl (fun _ => rfl) ?_
  refine pw_ld E (pc' := 2) (st' := [pw_i 0, .ref 185]) rfl (fun _ => rfl) ?_
  refine pw_ld E (pc' := 3) (st' := [.ref 16, pw_i 0, .ref 185]) rfl (fun _ => rfl) ?_
  refine pw_ld E (pc' := 4) (st' := [pw_i z, .ref 16, pw_i 0, .ref 185]) rfl (fun _ => rfl) ?_
  refine pw_ld E (pc' := 5) (st' := [pw_i wt, pw_i z, .ref 16, pw_i 0, .ref 185]) rfl (fun _ => rfl) ?_
  obtain ⟨fl, fh, -⟩ := pw_obj (c := 0) I rfl
  refine pw_callH (m' := 181) (As := [.ref 16, pw_i z, pw_i wt]) (rest := [pw_i 0, .ref 185]) (ls'' := [some (.ref 16), some (pw_i z), some (pw_i wt)]) (by omega) E rfl (fun _ => pw_iVh rfl rfl rfl rfl (pw_cellI fh rfl)) (rfl : pm_ent 181 = some (3, 3, 11, 2, pmc_181)) rfl rfl (cm_181 (by omega) I z (by omega) (by omega) wt (by omega) (by omega)) ?_
  rintro h1 v1 ⟨I1, E1, rfl | ⟨w, rfl⟩⟩
  · exact Or.inl ⟨rfl, I1, (E1.wk (W' := [22, 169]) (by first | rfl | decide)), 1, rfl, by decide, by decide⟩
  · refine Or.inr ⟨_, rfl, ?_⟩
    show pw X d h1 318 8 [some (.ref 16), some (pw_i z), some (pw_i wt), some (.ref 185), none] [.long w, pw_i 0, .ref 185] _
    refine pw_last I1 E (c := 169) (pc' := 9) rfl rfl rfl (by decide) (by decide) (by decide) rfl ?_
    intro I2 E2
    have E3 := ((E1.wk (W' := [22, 169]) (by first | rfl | decide)) : pw_E [22, 169] h h1).tr (E2.wk (W' := [22, 169]) (by first | rfl | decide))
    refine pw_goto E (pc' := 16) rfl (by decide) ?_
    refine pw_ld E (pc' := 17) (st' := [pw_i 0]) rfl (fun _ => rfl) ?_
    refine pw_iret E rfl ?_
    exact ⟨I2, E3, 0, rfl, by decide, by decide⟩
set_option maxHeartbeats 1000000 in
theorem cm_319 {X : List (Nat × List Value)} {d : Nat} {h : pm_H} (hd : 7 ≤ d) (I : pw_I h) (wr : Int) (hwr1 : (-2147483648) ≤ wr) (hwr2 : wr ≤ 2147483647) (wt : Int) (hwt1 : (-2147483648) ≤ wt) (hwt2 : wt ≤ 2147483647) : pw X d h 319 0 [some (.ref 16), some (pw_i wr), some (pw_i wt), some (.ref 185), none] [] (fun h' v => pw_I h' ∧ pw_E [17, 18, 22, 95, 51, 65, 79, 93, 169] h h' ∧ ∃ a : Int, v = .inl (some (pw_i a)) ∧ 0 ≤ a ∧ a ≤ 1) := by
  have E : pm_ent 319 = some (4, 5, 13, 0, pmc_319) := rfl
  refine pw_ld E (pc' := 1) (st' := [.ref 185]) rfl (fun _ => rfl) ?_
  refine pw_ld E (pc' := 2) (st' := [pw_i 0, .ref 185]) rfl (fun _ => rfl) ?_
  refine pw_ld E (pc' := 3) (st' := [.ref 16, pw_i 0, .ref 185]) rfl (fun _ => rfl) ?_
  refine pw_ld E (pc' := 4) (st' := [pw_i wr, .ref 16, pw_i 0, .ref 185]) rfl (fun _ => rfl) ?_
  refine pw_ld E (pc' := 5) (st' := [pw_i wt, pw_i wr, .ref 16, pw_i 0, .ref 185]) rfl (fun _ => rfl) ?_
  obtain ⟨fl, fh, -⟩ := pw_obj (c := 0) I rfl
  refine pw_callH (m' := 182) (As := [.ref 16, pw_i wr, pw_i wt]) (rest := [pw_i 0, .ref 185]) (ls'' := [some (.ref 16), some (pw_i wr), some (pw_i wt), none]) (by omega) E rfl (fun _ => pw_iVh rfl rfl rfl rfl (pw_cellI fh rfl)) (rfl : pm_ent 182 = some (3, 4, 11, 2, pmc_182)) rfl rfl (cm_182 (by omega) I wr (by omega) (by omega) wt (by omega) (by omega)) ?_
  rintro h1 v1 ⟨I1, E1, rfl | ⟨w, rfl⟩⟩
  · exact Or.inl ⟨rfl, I1, (E1.wk (W' := [17, 18, 22, 95, 51, 65, 79, 93, 169]) (by first | rfl | decide)), 1, rfl, by decide, by decide⟩
  · refine Or.inr ⟨_, rfl, ?_⟩
    show pw X d h1 319 8 [some (.ref 16), some (pw_i wr), some (pw_i wt), some (.ref 185), none] [.long w, pw_i 0, .ref 185] _
    refine pw_last I1 E (c := 169) (pc' := 9) rfl rfl rfl (by decide) (by decide) (by decide) rfl ?_
    intro I2 E2
    have E3 := ((E1.wk (W' := [17, 18, 22, 95, 51, 65, 79, 93, 169]) (by first | rfl | decide)) : pw_E [17, 18, 22, 95, 51, 65, 79, 93, 169] h h1).tr (E2.wk (W' := [17, 18, 22, 95, 51, 65, 79, 93, 169]) (by first | rfl | decide))
    refine pw_goto E (pc' := 16) rfl (by decide) ?_
    refine pw_ld E (pc' := 17) (st' := [pw_i 0]) rfl (fun _ => rfl) ?_
    refine pw_iret E rfl ?_
    exact ⟨I2, E3, 0, rfl, by decide, by decide⟩
set_option maxHeartbeats 1000000 in
theorem cm_320 {X : List (Nat × List Value)} {d : Nat} {h : pm_H} (hd : 7 ≤ d) (I : pw_I h) (wt : Int) (hwt1 : (-2147483648) ≤ wt) (hwt2 : wt ≤ 2147483647) : pw X d h 320 0 [some (.ref 16), some (pw_i wt), some (.ref 185), none] [] (fun h' v => pw_I h' ∧ pw_E [17, 18, 22, 23, 95, 51, 65, 79, 93, 169] h h' ∧ ∃ a : Int, v = .inl (some (pw_i a)) ∧ 0 ≤ a ∧ a ≤ 1) := by
  have E : pm_ent 320 = some (3, 4, 13, 0, pmc_320) := rfl
  refine pw_ld E (pc' := 1) (st' := [.ref 185]) rfl (fun _ => rfl) ?_
  refine pw_ld E (pc' := 2) (st' := [pw_i 0, .ref 185]) rfl (fun _ => rfl) ?_
  refine pw_ld E (pc' := 3) (st' := [.ref 16, pw_i 0, .ref 185]) rfl (fun _ => rfl) ?_
  refine pw_ld E (pc' := 4) (st' := [pw_i wt, .ref 16, pw_i 0, .ref 185]) rfl (fun _ => rfl) ?_
  obtain ⟨fl, fh, -⟩ := pw_obj (c := 0) I rfl
  refine pw_callH (m' := 184) (As := [.ref 16, pw_i wt]) (rest := [pw_i 0, .ref 185]) (ls'' := [some (.ref 16), some (pw_i wt), none, none, none, none]) (by omega) E rfl (fun _ => pw_iVh rfl rfl rfl rfl (pw_cellI fh rfl)) (rfl : pm_ent 184 = some (2, 6, 11, 2, pmc_184)) rfl rfl (cm_184 (by omega) I wt (by omega) (by omega)) ?_
  rintro h1 v1 ⟨I1, E1, rfl | ⟨w, rfl⟩⟩
  · exact Or.inl ⟨rfl, I1, (E1.wk (W' := [17, 18, 22, 23, 95, 51, 65, 79, 93, 169]) (by first | rfl | decide)), 1, rfl, by decide, by decide⟩
  · refine Or.inr ⟨_, rfl, ?_⟩
    show pw X d h1 320 7 [some (.ref 16), some (pw_i wt), some (.ref 185), none] [.long w, pw_i 0, .ref 185] _
    refine pw_last I1 E (c := 169) (pc' := 8) rfl rfl rfl (by decide) (by decide) (by decide) rfl ?_
    intro I2 E2
    have E3 := ((E1.wk (W' := [17, 18, 22, 23, 95, 51, 65, 79, 93, 169]) (by first | rfl | decide)) : pw_E [17, 18, 22, 23, 95, 51, 65, 79, 93, 169] h h1).tr (E2.wk (W' := [17, 18, 22, 23, 95, 51, 65, 79, 93, 169]) (by first | rfl | decide))
    refine pw_goto E (pc' := 14) rfl (by decide) ?_
    refine pw_ld E (pc' := 15) (st' := [pw_i 0]) rfl (fun _ => rfl) ?_
    refine pw_iret E rfl ?_
    exact ⟨I2, E3, 0, rfl, by decide, by decide⟩
set_option maxHeartbeats 1000000 in
theorem cm_321 {X : List (Nat × List Value)} {d : Nat} {h : pm_H} (hd : 6 ≤ d) (I : pw_I h) (k : Int) (hk1 : (-2147483648) ≤ k) (hk2 : k ≤ 2147483647) (mo : Int) (hmo1 : (-2147483648) ≤ mo) (hmo2 : mo ≤ 2147483647) (wt : Int) (hwt1 : (-2147483648) ≤ wt) (hwt2 : wt ≤ 2147483647) : pw X d h 321 0 [some (.ref 16), some (pw_i k), some (pw_i mo), some (pw_i wt), some (.ref 185), none] [] (fun h' v => pw_I h' ∧ pw_E [169] h h' ∧ ∃ a : Int, v = .inl (some (pw_i a)) ∧ 0 ≤ a ∧ a ≤ 1) := by
  have E : pm_ent 321 = some (5, 6, 13, 0, pmc_321) := rfl
  refine pw_ld E (pc' := 2) (st' := [.ref 185]) rfl (fun _ => rfl) ?_
  refine pw_ld E (pc' := 3) (st' := [pw_i 0, .ref 185]) rfl (fun _ => rfl) ?_
  refine pw_ld E (pc' := 4) (st' := [.ref 16, pw_i 0, .ref 185]) rfl (fun _ => rfl) ?_
  refine pw_ld E (pc' := 5) (st' := [pw_i k, .ref 16, pw_i 0, .ref 185]) rfl (fun _ => rfl) ?_
  refine pw_ld E (pc' := 6) (st' := [pw_i mo, pw_i k, .ref 16, pw_i 0, .ref 185]) rfl (fun _ => rfl) ?_
  refine pw_ld E (pc' := 7) (st' := [pw_i wt, pw_i mo, pw_i k, .ref 16, pw_i 0, .ref 185]) rfl (fun _ => rfl) ?_
  obtain ⟨fl, fh, -⟩ := pw_obj (c := 0) I rfl
  refine pw_callH (m' := 187) (As := [.ref 16, pw_i k, pw_i mo, pw_i wt]) (rest := [pw_i 0, .ref 185]) (ls'' := [some (.ref 16), some (pw_i k), some (pw_i mo), some (pw_i wt)]) (by omega) E rfl (fun _ => pw_iVh rfl rfl rfl rfl (pw_cellI fh rfl)) (rfl : pm_ent 187 = some (4, 4, 11, 2, pmc_187)) rfl rfl (cm_187 (by omega) I k (by omega) (by omega) mo (by omega) (by omega) wt (by omega) (by omega)) ?_
  rintro h1 v1 ⟨rfl, rfl | ⟨w, rfl⟩⟩
  · exact Or.inl ⟨rfl, I, pw_E.rf _ _, 1, rfl, by decide, by decide⟩
  · refine Or.inr ⟨_, rfl, ?_⟩
    show pw X d h 321 10 [some (.ref 16), some (pw_i k), some (pw_i mo), some (pw_i wt), some (.ref 185), none] [.long w, pw_i 0, .ref 185] _
    refine pw_last I E (c := 169) (pc' := 11) rfl rfl rfl (by decide) (by decide) (by decide) rfl ?_
    intro I2 E2
    have E3 := (pw_E.rf _ _ : pw_E [169] h h).tr (E2.wk (W' := [169]) (by first | rfl | decide))
    refine pw_goto E (pc' := 18) rfl (by decide) ?_
    refine pw_ld E (pc' := 19) (st' := [pw_i 0]) rfl (fun _ => rfl) ?_
    refine pw_iret E rfl ?_
    exact ⟨I2, E3, 0, rfl, by decide, by decide⟩
set_option maxHeartbeats 1000000 in
theorem cm_322 {X : List (Nat × List Value)} {d : Nat} {h : pm_H} (hd : 7 ≤ d) (I : pw_I h) (bk : Int) (hbk1 : (-2147483648) ≤ bk) (hbk2 : bk ≤ 2147483647) (b : Int) (hb1 : (-2147483648) ≤ b) (hb2 : b ≤ 2147483647) (e : Int) (he1 : (-2147483648) ≤ e) (he2 : e ≤ 2147483647) (wt : Int) (hwt1 : (-2147483648) ≤ wt) (hwt2 : wt ≤ 2147483647) : pw X d h 322 0 [some (.ref 16), some (pw_i bk), some (pw_i b), some (pw_i e), some (pw_i wt), some (.ref 185), none] [] (fun h' v => pw_I h' ∧ pw_E [169] h h' ∧ ∃ a : Int, v = .inl (some (pw_i a)) ∧ 0 ≤ a ∧ a ≤ 1) := by
  have E : pm_ent 322 = some (6, 7, 13, 0, pmc_322) := rfl
  refine pw_ld E (pc' := 2) (st' := [.ref 185]) rfl (fun _ => rfl) ?_
  refine pw_ld E (pc' := 3) (st' := [pw_i 0, .ref 185]) rfl (fun _ => rfl) ?_
  refine pw_ld E (pc' := 4) (st' := [.ref 16, pw_i 0, .ref 185]) rfl (fun _ => rfl) ?_
  refine pw_ld E (pc' := 5) (st' := [pw_i bk, .ref 16, pw_i 0, .ref 185]) rfl (fun _ => rfl) ?_
  refine pw_ld E (pc' := 6) (st' := [pw_i b, pw_i bk, .ref 16, pw_i 0, .ref 185]) rfl (fun _ => rfl) ?_
  refine pw_ld E (pc' := 7) (st' := [pw_i e, pw_i b, pw_i bk, .ref 16, pw_i 0, .ref 185]) rfl (fun _ => rfl) ?_
  refine pw_ld E (pc' := 9) (st' := [pw_i wt, pw_i e, pw_i b, pw_i bk, .ref 16, pw_i 0, .ref 185]) rfl (fun _ => rfl) ?_
  obtain ⟨fl, fh, -⟩ := pw_obj (c := 0) I rfl
  refine pw_callH (m' := 193) (As := [.ref 16, pw_i bk, pw_i b, pw_i e, pw_i wt]) (rest := [pw_i 0, .ref 185]) (ls'' := [some (.ref 16), some (pw_i bk), some (pw_i b), some (pw_i e), some (pw_i wt), none, none, none]) (by omega) E rfl (fun _ => pw_iVh rfl rfl rfl rfl (pw_cellI fh rfl)) (rfl : pm_ent 193 = some (5, 8, 11, 2, pmc_193)) rfl rfl (cm_193 (by omega) I bk (by omega) (by omega) b (by omega) (by omega) e (by omega) (by omega) wt (by omega) (by omega)) ?_
  rintro h1 v1 ⟨rfl, rfl | ⟨w, rfl⟩⟩
  · exact Or.inl ⟨rfl, I, pw_E.rf _ _, 1, rfl, by decide, by decide⟩
  · refine Or.inr ⟨_, rfl, ?_⟩
    show pw X d h 322 12 [some (.ref 16), some (pw_i bk), some (pw_i b), some (pw_i e), some (pw_i wt), some (.ref 185), none] [.long w, pw_i 0, .ref 185] _
    refine pw_last I E (c := 169) (pc' := 13) rfl rfl rfl (by decide) (by decide) (by decide) rfl ?_
    intro I2 E2
    have E3 := (pw_E.rf _ _ : pw_E [169] h h).tr (E2.wk (W' := [169]) (by first | rfl | decide))
    refine pw_goto E (pc' := 20) rfl (by decide) ?_
    refine pw_ld E (pc' := 21) (st' := [pw_i 0]) rfl (fun _ => rfl) ?_
    refine pw_iret E rfl ?_
    exact ⟨I2, E3, 0, rfl, by decide, by decide⟩
set_option maxHeartbeats 1000000 in
theorem cm_323 {X : List (Nat × List Value)} {d : Nat} {h : pm_H} (hd : 6 ≤ d) (I : pw_I h) (a0 : Int) (ha01 : (-2147483648) ≤ a0) (ha02 : a0 ≤ 2147483647) (a1 : Int) (ha11 : (-2147483648) ≤ a1) (ha12 : a1 ≤ 2147483647) (a2 : Int) (ha21 : (-2147483648) ≤ a2) (ha22 : a2 ≤ 2147483647) : pw X d h 323 0 [some (.ref 16), some (pw_i a0), some (pw_i a1), some (pw_i a2), some (.ref 185), none] [] (fun h' v => pw_I h' ∧ pw_E [17, 18, 22, 169] h h' ∧ ∃ a : Int, v = .inl (some (pw_i a)) ∧ 0 ≤ a ∧ a ≤ 1) := by
  have E : pm_ent 323 = some (5, 6, 13, 0, pmc_323) := rfl
  refine pw_ld E (pc' := 2) (st' := [.ref 185]) rfl (fun _ => rfl) ?_
  refine pw_ld E (pc' := 3) (st' := [pw_i 0, .ref 185]) rfl (fun _ => rfl) ?_
  refine pw_ld E (pc' := 4) (st' := [.ref 16, pw_i 0, .ref 185]) rfl (fun _ => rfl) ?_
  refine pw_ld E (pc' := 5) (st' := [pw_i a0, .ref 16, pw_i 0, .ref 185]) rfl (fun _ => rfl) ?_
  refine pw_ld E (pc' := 6) (st' := [pw_i a1, pw_i a0, .ref 16, pw_i 0, .ref 185]) rfl (fun _ => rfl) ?_
  refine pw_ld E (pc' := 7) (st' := [pw_i a2, pw_i a1, pw_i a0, .ref 16, pw_i 0, .ref 185]) rfl (fun _ => rfl) ?_
  obtain ⟨fl, fh, -⟩ := pw_obj (c := 0) I rfl
  refine pw_callH (m' := 195) (As := [.ref 16, pw_i a0, pw_i a1, pw_i a2]) (rest := [pw_i 0, .ref 185]) (ls'' := [some (.ref 16), some (pw_i a0), some (pw_i a1), some (pw_i a2), none, none, none]) (by omega) E rfl (fun _ => pw_iVh rfl rfl rfl rfl (pw_cellI fh rfl)) (rfl : pm_ent 195 = some (4, 7, 11, 2, pmc_195)) rfl rfl (cm_195 (by omega) I a0 (by omega) (by omega) a1 (by omega) (by omega) a2 (by omega) (by omega)) ?_
  rintro h1 v1 ⟨I1, E1, rfl | ⟨w, rfl⟩⟩
  · exact Or.inl ⟨rfl, I1, (E1.wk (W' := [17, 18, 22, 169]) (by first | rfl | decide)), 1, rfl, by decide, by decide⟩
  · refine Or.inr ⟨_, rfl, ?_⟩
    show pw X d h1 323 10 [some (.ref 16), some (pw_i a0), some (pw_i a1), some (pw_i a2), some (.ref 185), none] [.long w, pw_i 0, .ref 185] _
    refine pw_last I1 E (c := 169) (pc' := 11) rfl rfl rfl (by decide) (by decide) (by decide) rfl ?_
    intro I2 E2
    have E3 := ((E1.wk (W' := [17, 18, 22, 169]) (by first | rfl | decide)) : pw_E [17, 18, 22, 169] h h1).tr (E2.wk (W' := [17, 18, 22, 169]) (by first | rfl | decide))
    refine pw_goto E (pc' := 18) rfl (by decide) ?_
    refine pw_ld E (pc' := 19) (st' := [pw_i 0]) rfl (fun _ => rfl) ?_
    refine pw_iret E rfl ?_
    exact ⟨I2, E3, 0, rfl, by decide, by decide⟩
end
