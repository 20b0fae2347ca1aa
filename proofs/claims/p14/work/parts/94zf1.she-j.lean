section
/-! sheets, exactly -/
set_option maxHeartbeats 4000000 in
theorem cm_177_s {X : List (Nat × List Value)} {d : Nat} {h : pm_H} (hd : 4 ≤ d) (I : pw_I h) (b : Int) (hb1 : (-2147483648) ≤ b) (hb2 : b ≤ 2147483647) (e : Int) (he1 : (-2147483648) ≤ e) (he2 : e ≤ 2147483647) (z : Int) (hz1 : 0 ≤ z) (hz2 : z ≤ 1) (wt : Int) (hwt1 : (-2147483648) ≤ wt) (hwt2 : wt ≤ 2147483647) : pw X d h 177 0 [some (.ref 16), some (pw_i b), some (pw_i e), some (pw_i z), some (pw_i wt), none, none] [] (fun h' v => pw_I h' ∧ pw_E [17, 18, 22] h h' ∧ ((v = .inr () ∧ (¬ (0 ≤ b ∧ b ≤ 11 ∧ 0 ≤ e ∧ e ≤ 11 ∧ b ≠ e ∧ 0 ≤ wt ∧ wt ≤ 1) ∨ ¬ pv_OK (pv_sds h z b e))) ∨ (∃ a : Int, v = .inl (some (.long (Int64.ofInt a))) ∧ (-1099511627776) ≤ a ∧ a ≤ 1099511627776 ∧ ((0 ≤ b ∧ b ≤ 11 ∧ 0 ≤ e ∧ e ≤ 11 ∧ b ≠ e ∧ 0 ≤ wt ∧ wt ≤ 1) ∧ pv_OK (pv_sds h z b e) ∧ a = pv_LW (pv_U (pv_sds h z b e) (pv_chs h b e)) (pv_D (pv_sds h z b e)) wt)))) := by
  have E : pm_ent 177 = some (5, 7, 11, 2, pmc_177) := rfl
  have E0 : pw_E [17, 18, 22] h h := pw_E.rf _ _
  refine pw_ld E (pc' := 1) (st' := [pw_i b]) rfl (fun _ => rfl) ?_
  refine pw_ld E (pc' := 2) (st' := [pw_i e, pw_i b]) rfl (fun _ => rfl) ?_
  refine pw_call (m' := 131) (As := [pw_i b, pw_i e]) (rest := []) (ls'' := [some (pw_i b), some (pw_i e)]) (Nat.le_trans (by decide) hd) E rfl (fun _ => pw_iS rfl rfl rfl) (rfl : pm_ent 131 = some (2, 2, 11, 1, pmc_131)) rfl rfl (cm_131_s (pw_dp hd (by decide)) I (b) (by omega) (by omega) (e) (by omega) (by omega)) ?_
  rintro u2 v1 ⟨rfl, x3, rfl, hx3a, hx3b, hx3r⟩
  refine ⟨_, rfl, ?_⟩
  show pw X d h 177 5 [some (.ref 16), some (pw_i b), some (pw_i e), some (pw_i z), some (pw_i wt), none, none] [pw_i x3] _
  change (x3 = 1 ∧ 0 ≤ b ∧ b ≤ 11 ∧ 0 ≤ e ∧ e ≤ 11 ∧ b ≠ e) ∨ (x3 = 0 ∧ ¬ (0 ≤ b ∧ b ≤ 11 ∧ 0 ≤ e ∧ e ≤ 11 ∧ b ≠ e)) at hx3r
  rcases (by omega : x3 = 1 ∨ x3 = 0) with hb4 | hb4
  · skip
    refine pw_if E (pc' := 16) rfl (by decide) (by omega) (by omega) ?_ ?_
    · intro hc5
      change x3 = (0 : Int) at hc5
      exfalso; omega
    · intro hc6
      change ¬ (x3 = (0 : Int)) at hc6
      refine pw_ld E (pc' := 10) (st' := [pw_i wt]) rfl (fun _ => rfl) ?_
      refine pw_call (m' := 137) (As := [pw_i wt]) (rest := []) (ls'' := [some (pw_i wt)]) (Nat.le_trans (by decide) hd) E rfl (fun _ => pw_iS rfl rfl rfl) (rfl : pm_ent 137 = some (1, 1, 11, 1, pmc_137)) rfl rfl (cm_137 (pw_dp hd (by decide)) I (wt) (by omega) (by omega)) ?_
      rintro u8 v7 ⟨rfl, x9, rfl, hx9a, hx9b, hx9r⟩
      refine ⟨_, rfl, ?_⟩
      show pw X d h 177 13 [some (.ref 16), some (pw_i b), some (pw_i e), some (pw_i z), some (pw_i wt), none, none] [pw_i x9] _
      change (x9 = 1 ∧ 0 ≤ wt ∧ wt ≤ 1) ∨ (x9 = 0 ∧ ¬ (0 ≤ wt ∧ wt ≤ 1)) at hx9r
      rcases (by omega : x9 = 1 ∨ x9 = 0) with hb10 | hb10
      · skip
        refine pw_if E (pc' := 24) rfl (by decide) (by omega) (by omega) ?_ ?_
        · intro hc11
          change x9 ≠ (0 : Int) at hc11
          refine pw_ld E (pc' := 25) (st' := [.ref 16]) rfl (fun _ => rfl) ?_
          refine pw_getR (b := 32) I E (c := 0) (k := 7) (pc' := 28) rfl rfl rfl rfl rfl rfl rfl ?_
          obtain ⟨f12l, f12h, -⟩ := pw_obj (c := 16) I rfl
          refine pw_call (m' := 81) (As := [.ref 32]) (rest := []) (ls'' := [some (.ref 32)]) (Nat.le_trans (by decide) hd) E rfl (fun _ => pw_iV rfl rfl rfl rfl (pw_cellI f12h rfl)) (rfl : pm_ent 81 = some (1, 1, 8, 4, pmc_81)) rfl rfl (cm_81_s (pw_dp hd (by decide)) I ) ?_
          rintro h13 v14 ⟨h13I, h13E, hqclear, rfl⟩
          refine ⟨_, rfl, ?_⟩
          have h13F := E0.tr (h13E.wk (W' := [17, 18, 22]) (by first | rfl | simp))
          show pw X d h13 177 31 [some (.ref 16), some (pw_i b), some (pw_i e), some (pw_i z), some (pw_i wt), none, none] [] _
          refine pw_ld E (pc' := 32) (st' := [pw_i 0]) rfl (fun _ => rfl) ?_
          refine pw_ist E (pc' := 34) (ls' := [some (.ref 16), some (pw_i b), some (pw_i e), some (pw_i z), some (pw_i wt), some (pw_i 0), none]) rfl rfl rfl rfl ?_
          have L34 : ∀ (n34 : Nat) (k34_5 : Int) (k34_6 : Option Value) (gh34 : pm_H), pw_I gh34 → pw_E [17, 18, 22] h gh34 → 0 ≤ k34_5 → k34_5 ≤ 24 → pv_FL gh34 (pv_sds h z b e) (pv_chs h b e) k34_5 → (24 - k34_5).toNat = n34 → pw X d gh34 177 34 [some (.ref 16), some (pw_i b), some (pw_i e), some (pw_i z), some (pw_i wt), some (pw_i k34_5), k34_6] [] (fun h' v => pw_I h' ∧ pw_E [17, 18, 22] h h' ∧ ((v = .inr () ∧ (¬ (0 ≤ b ∧ b ≤ 11 ∧ 0 ≤ e ∧ e ≤ 11 ∧ b ≠ e ∧ 0 ≤ wt ∧ wt ≤ 1) ∨ ¬ pv_OK (pv_sds h z b e))) ∨ (∃ a : Int, v = .inl (some (.long (Int64.ofInt a))) ∧ (-1099511627776) ≤ a ∧ a ≤ 1099511627776 ∧ ((0 ≤ b ∧ b ≤ 11 ∧ 0 ≤ e ∧ e ≤ 11 ∧ b ≠ e ∧ 0 ≤ wt ∧ wt ≤ 1) ∧ pv_OK (pv_sds h z b e) ∧ a = pv_LW (pv_U (pv_sds h z b e) (pv_chs h b e)) (pv_D (pv_sds h z b e)) wt)))) := by
            intro n34
            induction n34 using Nat.strongRecOn with
            | ind n34 ih34 =>
              intro k34_5 k34_6 gh34 I34 E34 k34_5a k34_5b hx34_0 hm34
              refine pw_ld E (pc' := 36) (st' := [pw_i k34_5]) rfl (fun _ => rfl) ?_
              refine pw_bip E (pc' := 38) rfl rfl (by decide) ?_
              refine pw_if2 E (pc' := 134) rfl (by decide) (by omega) (by omega) (by decide) (by decide) ?_ ?_
              · intro hc15
                change (24 : Int) ≤ k34_5 at hc15
                have hFL : pv_FL gh34 (pv_sds h z b e) (pv_chs h b e) 24 := by rw [show (24 : Int) = k34_5 by omega]; exact hx34_0
                have hB : pv_Bd gh34 := hFL.bd (pv_chsB I (by omega) (by omega) (by omega) (by omega))
                refine pw_ld E (pc' := 135) (st' := [.ref 16]) rfl (fun _ => rfl) ?_
                refine pw_getR (b := 32) I34 E (c := 0) (k := 7) (pc' := 138) rfl rfl rfl rfl rfl rfl rfl ?_
                refine pw_ld E (pc' := 139) (st' := [.ref 16, .ref 32]) rfl (fun _ => rfl) ?_
                refine pw_getR (b := 38) I34 E (c := 0) (k := 8) (pc' := 142) rfl rfl rfl rfl rfl rfl rfl ?_
                obtain ⟨f16l, f16h, -⟩ := pw_obj (c := 16) I34 rfl
                refine pw_call (m' := 83) (As := [.ref 32, .ref 38]) (rest := []) (ls'' := [some (.ref 32), some (.ref 38), none, none, none, none]) (Nat.le_trans (by decide) hd) E rfl (fun _ => pw_iV rfl rfl rfl rfl (pw_cellI f16h rfl)) (rfl : pm_ent 83 = some (2, 6, 8, 1, pmc_83)) rfl rfl (cm_83_22s (pw_dp hd (by decide)) I34 hB) ?_
                rintro h17 v18 ⟨h17I, h17E, x19, rfl, hx19a, hx19b, hx19r⟩
                refine ⟨_, rfl, ?_⟩
                have h17F := E34.tr (h17E.wk (W' := [17, 18, 22]) (by first | rfl | simp))
                show pw X d h17 177 145 [some (.ref 16), some (pw_i b), some (pw_i e), some (pw_i z), some (pw_i wt), some (pw_i k34_5), k34_6] [pw_i x19] _
                change (x19 = 0 ∧ ¬ pv_OK (pw_g gh34 17)) ∨ (x19 = 1 ∧ pv_OK (pw_g gh34 17) ∧ pw_gm h17 22 0 = Int.tdiv (pv_U (pw_g gh34 17) (pw_g gh34 18)) (pw_gd (pv_U (pw_g gh34 17) (pw_g gh34 18)) (pv_D (pw_g gh34 17))) ∧ pw_gm h17 22 1 = Int.tdiv (pv_D (pw_g gh34 17)) (pw_gd (pv_U (pw_g gh34 17) (pw_g gh34 18)) (pv_D (pw_g gh34 17)))) at hx19r
                rcases (by omega : x19 = 1 ∨ x19 = 0) with hb20 | hb20
                · skip
                  refine pw_if E (pc' := 156) rfl (by decide) (by omega) (by omega) ?_ ?_
                  · intro hc21
                    change x19 ≠ (0 : Int) at hc21
                    obtain ⟨-, hok0, hm0, hm1⟩ := hx19r.resolve_left (fun q => by have := q.1; omega)
                    have hok : pv_OK (pv_sds h z b e) := hFL.eq.2.2.1.mp hok0
                    rw [hFL.eq.1, hFL.eq.2.1] at hm0 hm1
                    have htd := pv_tdUB (sd := pv_sds h z b e) (ch := pv_chs h b e) (pv_chsB I (by omega) (by omega) (by omega) (by omega)) hok
                    refine pw_ld E (pc' := 157) (st' := [.ref 16]) rfl (fun _ => rfl) ?_
                    refine pw_getR (b := 38) h17I E (c := 0) (k := 8) (pc' := 160) rfl rfl rfl rfl rfl rfl rfl ?_
                    refine pw_ld E (pc' := 162) (st' := [pw_i wt, .ref 38]) rfl (fun _ => rfl) ?_
                    obtain ⟨f22l, f22h, -⟩ := pw_obj (c := 22) h17I rfl
                    refine pw_call (m' := 9) (As := [.ref 38, pw_i wt]) (rest := []) (ls'' := [some (.ref 38), some (pw_i wt)]) (Nat.le_trans (by decide) hd) E rfl (fun _ => pw_iV rfl rfl rfl rfl (pw_cellI f22h rfl)) (rfl : pm_ent 9 = some (2, 2, 1, 2, pmc_9)) rfl rfl (cm_9_22g (pw_dp hd (by decide)) h17I (wt) (by omega) (by omega) (by omega) (by omega) (by omega) (by omega)) ?_
                    rintro u24 v23 ⟨rfl, x25, rfl, hx25a, hx25b, hx25r⟩
                    refine ⟨_, rfl, ?_⟩
                    show pw X d h17 177 165 [some (.ref 16), some (pw_i b), some (pw_i e), some (pw_i z), some (pw_i wt), some (pw_i k34_5), k34_6] [.long (Int64.ofInt x25)] _
                    change (wt = 0 → x25 = pw_gm h17 22 0) ∧ (wt ≠ 0 → x25 = pw_gm h17 22 1) at hx25r
                    refine pw_lret E rfl ?_
                    exact ⟨h17I, h17F, Or.inr ⟨_, rfl, by omega, by omega, by omega, hok, (pv_pick hm0 hm1 hx25r)⟩⟩
                  · intro hc26
                    change ¬ (x19 ≠ (0 : Int)) at hc26
                    exfalso; omega
                · skip
                  refine pw_if E (pc' := 156) rfl (by decide) (by omega) (by omega) ?_ ?_
                  · intro hc28
                    change x19 ≠ (0 : Int) at hc28
                    exfalso; omega
                  · intro hc29
                    change ¬ (x19 ≠ (0 : Int)) at hc29
                    refine pw_thr E rfl rfl h17I.2 ?_
                    exact ⟨h17I, h17F, Or.inl ⟨rfl, Or.inr (fun q => (hx19r.resolve_right (fun q => by have := q.1; omega)).2 (hFL.eq.2.2.1.mpr q))⟩⟩
              · intro hc30
                change ¬ ((24 : Int) ≤ k34_5) at hc30
                have o1 := pv_sds_I (h := h) (z := z) (b := b) (e := e) (k := k34_5) (by omega)
                have q2 : pw_g gh34 2 (k34_5).toNat = pw_g h 2 (k34_5).toNat := pw_Eg (c := 2) I E34 rfl rfl _
                have q3 : pw_g gh34 3 (k34_5).toNat = pw_g h 3 (k34_5).toNat := pw_Eg (c := 3) I E34 rfl rfl _
                have q4 : pw_g gh34 4 (k34_5).toNat = pw_g h 4 (k34_5).toNat := pw_Eg (c := 4) I E34 rfl rfl _
                have qb : pw_g gh34 13 (k34_5 * 12 + b).toNat = pw_g h 13 (k34_5 * 12 + b).toNat := pw_Eg (c := 13) I E34 rfl rfl _
                have qe : pw_g gh34 13 (k34_5 * 12 + e).toNat = pw_g h 13 (k34_5 * 12 + e).toNat := pw_Eg (c := 13) I E34 rfl rfl _
                have q6 : pw_g gh34 0 6 = pw_g h 0 6 := pw_Eg (c := 0) I E34 rfl rfl _
                refine pw_ld E (pc' := 42) (st' := [.ref 16]) rfl (fun _ => rfl) ?_
                refine pw_getR (b := 17) I34 E (c := 0) (k := 0) (pc' := 45) rfl rfl rfl rfl rfl rfl rfl ?_
                refine pw_ld E (pc' := 47) (st' := [pw_i k34_5, .ref 17]) rfl (fun _ => rfl) ?_
                obtain ⟨f31l, f31h, -⟩ := pw_obj (c := 1) I34 rfl
                refine pw_call (m' := 59) (As := [.ref 17, pw_i k34_5]) (rest := []) (ls'' := [some (.ref 17), some (pw_i k34_5)]) (Nat.le_trans (by decide) hd) E rfl (fun _ => pw_iV rfl rfl rfl rfl (pw_cellI f31h rfl)) (rfl : pm_ent 59 = some (2, 2, 6, 1, pmc_59)) rfl rfl (cm_59 (pw_dp hd (by decide)) I34 (k34_5) (by omega) (by omega)) ?_
                rintro u33 v32 ⟨rfl, x34, rfl, hx34a, hx34b, hx34r⟩
                refine ⟨_, rfl, ?_⟩
                show pw X d gh34 177 50 [some (.ref 16), some (pw_i b), some (pw_i e), some (pw_i z), some (pw_i wt), some (pw_i k34_5), k34_6] [pw_i x34] _
                change x34 = pw_g gh34 2 k34_5.toNat at hx34r
                rcases (by omega : x34 = 1 ∨ x34 = 0) with hb35 | hb35
                · skip
                  refine pw_if E (pc' := 73) rfl (by decide) (by omega) (by omega) ?_ ?_
                  · intro hc36
                    change x34 = (0 : Int) at hc36
                    exfalso; omega
                  · intro hc37
                    change ¬ (x34 = (0 : Int)) at hc37
                    refine pw_ld E (pc' := 54) (st' := [pw_i z]) rfl (fun _ => rfl) ?_
                    refine pw_if E (pc' := 69) rfl (by decide) (by omega) (by omega) ?_ ?_
                    · intro hc38
                      change z = (0 : Int) at hc38
                      refine pw_ld E (pc' := 70) (st' := [pw_i 1]) rfl (fun _ => rfl) ?_
                      refine pw_goto E (pc' := 74) rfl (by decide) ?_
                      refine pw_ist E (pc' := 76) (ls' := [some (.ref 16), some (pw_i b), some (pw_i e), some (pw_i z), some (pw_i wt), some (pw_i k34_5), some (pw_i 1)]) rfl rfl rfl rfl ?_
                      refine pw_ld E (pc' := 78) (st' := [pw_i 1]) rfl (fun _ => rfl) ?_
                      refine pw_if E (pc' := 128) rfl (by decide) (by decide) (by decide) ?_ ?_
                      · intro hc39
                        change (1 : Int) = (0 : Int) at hc39
                        exfalso; omega
                      · intro hc40
                        change ¬ ((1 : Int) = (0 : Int)) at hc40
                        refine pw_ld E (pc' := 82) (st' := [.ref 16]) rfl (fun _ => rfl) ?_
                        refine pw_getR (b := 28) I34 E (c := 0) (k := 3) (pc' := 85) rfl rfl rfl rfl rfl rfl rfl ?_
                        refine pw_ld E (pc' := 87) (st' := [pw_i k34_5, .ref 28]) rfl (fun _ => rfl) ?_
                        refine pw_ld E (pc' := 88) (st' := [pw_i b, pw_i k34_5, .ref 28]) rfl (fun _ => rfl) ?_
                        refine pw_ld E (pc' := 89) (st' := [pw_i e, pw_i b, pw_i k34_5, .ref 28]) rfl (fun _ => rfl) ?_
                        obtain ⟨f41l, f41h, -⟩ := pw_obj (c := 12) I34 rfl
                        refine pw_call (m' := 23) (As := [.ref 28, pw_i k34_5, pw_i b, pw_i e]) (rest := []) (ls'' := [some (.ref 28), some (pw_i k34_5), some (pw_i b), some (pw_i e)]) (Nat.le_trans (by decide) hd) E rfl (fun _ => pw_iV rfl rfl rfl rfl (pw_cellI f41h rfl)) (rfl : pm_ent 23 = some (4, 4, 2, 1, pmc_23)) rfl rfl (cm_23_12s (pw_dp hd (by decide)) I34 (k34_5) (by omega) (by omega) (b) (by omega) (by omega) (e) (by omega) (by omega)) ?_
                        rintro u43 v42 ⟨rfl, x44, rfl, hx44a, hx44b, hx44r⟩
                        refine ⟨_, rfl, ?_⟩
                        show pw X d gh34 177 92 [some (.ref 16), some (pw_i b), some (pw_i e), some (pw_i z), some (pw_i wt), some (pw_i k34_5), some (pw_i 1)] [pw_i x44] _
                        change (x44 = 1 ∧ pw_g gh34 13 (k34_5 * 12 + b).toNat ≠ -2 ∧ pw_g gh34 13 (k34_5 * 12 + e).toNat ≠ -2) ∨ (x44 = 0 ∧ ¬ (pw_g gh34 13 (k34_5 * 12 + b).toNat ≠ -2 ∧ pw_g gh34 13 (k34_5 * 12 + e).toNat ≠ -2)) at hx44r
                        rcases (by omega : x44 = 1 ∨ x44 = 0) with hb45 | hb45
                        · skip
                          refine pw_if E (pc' := 128) rfl (by decide) (by omega) (by omega) ?_ ?_
                          · intro hc46
                            change x44 = (0 : Int) at hc46
                            exfalso; omega
                          · intro hc47
                            change ¬ (x44 = (0 : Int)) at hc47
                            refine pw_ld E (pc' := 96) (st' := [.ref 16]) rfl (fun _ => rfl) ?_
                            refine pw_getR (b := 32) I34 E (c := 0) (k := 7) (pc' := 99) rfl rfl rfl rfl rfl rfl rfl ?_
                            refine pw_ld E (pc' := 101) (st' := [pw_i k34_5, .ref 32]) rfl (fun _ => rfl) ?_
                            refine pw_ld E (pc' := 102) (st' := [.ref 16, pw_i k34_5, .ref 32]) rfl (fun _ => rfl) ?_
                            refine pw_getR (b := 17) I34 E (c := 0) (k := 0) (pc' := 105) rfl rfl rfl rfl rfl rfl rfl ?_
                            refine pw_ld E (pc' := 107) (st' := [pw_i k34_5, .ref 17, pw_i k34_5, .ref 32]) rfl (fun _ => rfl) ?_
                            obtain ⟨f48l, f48h, -⟩ := pw_obj (c := 1) I34 rfl
                            refine pw_call (m' := 60) (As := [.ref 17, pw_i k34_5]) (rest := [pw_i k34_5, .ref 32]) (ls'' := [some (.ref 17), some (pw_i k34_5)]) (Nat.le_trans (by decide) hd) E rfl (fun _ => pw_iV rfl rfl rfl rfl (pw_cellI f48h rfl)) (rfl : pm_ent 60 = some (2, 2, 6, 0, pmc_60)) rfl rfl (cm_60 (pw_dp hd (by decide)) I34 (k34_5) (by omega) (by omega)) ?_
                            rintro u50 v49 ⟨rfl, x51, rfl, hx51a, hx51b, hx51r⟩
                            refine ⟨_, rfl, ?_⟩
                            show pw X d gh34 177 110 [some (.ref 16), some (pw_i b), some (pw_i e), some (pw_i z), some (pw_i wt), some (pw_i k34_5), some (pw_i 1)] [pw_i x51, pw_i k34_5, .ref 32] _
                            change x51 = pw_g gh34 4 k34_5.toNat at hx51r
                            refine pw_ld E (pc' := 111) (st' := [.ref 16, pw_i x51, pw_i k34_5, .ref 32]) rfl (fun _ => rfl) ?_
                            refine pw_getR (b := 28) I34 E (c := 0) (k := 3) (pc' := 114) rfl rfl rfl rfl rfl rfl rfl ?_
                            refine pw_ld E (pc' := 116) (st' := [pw_i k34_5, .ref 28, pw_i x51, pw_i k34_5, .ref 32]) rfl (fun _ => rfl) ?_
                            refine pw_ld E (pc' := 117) (st' := [pw_i b, pw_i k34_5, .ref 28, pw_i x51, pw_i k34_5, .ref 32]) rfl (fun _ => rfl) ?_
                            refine pw_ld E (pc' := 118) (st' := [pw_i e, pw_i b, pw_i k34_5, .ref 28, pw_i x51, pw_i k34_5, .ref 32]) rfl (fun _ => rfl) ?_
                            refine pw_ld E (pc' := 119) (st' := [.ref 16, pw_i e, pw_i b, pw_i k34_5, .ref 28, pw_i x51, pw_i k34_5, .ref 32]) rfl (fun _ => rfl) ?_
                            refine pw_getI2 I34 E (c := 0) (k := 6) (pc' := 122) rfl rfl rfl rfl rfl rfl (fun hf52a hf52b => ?_)
                            obtain ⟨f53l, f53h, -⟩ := pw_obj (c := 12) I34 rfl
                            refine pw_call (m' := 24) (As := [.ref 28, pw_i k34_5, pw_i b, pw_i e, pw_i (pw_g gh34 0 6)]) (rest := [pw_i x51, pw_i k34_5, .ref 32]) (ls'' := [some (.ref 28), some (pw_i k34_5), some (pw_i b), some (pw_i e), some (pw_i (pw_g gh34 0 6))]) (Nat.le_trans (by decide) hd) E rfl (fun _ => pw_iV rfl rfl rfl rfl (pw_cellI f53h rfl)) (rfl : pm_ent 24 = some (5, 5, 2, 0, pmc_24)) rfl rfl (cm_24_12s (pw_dp hd (by decide)) I34 (k34_5) (by omega) (by omega) (b) (by omega) (by omega) (e) (by omega) (by omega) (pw_g gh34 0 6) (by omega) (by omega)) ?_
                            rintro u55 v54 ⟨rfl, x56, rfl, hx56a, hx56b, hx56r⟩
                            refine ⟨_, rfl, ?_⟩
                            show pw X d gh34 177 125 [some (.ref 16), some (pw_i b), some (pw_i e), some (pw_i z), some (pw_i wt), some (pw_i k34_5), some (pw_i 1)] [pw_i x56, pw_i x51, pw_i k34_5, .ref 32] _
                            change x56 = pw_hc (pw_g gh34 13 (k34_5 * 12 + e).toNat) (pw_g gh34 0 6) - pw_hc (pw_g gh34 13 (k34_5 * 12 + b).toNat) (pw_g gh34 0 6) at hx56r
                            have hch : pv_chs h b e (k34_5).toNat = x56 := by rw [hx56r, qb, qe, q6]; exact pv_chsI (by omega)
                            obtain ⟨f57l, f57h, -⟩ := pw_obj (c := 16) I34 rfl
                            refine pw_call (m' := 82) (As := [.ref 32, pw_i k34_5, pw_i x51, pw_i x56]) (rest := []) (ls'' := [some (.ref 32), some (pw_i k34_5), some (pw_i x51), some (pw_i x56)]) (Nat.le_trans (by decide) hd) E rfl (fun _ => pw_iV rfl rfl rfl rfl (pw_cellI f57h rfl)) (rfl : pm_ent 82 = some (4, 4, 8, 4, pmc_82)) rfl rfl (cm_82_s (pw_dp hd (by decide)) I34 (k34_5) (by omega) (by omega) (x51) (by omega) (by omega) (x56) (by omega) (by omega)) ?_
                            rintro h58 v59 ⟨h58I, h58E, hqput, rfl⟩
                            refine ⟨_, rfl, ?_⟩
                            have h58F := E34.tr (h58E.wk (W' := [17, 18, 22]) (by first | rfl | simp))
                            show pw X d h58 177 128 [some (.ref 16), some (pw_i b), some (pw_i e), some (pw_i z), some (pw_i wt), some (pw_i k34_5), some (pw_i 1)] [] _
                            refine pw_inc E (pc' := 131) (ls' := [some (.ref 16), some (pw_i b), some (pw_i e), some (pw_i z), some (pw_i wt), some (pw_i (k34_5 + 1)), some (pw_i 1)]) rfl rfl rfl rfl ?_
                            refine pw_goto E (pc' := 34) rfl (by decide) ?_
                            exact ih34 _ (by omega) (k34_5 + 1) (some (pw_i 1)) h58 h58I h58F (by omega) (by omega) (by first | exact pv_FL.yes hx34_0 (by omega) hqput.1 hqput.2 (by omega) hch | exact pv_FL.no hx34_0 (by omega) (by omega)) rfl
                        · skip
                          refine pw_if E (pc' := 128) rfl (by decide) (by omega) (by omega) ?_ ?_
                          · intro hc61
                            change x44 = (0 : Int) at hc61
                            refine pw_inc E (pc' := 131) (ls' := [some (.ref 16), some (pw_i b), some (pw_i e), some (pw_i z), some (pw_i wt), some (pw_i (k34_5 + 1)), some (pw_i 1)]) rfl rfl rfl rfl ?_
                            refine pw_goto E (pc' := 34) rfl (by decide) ?_
                            exact ih34 _ (by omega) (k34_5 + 1) (some (pw_i 1)) gh34 I34 E34 (by omega) (by omega) (by first | exact pv_FL.yes hx34_0 (by omega) hqput.1 hqput.2 (by omega) hch | exact pv_FL.no hx34_0 (by omega) (by omega)) rfl
                          · intro hc62
                            change ¬ (x44 = (0 : Int)) at hc62
                            exfalso; omega
                    · intro hc63
                      change ¬ (z = (0 : Int)) at hc63
                      refine pw_ld E (pc' := 58) (st' := [.ref 16]) rfl (fun _ => rfl) ?_
                      refine pw_getR (b := 17) I34 E (c := 0) (k := 0) (pc' := 61) rfl rfl rfl rfl rfl rfl rfl ?_
                      refine pw_ld E (pc' := 63) (st' := [pw_i k34_5, .ref 17]) rfl (fun _ => rfl) ?_
                      obtain ⟨f64l, f64h, -⟩ := pw_obj (c := 1) I34 rfl
                      refine pw_call (m' := 65) (As := [.ref 17, pw_i k34_5]) (rest := []) (ls'' := [some (.ref 17), some (pw_i k34_5)]) (Nat.le_trans (by decide) hd) E rfl (fun _ => pw_iV rfl rfl rfl rfl (pw_cellI f64h rfl)) (rfl : pm_ent 65 = some (2, 2, 6, 1, pmc_65)) rfl rfl (cm_65 (pw_dp hd (by decide)) I34 (k34_5) (by omega) (by omega)) ?_
                      rintro u66 v65 ⟨rfl, x67, rfl, hx67a, hx67b, hx67r⟩
                      refine ⟨_, rfl, ?_⟩
                      show pw X d gh34 177 66 [some (.ref 16), some (pw_i b), some (pw_i e), some (pw_i z), some (pw_i wt), some (pw_i k34_5), k34_6] [pw_i x67] _
                      change x67 = pw_g gh34 3 k34_5.toNat at hx67r
                      rcases (by omega : x67 = 1 ∨ x67 = 0) with hb68 | hb68
                      · skip
                        refine pw_if E (pc' := 73) rfl (by decide) (by omega) (by omega) ?_ ?_
                        · intro hc69
                          change x67 = (0 : Int) at hc69
                          exfalso; omega
                        · intro hc70
                          change ¬ (x67 = (0 : Int)) at hc70
                          refine pw_ld E (pc' := 70) (st' := [pw_i 1]) rfl (fun _ => rfl) ?_
                          refine pw_goto E (pc' := 74) rfl (by decide) ?_
                          refine pw_ist E (pc' := 76) (ls' := [some (.ref 16), some (pw_i b), some (pw_i e), some (pw_i z), some (pw_i wt), some (pw_i k34_5), some (pw_i 1)]) rfl rfl rfl rfl ?_
                          refine pw_ld E (pc' := 78) (st' := [pw_i 1]) rfl (fun _ => rfl) ?_
                          refine pw_if E (pc' := 128) rfl (by decide) (by decide) (by decide) ?_ ?_
                          · intro hc71
                            change (1 : Int) = (0 : Int) at hc71
                            exfalso; omega
                          · intro hc72
                            change ¬ ((1 : Int) = (0 : Int)) at hc72
                            refine pw_ld E (pc' := 82) (st' := [.ref 16]) rfl (fun _ => rfl) ?_
                            refine pw_getR (b := 28) I34 E (c := 0) (k := 3) (pc' := 85) rfl rfl rfl rfl rfl rfl rfl ?_
                            refine pw_ld E (pc' := 87) (st' := [pw_i k34_5, .ref 28]) rfl (fun _ => rfl) ?_
                            refine pw_ld E (pc' := 88) (st' := [pw_i b, pw_i k34_5, .ref 28]) rfl (fun _ => rfl) ?_
                            refine pw_ld E (pc' := 89) (st' := [pw_i e, pw_i b, pw_i k34_5, .ref 28]) rfl (fun _ => rfl) ?_
                            obtain ⟨f73l, f73h, -⟩ := pw_obj (c := 12) I34 rfl
                            refine pw_call (m' := 23) (As := [.ref 28, pw_i k34_5, pw_i b, pw_i e]) (rest := []) (ls'' := [some (.ref 28), some (pw_i k34_5), some (pw_i b), some (pw_i e)]) (Nat.le_trans (by decide) hd) E rfl (fun _ => pw_iV rfl rfl rfl rfl (pw_cellI f73h rfl)) (rfl : pm_ent 23 = some (4, 4, 2, 1, pmc_23)) rfl rfl (cm_23_12s (pw_dp hd (by decide)) I34 (k34_5) (by omega) (by omega) (b) (by omega) (by omega) (e) (by omega) (by omega)) ?_
                            rintro u75 v74 ⟨rfl, x76, rfl, hx76a, hx76b, hx76r⟩
                            refine ⟨_, rfl, ?_⟩
                            show pw X d gh34 177 92 [some (.ref 16), some (pw_i b), some (pw_i e), some (pw_i z), some (pw_i wt), some (pw_i k34_5), some (pw_i 1)] [pw_i x76] _
                            change (x76 = 1 ∧ pw_g gh34 13 (k34_5 * 12 + b).toNat ≠ -2 ∧ pw_g gh34 13 (k34_5 * 12 + e).toNat ≠ -2) ∨ (x76 = 0 ∧ ¬ (pw_g gh34 13 (k34_5 * 12 + b).toNat ≠ -2 ∧ pw_g gh34 13 (k34_5 * 12 + e).toNat ≠ -2)) at hx76r
                            rcases (by omega : x76 = 1 ∨ x76 = 0) with hb77 | hb77
                            · skip
                              refine pw_if E (pc' := 128) rfl (by decide) (by omega) (by omega) ?_ ?_
                              · intro hc78
                                change x76 = (0 : Int) at hc78
                                exfalso; omega
                              · intro hc79
                                change ¬ (x76 = (0 : Int)) at hc79
                                refine pw_ld E (pc' := 96) (st' := [.ref 16]) rfl (fun _ => rfl) ?_
                                refine pw_getR (b := 32) I34 E (c := 0) (k := 7) (pc' := 99) rfl rfl rfl rfl rfl rfl rfl ?_
                                refine pw_ld E (pc' := 101) (st' := [pw_i k34_5, .ref 32]) rfl (fun _ => rfl) ?_
                                refine pw_ld E (pc' := 102) (st' := [.ref 16, pw_i k34_5, .ref 32]) rfl (fun _ => rfl) ?_
                                refine pw_getR (b := 17) I34 E (c := 0) (k := 0) (pc' := 105) rfl rfl rfl rfl rfl rfl rfl ?_
                                refine pw_ld E (pc' := 107) (st' := [pw_i k34_5, .ref 17, pw_i k34_5, .ref 32]) rfl (fun _ => rfl) ?_
                                obtain ⟨f80l, f80h, -⟩ := pw_obj (c := 1) I34 rfl
                                refine pw_call (m' := 60) (As := [.ref 17, pw_i k34_5]) (rest := [pw_i k34_5, .ref 32]) (ls'' := [some (.ref 17), some (pw_i k34_5)]) (Nat.le_trans (by decide) hd) E rfl (fun _ => pw_iV rfl rfl rfl rfl (pw_cellI f80h rfl)) (rfl : pm_ent 60 = some (2, 2, 6, 0, pmc_60)) rfl rfl (cm_60 (pw_dp hd (by decide)) I34 (k34_5) (by omega) (by omega)) ?_
                                rintro u82 v81 ⟨rfl, x83, rfl, hx83a, hx83b, hx83r⟩
                                refine ⟨_, rfl, ?_⟩
                                show pw X d gh34 177 110 [some (.ref 16), some (pw_i b), some (pw_i e), some (pw_i z), some (pw_i wt), some (pw_i k34_5), some (pw_i 1)] [pw_i x83, pw_i k34_5, .ref 32] _
                                change x83 = pw_g gh34 4 k34_5.toNat at hx83r
                                refine pw_ld E (pc' := 111) (st' := [.ref 16, pw_i x83, pw_i k34_5, .ref 32]) rfl (fun _ => rfl) ?_
                                refine pw_getR (b := 28) I34 E (c := 0) (k := 3) (pc' := 114) rfl rfl rfl rfl rfl rfl rfl ?_
                                refine pw_ld E (pc' := 116) (st' := [pw_i k34_5, .ref 28, pw_i x83, pw_i k34_5, .ref 32]) rfl (fun _ => rfl) ?_
                                refine pw_ld E (pc' := 117) (st' := [pw_i b, pw_i k34_5, .ref 28, pw_i x83, pw_i k34_5, .ref 32]) rfl (fun _ => rfl) ?_
                                refine pw_ld E (pc' := 118) (st' := [pw_i e, pw_i b, pw_i k34_5, .ref 28, pw_i x83, pw_i k34_5, .ref 32]) rfl (fun _ => rfl) ?_
                                refine pw_ld E (pc' := 119) (st' := [.ref 16, pw_i e, pw_i b, pw_i k34_5, .ref 28, pw_i x83, pw_i k34_5, .ref 32]) rfl (fun _ => rfl) ?_
                                refine pw_getI2 I34 E (c := 0) (k := 6) (pc' := 122) rfl rfl rfl rfl rfl rfl (fun hf84a hf84b => ?_)
                                obtain ⟨f85l, f85h, -⟩ := pw_obj (c := 12) I34 rfl
                                refine pw_call (m' := 24) (As := [.ref 28, pw_i k34_5, pw_i b, pw_i e, pw_i (pw_g gh34 0 6)]) (rest := [pw_i x83, pw_i k34_5, .ref 32]) (ls'' := [some (.ref 28), some (pw_i k34_5), some (pw_i b), some (pw_i e), some (pw_i (pw_g gh34 0 6))]) (Nat.le_trans (by decide) hd) E rfl (fun _ => pw_iV rfl rfl rfl rfl (pw_cellI f85h rfl)) (rfl : pm_ent 24 = some (5, 5, 2, 0, pmc_24)) rfl rfl (cm_24_12s (pw_dp hd (by decide)) I34 (k34_5) (by omega) (by omega) (b) (by omega) (by omega) (e) (by omega) (by omega) (pw_g gh34 0 6) (by omega) (by omega)) ?_
                                rintro u87 v86 ⟨rfl, x88, rfl, hx88a, hx88b, hx88r⟩
                                refine ⟨_, rfl, ?_⟩
                                show pw X d gh34 177 125 [some (.ref 16), some (pw_i b), some (pw_i e), some (pw_i z), some (pw_i wt), some (pw_i k34_5), some (pw_i 1)] [pw_i x88, pw_i x83, pw_i k34_5, .ref 32] _
                                change x88 = pw_hc (pw_g gh34 13 (k34_5 * 12 + e).toNat) (pw_g gh34 0 6) - pw_hc (pw_g gh34 13 (k34_5 * 12 + b).toNat) (pw_g gh34 0 6) at hx88r
                                have hch : pv_chs h b e (k34_5).toNat = x88 := by rw [hx88r, qb, qe, q6]; exact pv_chsI (by omega)
                                obtain ⟨f89l, f89h, -⟩ := pw_obj (c := 16) I34 rfl
                                refine pw_call (m' := 82) (As := [.ref 32, pw_i k34_5, pw_i x83, pw_i x88]) (rest := []) (ls'' := [some (.ref 32), some (pw_i k34_5), some (pw_i x83), some (pw_i x88)]) (Nat.le_trans (by decide) hd) E rfl (fun _ => pw_iV rfl rfl rfl rfl (pw_cellI f89h rfl)) (rfl : pm_ent 82 = some (4, 4, 8, 4, pmc_82)) rfl rfl (cm_82_s (pw_dp hd (by decide)) I34 (k34_5) (by omega) (by omega) (x83) (by omega) (by omega) (x88) (by omega) (by omega)) ?_
                                rintro h90 v91 ⟨h90I, h90E, hqput, rfl⟩
                                refine ⟨_, rfl, ?_⟩
                                have h90F := E34.tr (h90E.wk (W' := [17, 18, 22]) (by first | rfl | simp))
                                show pw X d h90 177 128 [some (.ref 16), some (pw_i b), some (pw_i e), some (pw_i z), some (pw_i wt), some (pw_i k34_5), some (pw_i 1)] [] _
                                refine pw_inc E (pc' := 131) (ls' := [some (.ref 16), some (pw_i b), some (pw_i e), some (pw_i z), some (pw_i wt), some (pw_i (k34_5 + 1)), some (pw_i 1)]) rfl rfl rfl rfl ?_
                                refine pw_goto E (pc' := 34) rfl (by decide) ?_
                                exact ih34 _ (by omega) (k34_5 + 1) (some (pw_i 1)) h90 h90I h90F (by omega) (by omega) (by first | exact pv_FL.yes hx34_0 (by omega) hqput.1 hqput.2 (by omega) hch | exact pv_FL.no hx34_0 (by omega) (by omega)) rfl
                            · skip
                              refine pw_if E (pc' := 128) rfl (by decide) (by omega) (by omega) ?_ ?_
                              · intro hc93
                                change x76 = (0 : Int) at hc93
                                refine pw_inc E (pc' := 131) (ls' := [some (.ref 16), some (pw_i b), some (pw_i e), some (pw_i z), some (pw_i wt), some (pw_i (k34_5 + 1)), some (pw_i 1)]) rfl rfl rfl rfl ?_
                                refine pw_goto E (pc' := 34) rfl (by decide) ?_
                                exact ih34 _ (by omega) (k34_5 + 1) (some (pw_i 1)) gh34 I34 E34 (by omega) (by omega) (by first | exact pv_FL.yes hx34_0 (by omega) hqput.1 hqput.2 (by omega) hch | exact pv_FL.no hx34_0 (by omega) (by omega)) rfl
                              · intro hc94
                                change ¬ (x76 = (0 : Int)) at hc94
                                exfalso; omega
                      · skip
                        refine pw_if E (pc' := 73) rfl (by decide) (by omega) (by omega) ?_ ?_
                        · intro hc96
                          change x67 = (0 : Int) at hc96
                          refine pw_ld E (pc' := 74) (st' := [pw_i 0]) rfl (fun _ => rfl) ?_
                          refine pw_ist E (pc' := 76) (ls' := [some (.ref 16), some (pw_i b), some (pw_i e), some (pw_i z), some (pw_i wt), some (pw_i k34_5), some (pw_i 0)]) rfl rfl rfl rfl ?_
                          refine pw_ld E (pc' := 78) (st' := [pw_i 0]) rfl (fun _ => rfl) ?_
                          refine pw_if E (pc' := 128) rfl (by decide) (by decide) (by decide) ?_ ?_
                          · intro hc97
                            change (0 : Int) = (0 : Int) at hc97
                            refine pw_inc E (pc' := 131) (ls' := [some (.ref 16), some (pw_i b), some (pw_i e), some (pw_i z), some (pw_i wt), some (pw_i (k34_5 + 1)), some (pw_i 0)]) rfl rfl rfl rfl ?_
                            refine pw_goto E (pc' := 34) rfl (by decide) ?_
                            exact ih34 _ (by omega) (k34_5 + 1) (some (pw_i 0)) gh34 I34 E34 (by omega) (by omega) (by first | exact pv_FL.yes hx34_0 (by omega) hqput.1 hqput.2 (by omega) hch | exact pv_FL.no hx34_0 (by omega) (by omega)) rfl
                          · intro hc98
                            change ¬ ((0 : Int) = (0 : Int)) at hc98
                            exfalso; omega
                        · intro hc99
                          change ¬ (x67 = (0 : Int)) at hc99
                          exfalso; omega
                · skip
                  refine pw_if E (pc' := 73) rfl (by decide) (by omega) (by omega) ?_ ?_
                  · intro hc101
                    change x34 = (0 : Int) at hc101
                    refine pw_ld E (pc' := 74) (st' := [pw_i 0]) rfl (fun _ => rfl) ?_
                    refine pw_ist E (pc' := 76) (ls' := [some (.ref 16), some (pw_i b), some (pw_i e), some (pw_i z), some (pw_i wt), some (pw_i k34_5), some (pw_i 0)]) rfl rfl rfl rfl ?_
                    refine pw_ld E (pc' := 78) (st' := [pw_i 0]) rfl (fun _ => rfl) ?_
                    refine pw_if E (pc' := 128) rfl (by decide) (by decide) (by decide) ?_ ?_
                    · intro hc102
                      change (0 : Int) = (0 : Int) at hc102
                      refine pw_inc E (pc' := 131) (ls' := [some (.ref 16), some (pw_i b), some (pw_i e), some (pw_i z), some (pw_i wt), some (pw_i (k34_5 + 1)), some (pw_i 0)]) rfl rfl rfl rfl ?_
                      refine pw_goto E (pc' := 34) rfl (by decide) ?_
                      exact ih34 _ (by omega) (k34_5 + 1) (some (pw_i 0)) gh34 I34 E34 (by omega) (by omega) (by first | exact pv_FL.yes hx34_0 (by omega) hqput.1 hqput.2 (by omega) hch | exact pv_FL.no hx34_0 (by omega) (by omega)) rfl
                    · intro hc103
                      change ¬ ((0 : Int) = (0 : Int)) at hc103
                      exfalso; omega
                  · intro hc104
                    change ¬ (x34 = (0 : Int)) at hc104
                    exfalso; omega
          exact L34 _ (0) (none) h13 h13I h13F (by omega) (by omega) (pv_FL.z hqclear) rfl
        · intro hc105
          change ¬ (x9 ≠ (0 : Int)) at hc105
          exfalso; omega
      · skip
        refine pw_if E (pc' := 24) rfl (by decide) (by omega) (by omega) ?_ ?_
        · intro hc107
          change x9 ≠ (0 : Int) at hc107
          exfalso; omega
        · intro hc108
          change ¬ (x9 ≠ (0 : Int)) at hc108
          refine pw_thr E rfl rfl I.2 ?_
          exact ⟨I, E0, Or.inl ⟨rfl, Or.inl (by omega)⟩⟩
  · skip
    refine pw_if E (pc' := 16) rfl (by decide) (by omega) (by omega) ?_ ?_
    · intro hc110
      change x3 = (0 : Int) at hc110
      refine pw_thr E rfl rfl I.2 ?_
      exact ⟨I, E0, Or.inl ⟨rfl, Or.inl (by omega)⟩⟩
    · intro hc111
      change ¬ (x3 = (0 : Int)) at hc111
      exfalso; omega
set_option maxHeartbeats 4000000 in
theorem cm_230_s {X : List (Nat × List Value)} {d : Nat} {h : pm_H} (hd : 4 ≤ d) (I : pw_I h) (b : Int) (hb1 : (-2147483648) ≤ b) (hb2 : b ≤ 2147483647) (e : Int) (he1 : (-2147483648) ≤ e) (he2 : e ≤ 2147483647) (z : Int) (hz1 : 0 ≤ z) (hz2 : z ≤ 1) (wt : Int) (hwt1 : (-2147483648) ≤ wt) (hwt2 : wt ≤ 2147483647) : pw X d h 230 0 [some (.ref 141), some (pw_i b), some (pw_i e), some (pw_i z), some (pw_i wt), none, none, none] [] (fun h' v => pw_I h' ∧ pw_E [125] h h' ∧ ∃ a : Int, v = .inl (some (.long (Int64.ofInt a))) ∧ (-1099511627776) ≤ a ∧ a ≤ 1099511627776 ∧ ((pw_g h' 125 0 = 1 ∧ (¬ (0 ≤ b ∧ b ≤ 11 ∧ 0 ≤ e ∧ e ≤ 11 ∧ b ≠ e ∧ 0 ≤ wt ∧ wt ≤ 1) ∨ ¬ pv_OK (pv_sdsm h z b e))) ∨ (pw_g h' 125 0 = 0 ∧ (0 ≤ b ∧ b ≤ 11 ∧ 0 ≤ e ∧ e ≤ 11 ∧ b ≠ e ∧ 0 ≤ wt ∧ wt ≤ 1) ∧ pv_OK (pv_sdsm h z b e) ∧ a = pv_LW (pv_U (pv_sdsm h z b e) (pv_chsm h b e)) (pv_D (pv_sdsm h z b e)) wt))) := by
  have E : pm_ent 230 = some (5, 8, 12, 2, pmc_230) := rfl
  have E0 : pw_E [125] h h := pw_E.rf _ _
  refine pw_ld E (pc' := 1) (st' := [.ref 141]) rfl (fun _ => rfl) ?_
  refine pw_ld E (pc' := 2) (st' := [pw_i b, .ref 141]) rfl (fun _ => rfl) ?_
  refine pw_ld E (pc' := 3) (st' := [pw_i e, pw_i b, .ref 141]) rfl (fun _ => rfl) ?_
  refine pw_call (m' := 213) (As := [pw_i b, pw_i e]) (rest := [.ref 141]) (ls'' := [some (pw_i b), some (pw_i e)]) (Nat.le_trans (by decide) hd) E rfl (fun _ => pw_iS rfl rfl rfl) (rfl : pm_ent 213 = some (2, 2, 12, 1, pmc_213)) rfl rfl (cm_213_s (pw_dp hd (by decide)) I (b) (by omega) (by omega) (e) (by omega) (by omega)) ?_
  rintro u2 v1 ⟨rfl, x3, rfl, hx3a, hx3b, hx3r⟩
  refine ⟨_, rfl, ?_⟩
  show pw X d h 230 6 [some (.ref 141), some (pw_i b), some (pw_i e), some (pw_i z), some (pw_i wt), none, none, none] [pw_i x3, .ref 141] _
  change (x3 = 1 ∧ 0 ≤ b ∧ b ≤ 11 ∧ 0 ≤ e ∧ e ≤ 11 ∧ b ≠ e) ∨ (x3 = 0 ∧ ¬ (0 ≤ b ∧ b ≤ 11 ∧ 0 ≤ e ∧ e ≤ 11 ∧ b ≠ e)) at hx3r
  rcases (by omega : x3 = 1 ∨ x3 = 0) with hb4 | hb4
  · skip
    refine pw_if E (pc' := 21) rfl (by decide) (by omega) (by omega) ?_ ?_
    · intro hc5
      change x3 = (0 : Int) at hc5
      exfalso; omega
    · intro hc6
      change ¬ (x3 = (0 : Int)) at hc6
      refine pw_ld E (pc' := 11) (st' := [pw_i wt, .ref 141]) rfl (fun _ => rfl) ?_
      refine pw_call (m' := 217) (As := [pw_i wt]) (rest := [.ref 141]) (ls'' := [some (pw_i wt)]) (Nat.le_trans (by decide) hd) E rfl (fun _ => pw_iS rfl rfl rfl) (rfl : pm_ent 217 = some (1, 1, 12, 1, pmc_217)) rfl rfl (cm_217 (pw_dp hd (by decide)) I (wt) (by omega) (by omega)) ?_
      rintro u8 v7 ⟨rfl, x9, rfl, hx9a, hx9b, hx9r⟩
      refine ⟨_, rfl, ?_⟩
      show pw X d h 230 14 [some (.ref 141), some (pw_i b), some (pw_i e), some (pw_i z), some (pw_i wt), none, none, none] [pw_i x9, .ref 141] _
      change (x9 = 1 ∧ 0 ≤ wt ∧ wt ≤ 1) ∨ (x9 = 0 ∧ ¬ (0 ≤ wt ∧ wt ≤ 1)) at hx9r
      rcases (by omega : x9 = 1 ∨ x9 = 0) with hb10 | hb10
      · skip
        refine pw_if E (pc' := 21) rfl (by decide) (by omega) (by omega) ?_ ?_
        · intro hc11
          change x9 = (0 : Int) at hc11
          exfalso; omega
        · intro hc12
          change ¬ (x9 = (0 : Int)) at hc12
          refine pw_ld E (pc' := 18) (st' := [pw_i 0, .ref 141]) rfl (fun _ => rfl) ?_
          refine pw_goto E (pc' := 22) rfl (by decide) ?_
          refine pw_putI I E (c := 125) (k := 0) (pc' := 25) rfl rfl rfl rfl (by omega) (by omega) (by omega) (by omega) rfl rfl ?_
          intro h13I h13E
          generalize h13w : pw_w h 125 0 (pw_i 0) = h13 at h13I h13E ⊢
          have h13F := E0.tr (h13E.wk (W' := [125]) (by first | rfl | simp))
          refine pw_ld E (pc' := 26) (st' := [.ref 141]) rfl (fun _ => rfl) ?_
          have he15 : pw_g h13 125 0 = 0 := by rw [← h13w]; exact pw_g_eq (c := 125) (k := 0) I rfl rfl (by omega) (by omega)
          refine pw_getI2 h13I E (c := 125) (k := 0) (pc' := 29) rfl rfl rfl rfl rfl rfl (fun hf14a hf14b => ?_)
          refine pw_if E (pc' := 34) rfl (by decide) (by omega) (by omega) ?_ ?_
          · intro hc16
            change pw_g h13 125 0 ≤ (0 : Int) at hc16
            refine pw_ld E (pc' := 35) (st' := [.ref 141]) rfl (fun _ => rfl) ?_
            obtain ⟨f17l, f17h, -⟩ := pw_obj (c := 125) h13I rfl
            refine pw_call (m' := 219) (As := [.ref 141]) (rest := []) (ls'' := [some (.ref 141)]) (Nat.le_trans (by decide) hd) E rfl (fun _ => pw_iV rfl rfl rfl rfl (pw_cellI f17h rfl)) (rfl : pm_ent 219 = some (1, 1, 12, 4, pmc_219)) rfl rfl (cm_219_s (pw_dp hd (by decide)) h13I ) ?_
            rintro h18 v19 ⟨h18I, h18E, hqbeg, rfl⟩
            refine ⟨_, rfl, ?_⟩
            have h18F := h13F.tr (h18E.wk (W' := [125]) (by first | rfl | simp))
            show pw X d h18 230 38 [some (.ref 141), some (pw_i b), some (pw_i e), some (pw_i z), some (pw_i wt), none, none, none] [] _
            refine pw_ld E (pc' := 39) (st' := [pw_i 0]) rfl (fun _ => rfl) ?_
            refine pw_ist E (pc' := 41) (ls' := [some (.ref 141), some (pw_i b), some (pw_i e), some (pw_i z), some (pw_i wt), some (pw_i 0), none, none]) rfl rfl rfl rfl ?_
            have L41 : ∀ (n41 : Nat) (k41_5 : Int) (k41_6 : Option Value) (k41_7 : Option Value) (gh41 : pm_H), pw_I gh41 → pw_E [125] h gh41 → 0 ≤ k41_5 → k41_5 ≤ 24 → pw_gm gh41 125 26 = pv_S (pv_sdsm h z b e) (pv_chsm h b e) 0 (k41_5).toNat → pw_gm gh41 125 27 = pv_N (pv_sdsm h z b e) 0 (k41_5).toNat → pw_gm gh41 125 28 = pv_S (pv_sdsm h z b e) (pv_chsm h b e) 1 (k41_5).toNat → pw_gm gh41 125 29 = pv_N (pv_sdsm h z b e) 1 (k41_5).toNat → pw_gm gh41 125 27 + pw_gm gh41 125 29 ≤ k41_5 → 0 ≤ pw_gm gh41 125 27 → 0 ≤ pw_gm gh41 125 29 → (-2000) * k41_5 ≤ pw_gm gh41 125 26 → pw_gm gh41 125 26 ≤ 2000 * k41_5 → (-2000) * k41_5 ≤ pw_gm gh41 125 28 → pw_gm gh41 125 28 ≤ 2000 * k41_5 → (24 - k41_5).toNat = n41 → pw X d gh41 230 41 [some (.ref 141), some (pw_i b), some (pw_i e), some (pw_i z), some (pw_i wt), some (pw_i k41_5), k41_6, k41_7] [] (fun h' v => pw_I h' ∧ pw_E [125] h h' ∧ ∃ a : Int, v = .inl (some (.long (Int64.ofInt a))) ∧ (-1099511627776) ≤ a ∧ a ≤ 1099511627776 ∧ ((pw_g h' 125 0 = 1 ∧ (¬ (0 ≤ b ∧ b ≤ 11 ∧ 0 ≤ e ∧ e ≤ 11 ∧ b ≠ e ∧ 0 ≤ wt ∧ wt ≤ 1) ∨ ¬ pv_OK (pv_sdsm h z b e))) ∨ (pw_g h' 125 0 = 0 ∧ (0 ≤ b ∧ b ≤ 11 ∧ 0 ≤ e ∧ e ≤ 11 ∧ b ≠ e ∧ 0 ≤ wt ∧ wt ≤ 1) ∧ pv_OK (pv_sdsm h z b e) ∧ a = pv_LW (pv_U (pv_sdsm h z b e) (pv_chsm h b e)) (pv_D (pv_sdsm h z b e)) wt))) := by
              intro n41
              induction n41 using Nat.strongRecOn with
              | ind n41 ih41 =>
                intro k41_5 k41_6 k41_7 gh41 I41 E41 k41_5a k41_5b hx41_0 hx41_1 hx41_2 hx41_3 hx41_4 hx41_5 hx41_6 hx41_7 hx41_8 hx41_9 hx41_10 hm41
                refine pw_ld E (pc' := 43) (st' := [pw_i k41_5]) rfl (fun _ => rfl) ?_
                refine pw_bip E (pc' := 45) rfl rfl (by decide) ?_
                refine pw_if2 E (pc' := 175) rfl (by decide) (by omega) (by omega) (by decide) (by decide) ?_ ?_
                · intro hc20
                  change (24 : Int) ≤ k41_5 at hc20
                  rw [show (k41_5).toNat = 24 by omega] at hx41_0 hx41_1 hx41_2 hx41_3
                  refine pw_ld E (pc' := 176) (st' := [.ref 141]) rfl (fun _ => rfl) ?_
                  refine pw_ld E (pc' := 177) (st' := [.ref 141, .ref 141]) rfl (fun _ => rfl) ?_
                  obtain ⟨f21l, f21h, -⟩ := pw_obj (c := 125) I41 rfl
                  refine pw_call (m' := 221) (As := [.ref 141]) (rest := [.ref 141]) (ls'' := [some (.ref 141)]) (Nat.le_trans (by decide) hd) E rfl (fun _ => pw_iV rfl rfl rfl rfl (pw_cellI f21h rfl)) (rfl : pm_ent 221 = some (1, 1, 12, 1, pmc_221)) rfl rfl (cm_221_s (pw_dp hd (by decide)) I41 (by omega) (by omega) (by omega) (by omega) (by omega) (by omega) (by omega) (by omega)) ?_
                  rintro h22 v23 ⟨h22I, h22E, x24, rfl, hx24a, hx24b, hx24r⟩
                  refine ⟨_, rfl, ?_⟩
                  have h22F := E41.tr (h22E.wk (W' := [125]) (by first | rfl | simp))
                  show pw X d h22 230 180 [some (.ref 141), some (pw_i b), some (pw_i e), some (pw_i z), some (pw_i wt), some (pw_i k41_5), k41_6, k41_7] [pw_i x24, .ref 141] _
                  change ((x24 = 1 ∧ 0 < pw_gm gh41 125 27 * pw_gm gh41 125 29) ∨ (x24 = 0 ∧ pw_gm gh41 125 27 * pw_gm gh41 125 29 ≤ 0)) ∧ pw_gm h22 125 24 = pw_gm gh41 125 26 * pw_gm gh41 125 29 - pw_gm gh41 125 28 * pw_gm gh41 125 27 ∧ pw_gm h22 125 25 = pw_gm gh41 125 27 * pw_gm gh41 125 29 ∧ pw_gm h22 125 26 = pw_gm gh41 125 26 ∧ pw_gm h22 125 27 = pw_gm gh41 125 27 ∧ pw_gm h22 125 28 = pw_gm gh41 125 28 ∧ pw_gm h22 125 29 = pw_gm gh41 125 29 at hx24r
                  rcases (by omega : x24 = 1 ∨ x24 = 0) with hb25 | hb25
                  · skip
                    refine pw_if E (pc' := 187) rfl (by decide) (by omega) (by omega) ?_ ?_
                    · intro hc26
                      change x24 = (0 : Int) at hc26
                      exfalso; omega
                    · intro hc27
                      change ¬ (x24 = (0 : Int)) at hc27
                      rw [hx41_0, hx41_1, hx41_2, hx41_3] at hx24r
                      obtain ⟨r0, r4, r5, -⟩ := hx24r
                      have r1 := pv_okD (pv_NB (sd := pv_sdsm h z b e) (s := 0) 24).1 (pv_NB (sd := pv_sdsm h z b e) (s := 1) 24).1 r0
                      change _ = pv_U (pv_sdsm h z b e) (pv_chsm h b e) at r4
                      change _ = pv_D (pv_sdsm h z b e) at r5
                      have hok : pv_OK (pv_sdsm h z b e) := (r1.resolve_right (fun q => by have := q.1; omega)).2
                      have hUB := pv_UB (sd := pv_sdsm h z b e) (ch := pv_chsm h b e) (pv_chsmB I (by omega) (by omega) (by omega) (by omega))
                      have hD1 := hUB.2.2.2.2 hok
                      refine pw_ld E (pc' := 184) (st' := [pw_i 0, .ref 141]) rfl (fun _ => rfl) ?_
                      refine pw_goto E (pc' := 188) rfl (by decide) ?_
                      refine pw_putI h22I E (c := 125) (k := 0) (pc' := 191) rfl rfl rfl rfl (by omega) (by omega) (by omega) (by omega) rfl rfl ?_
                      intro h28I h28E
                      generalize h28w : pw_w h22 125 0 (pw_i 0) = h28 at h28I h28E ⊢
                      have h28F := h22F.tr (h28E.wk (W' := [125]) (by first | rfl | simp))
                      refine pw_ld E (pc' := 192) (st' := [.ref 141]) rfl (fun _ => rfl) ?_
                      have he30 : pw_g h28 125 0 = 0 := by rw [← h28w]; exact pw_g_eq (c := 125) (k := 0) h22I rfl rfl (by omega) (by omega)
                      refine pw_getI2 h28I E (c := 125) (k := 0) (pc' := 195) rfl rfl rfl rfl rfl rfl (fun hf29a hf29b => ?_)
                      refine pw_if E (pc' := 202) rfl (by decide) (by omega) (by omega) ?_ ?_
                      · intro hc31
                        change pw_g h28 125 0 ≤ (0 : Int) at hc31
                        refine pw_ld E (pc' := 203) (st' := [.ref 141]) rfl (fun _ => rfl) ?_
                        refine pw_ld E (pc' := 205) (st' := [pw_i wt, .ref 141]) rfl (fun _ => rfl) ?_
                        have he32 : pw_gm h28 125 24 = pw_gm h22 125 24 := by rw [← h28w]; exact pw_gm_ne (by omega)
                        have he33 : pw_gm h28 125 25 = pw_gm h22 125 25 := by rw [← h28w]; exact pw_gm_ne (by omega)
                        obtain ⟨f34l, f34h, -⟩ := pw_obj (c := 125) h28I rfl
                        refine pw_call (m' := 222) (As := [.ref 141, pw_i wt]) (rest := []) (ls'' := [some (.ref 141), some (pw_i wt), none, none]) (Nat.le_trans (by decide) hd) E rfl (fun _ => pw_iV rfl rfl rfl rfl (pw_cellI f34h rfl)) (rfl : pm_ent 222 = some (2, 4, 12, 2, pmc_222)) rfl rfl (cm_222_g (pw_dp hd (by decide)) h28I (wt) (by omega) (by omega) (by omega) (by omega) (by omega) (by omega)) ?_
                        rintro u36 v35 ⟨rfl, x37, rfl, hx37a, hx37b, hx37r⟩
                        refine ⟨_, rfl, ?_⟩
                        show pw X d h28 230 208 [some (.ref 141), some (pw_i b), some (pw_i e), some (pw_i z), some (pw_i wt), some (pw_i k41_5), k41_6, k41_7] [.long (Int64.ofInt x37)] _
                        change (wt = 0 → x37 = Int.tdiv (pw_gm h28 125 24) (pw_gd (pw_gm h28 125 24) (pw_gm h28 125 25))) ∧ (wt ≠ 0 → x37 = Int.tdiv (pw_gm h28 125 25) (pw_gd (pw_gm h28 125 24) (pw_gm h28 125 25))) at hx37r
                        refine pw_lret E rfl ?_
                        have e4 : pw_gm h28 125 24 = pv_U (pv_sdsm h z b e) (pv_chsm h b e) := by omega
                        have e5 : pw_gm h28 125 25 = pv_D (pv_sdsm h z b e) := by omega
                        rw [e4, e5] at hx37r
                        exact ⟨h28I, h28F, ⟨_, rfl, by omega, by omega, Or.inr ⟨by omega, by omega, hok, pv_low hx37r⟩⟩⟩
                      · intro hc38
                        change ¬ (pw_g h28 125 0 ≤ (0 : Int)) at hc38
                        exfalso; omega
                  · skip
                    refine pw_if E (pc' := 187) rfl (by decide) (by omega) (by omega) ?_ ?_
                    · intro hc40
                      change x24 = (0 : Int) at hc40
                      rw [hx41_0, hx41_1, hx41_2, hx41_3] at hx24r
                      obtain ⟨r0, r4, r5, -⟩ := hx24r
                      have r1 := pv_okD (pv_NB (sd := pv_sdsm h z b e) (s := 0) 24).1 (pv_NB (sd := pv_sdsm h z b e) (s := 1) 24).1 r0
                      change _ = pv_U (pv_sdsm h z b e) (pv_chsm h b e) at r4
                      change _ = pv_D (pv_sdsm h z b e) at r5
                      refine pw_ld E (pc' := 188) (st' := [pw_i 1, .ref 141]) rfl (fun _ => rfl) ?_
                      refine pw_putI h22I E (c := 125) (k := 0) (pc' := 191) rfl rfl rfl rfl (by omega) (by omega) (by omega) (by omega) rfl rfl ?_
                      intro h41I h41E
                      generalize h41w : pw_w h22 125 0 (pw_i 1) = h41 at h41I h41E ⊢
                      have h41F := h22F.tr (h41E.wk (W' := [125]) (by first | rfl | simp))
                      refine pw_ld E (pc' := 192) (st' := [.ref 141]) rfl (fun _ => rfl) ?_
                      have he43 : pw_g h41 125 0 = 1 := by rw [← h41w]; exact pw_g_eq (c := 125) (k := 0) h22I rfl rfl (by omega) (by omega)
                      refine pw_getI2 h41I E (c := 125) (k := 0) (pc' := 195) rfl rfl rfl rfl rfl rfl (fun hf42a hf42b => ?_)
                      refine pw_if E (pc' := 202) rfl (by decide) (by omega) (by omega) ?_ ?_
                      · intro hc44
                        change pw_g h41 125 0 ≤ (0 : Int) at hc44
                        exfalso; omega
                      · intro hc45
                        change ¬ (pw_g h41 125 0 ≤ (0 : Int)) at hc45
                        refine pw_ld E (pc' := 199) (st' := [.long (Int64.ofInt 0)]) rfl (fun _ => rfl) ?_
                        refine pw_goto E (pc' := 208) rfl (by decide) ?_
                        refine pw_lret E rfl ?_
                        exact ⟨h41I, h41F, ⟨_, rfl, by omega, by omega, Or.inl ⟨by omega, Or.inr (r1.resolve_left (fun q => by have := q.1; omega)).2⟩⟩⟩
                    · intro hc46
                      change ¬ (x24 = (0 : Int)) at hc46
                      exfalso; omega
                · intro hc47
                  change ¬ ((24 : Int) ≤ k41_5) at hc47
                  have od := pv_sdsm_I (h := h) (z := z) (b := b) (e := e) (k := k41_5) (by omega)
                  have q1 : pw_g gh41 131 (k41_5).toNat = pw_g h 131 (k41_5).toNat := pw_Eg (c := 131) I E41 rfl rfl _
                  have q3 : pw_g gh41 135 (k41_5).toNat = pw_g h 135 (k41_5).toNat := pw_Eg (c := 135) I E41 rfl rfl _
                  have q4 : pw_g gh41 132 (k41_5).toNat = pw_g h 132 (k41_5).toNat := pw_Eg (c := 132) I E41 rfl rfl _
                  have qb : pw_g gh41 141 (12 * k41_5 + b).toNat = pw_g h 141 (12 * k41_5 + b).toNat := pw_Eg (c := 141) I E41 rfl rfl _
                  have qe : pw_g gh41 141 (12 * k41_5 + e).toNat = pw_g h 141 (12 * k41_5 + e).toNat := pw_Eg (c := 141) I E41 rfl rfl _
                  have rsb : pv_hms gh41 b k41_5 = pv_hms h b k41_5 := pv_hmsE I E41 rfl
                  have rse : pv_hms gh41 e k41_5 = pv_hms h e k41_5 := pv_hmsE I E41 rfl
                  have hw4 := pw_gA (c := 132) (j := k41_5) I41 rfl (by decide) (by omega) (by omega)
                  refine pw_bip E (pc' := 50) rfl rfl (by decide) ?_
                  refine pw_ld E (pc' := 52) (st' := [pw_i k41_5, pw_i 12]) rfl (fun _ => rfl) ?_
                  refine pw_mul E (pc' := 53) rfl rfl ?_
                  refine pw_ld E (pc' := 54) (st' := [pw_i b, pw_i (12 * k41_5)]) rfl (fun _ => rfl) ?_
                  refine pw_add E (pc' := 55) rfl rfl ?_
                  refine pw_ist E (pc' := 57) (ls' := [some (.ref 141), some (pw_i b), some (pw_i e), some (pw_i z), some (pw_i wt), some (pw_i k41_5), some (pw_i ((12 * k41_5) + b)), k41_7]) rfl rfl rfl rfl ?_
                  refine pw_bip E (pc' := 59) rfl rfl (by decide) ?_
                  refine pw_ld E (pc' := 61) (st' := [pw_i k41_5, pw_i 12]) rfl (fun _ => rfl) ?_
                  refine pw_mul E (pc' := 62) rfl rfl ?_
                  refine pw_ld E (pc' := 63) (st' := [pw_i e, pw_i (12 * k41_5)]) rfl (fun _ => rfl) ?_
                  refine pw_add E (pc' := 64) rfl rfl ?_
                  refine pw_ist E (pc' := 66) (ls' := [some (.ref 141), some (pw_i b), some (pw_i e), some (pw_i z), some (pw_i wt), some (pw_i k41_5), some (pw_i ((12 * k41_5) + b)), some (pw_i ((12 * k41_5) + e))]) rfl rfl rfl rfl ?_
                  refine pw_ld E (pc' := 67) (st' := [.ref 141]) rfl (fun _ => rfl) ?_
                  refine pw_getR (b := 147) I41 E (c := 125) (k := 10) (pc' := 70) rfl rfl rfl rfl rfl rfl rfl ?_
                  refine pw_ld E (pc' := 72) (st' := [pw_i k41_5, .ref 147]) rfl (fun _ => rfl) ?_
                  refine pw_ald2 I41 E (c := 131) (pc' := 73) rfl rfl rfl (by decide) rfl (by decide) (by omega) (by omega) rfl (fun hf48a hf48b => ?_)
                  refine pw_if E (pc' := 169) rfl (by decide) (by omega) (by omega) ?_ ?_
                  · intro hc49
                    change pw_g gh41 131 (k41_5.toNat) = (0 : Int) at hc49
                    have hsd : (pv_sdsm h z b e) (k41_5).toNat = -1 := by omega
                    clear od
                    obtain ⟨e0, e1, e2, e3⟩ := pv_stpm (sd := pv_sdsm h z b e) (ch := pv_chsm h b e) (k := k41_5) (by omega) hsd
                    refine pw_inc E (pc' := 172) (ls' := [some (.ref 141), some (pw_i b), some (pw_i e), some (pw_i z), some (pw_i wt), some (pw_i (k41_5 + 1)), some (pw_i ((12 * k41_5) + b)), some (pw_i ((12 * k41_5) + e))]) rfl rfl rfl rfl ?_
                    refine pw_goto E (pc' := 41) rfl (by decide) ?_
                    exact ih41 _ (by omega) (k41_5 + 1) (some (pw_i ((12 * k41_5) + b))) (some (pw_i ((12 * k41_5) + e))) gh41 I41 E41 (by omega) (by omega) (by omega) (by omega) (by omega) (by omega) (by omega) (by omega) (by omega) (by omega) (by omega) (by omega) (by omega) rfl
                  · intro hc50
                    change ¬ (pw_g gh41 131 (k41_5.toNat) = (0 : Int)) at hc50
                    refine pw_ld E (pc' := 77) (st' := [pw_i z]) rfl (fun _ => rfl) ?_
                    refine pw_if E (pc' := 90) rfl (by decide) (by omega) (by omega) ?_ ?_
                    · intro hc51
                      change z = (0 : Int) at hc51
                      refine pw_ld E (pc' := 91) (st' := [.ref 141]) rfl (fun _ => rfl) ?_
                      refine pw_getR (b := 157) I41 E (c := 125) (k := 21) (pc' := 94) rfl rfl rfl rfl rfl rfl rfl ?_
                      refine pw_ld E (pc' := 96) (st' := [pw_i ((12 * k41_5) + b), .ref 157]) rfl (fun _ => rfl) ?_
                      refine pw_ald2 I41 E (c := 141) (pc' := 97) rfl rfl rfl (by decide) rfl (by decide) (by omega) (by omega) rfl (fun hf52a hf52b => ?_)
                      refine pw_ld E (pc' := 98) (st' := [pw_i 1, pw_i (pw_g gh41 141 (((12 * k41_5) + b).toNat))]) rfl (fun _ => rfl) ?_
                      refine pw_if2 E (pc' := 169) rfl (by decide) (by omega) (by omega) (by decide) (by decide) ?_ ?_
                      · intro hc53
                        change pw_g gh41 141 (((12 * k41_5) + b).toNat) ≠ (1 : Int) at hc53
                        have hsd : (pv_sdsm h z b e) (k41_5).toNat = -1 := by omega
                        clear od
                        obtain ⟨e0, e1, e2, e3⟩ := pv_stpm (sd := pv_sdsm h z b e) (ch := pv_chsm h b e) (k := k41_5) (by omega) hsd
                        refine pw_inc E (pc' := 172) (ls' := [some (.ref 141), some (pw_i b), some (pw_i e), some (pw_i z), some (pw_i wt), some (pw_i (k41_5 + 1)), some (pw_i ((12 * k41_5) + b)), some (pw_i ((12 * k41_5) + e))]) rfl rfl rfl rfl ?_
                        refine pw_goto E (pc' := 41) rfl (by decide) ?_
                        exact ih41 _ (by omega) (k41_5 + 1) (some (pw_i ((12 * k41_5) + b))) (some (pw_i ((12 * k41_5) + e))) gh41 I41 E41 (by omega) (by omega) (by omega) (by omega) (by omega) (by omega) (by omega) (by omega) (by omega) (by omega) (by omega) (by omega) (by omega) rfl
                      · intro hc54
                        change ¬ (pw_g gh41 141 (((12 * k41_5) + b).toNat) ≠ (1 : Int)) at hc54
                        refine pw_ld E (pc' := 102) (st' := [.ref 141]) rfl (fun _ => rfl) ?_
                        refine pw_getR (b := 157) I41 E (c := 125) (k := 21) (pc' := 105) rfl rfl rfl rfl rfl rfl rfl ?_
                        refine pw_ld E (pc' := 107) (st' := [pw_i ((12 * k41_5) + e), .ref 157]) rfl (fun _ => rfl) ?_
                        refine pw_ald2 I41 E (c := 141) (pc' := 108) rfl rfl rfl (by decide) rfl (by decide) (by omega) (by omega) rfl (fun hf55a hf55b => ?_)
                        refine pw_ld E (pc' := 109) (st' := [pw_i 1, pw_i (pw_g gh41 141 (((12 * k41_5) + e).toNat))]) rfl (fun _ => rfl) ?_
                        refine pw_if2 E (pc' := 169) rfl (by decide) (by omega) (by omega) (by decide) (by decide) ?_ ?_
                        · intro hc56
                          change pw_g gh41 141 (((12 * k41_5) + e).toNat) ≠ (1 : Int) at hc56
                          have hsd : (pv_sdsm h z b e) (k41_5).toNat = -1 := by omega
                          clear od
                          obtain ⟨e0, e1, e2, e3⟩ := pv_stpm (sd := pv_sdsm h z b e) (ch := pv_chsm h b e) (k := k41_5) (by omega) hsd
                          refine pw_inc E (pc' := 172) (ls' := [some (.ref 141), some (pw_i b), some (pw_i e), some (pw_i z), some (pw_i wt), some (pw_i (k41_5 + 1)), some (pw_i ((12 * k41_5) + b)), some (pw_i ((12 * k41_5) + e))]) rfl rfl rfl rfl ?_
                          refine pw_goto E (pc' := 41) rfl (by decide) ?_
                          exact ih41 _ (by omega) (k41_5 + 1) (some (pw_i ((12 * k41_5) + b))) (some (pw_i ((12 * k41_5) + e))) gh41 I41 E41 (by omega) (by omega) (by omega) (by omega) (by omega) (by omega) (by omega) (by omega) (by omega) (by omega) (by omega) (by omega) (by omega) rfl
                        · intro hc57
                          change ¬ (pw_g gh41 141 (((12 * k41_5) + e).toNat) ≠ (1 : Int)) at hc57
                          refine pw_ld E (pc' := 113) (st' := [.ref 141]) rfl (fun _ => rfl) ?_
                          refine pw_ld E (pc' := 114) (st' := [.ref 141, .ref 141]) rfl (fun _ => rfl) ?_
                          refine pw_getR (b := 148) I41 E (c := 125) (k := 11) (pc' := 117) rfl rfl rfl rfl rfl rfl rfl ?_
                          refine pw_ld E (pc' := 119) (st' := [pw_i k41_5, .ref 148, .ref 141]) rfl (fun _ => rfl) ?_
                          refine pw_ald2 I41 E (c := 132) (pc' := 120) rfl rfl rfl (by decide) rfl (by decide) (by omega) (by omega) rfl (fun hf58a hf58b => ?_)
                          refine pw_if E (pc' := 127) rfl (by decide) (by omega) (by omega) ?_ ?_
                          · intro hc59
                            change pw_g gh41 132 (k41_5.toNat) ≠ (0 : Int) at hc59
                            refine pw_ld E (pc' := 128) (st' := [pw_i 0, .ref 141]) rfl (fun _ => rfl) ?_
                            refine pw_ld E (pc' := 129) (st' := [.ref 141, pw_i 0, .ref 141]) rfl (fun _ => rfl) ?_
                            refine pw_ld E (pc' := 130) (st' := [.ref 141, .ref 141, pw_i 0, .ref 141]) rfl (fun _ => rfl) ?_
                            refine pw_getR (b := 158) I41 E (c := 125) (k := 22) (pc' := 133) rfl rfl rfl rfl rfl rfl rfl ?_
                            refine pw_ld E (pc' := 135) (st' := [pw_i ((12 * k41_5) + e), .ref 158, .ref 141, pw_i 0, .ref 141]) rfl (fun _ => rfl) ?_
                            refine pw_ald2 I41 E (c := 142) (pc' := 136) rfl rfl rfl (by decide) rfl (by decide) (by omega) (by omega) rfl (fun hf60a hf60b => ?_)
                            refine pw_ld E (pc' := 137) (st' := [.ref 141, pw_i (pw_g gh41 142 (((12 * k41_5) + e).toNat)), .ref 141, pw_i 0, .ref 141]) rfl (fun _ => rfl) ?_
                            refine pw_getR (b := 159) I41 E (c := 125) (k := 23) (pc' := 140) rfl rfl rfl rfl rfl rfl rfl ?_
                            refine pw_ld E (pc' := 142) (st' := [pw_i ((12 * k41_5) + e), .ref 159, pw_i (pw_g gh41 142 (((12 * k41_5) + e).toNat)), .ref 141, pw_i 0, .ref 141]) rfl (fun _ => rfl) ?_
                            refine pw_ald2 I41 E (c := 143) (pc' := 143) rfl rfl rfl (by decide) rfl (by decide) (by omega) (by omega) rfl (fun hf61a hf61b => ?_)
                            obtain ⟨f62l, f62h, -⟩ := pw_obj (c := 125) I41 rfl
                            refine pw_call (m' := 211) (As := [.ref 141, pw_i (pw_g gh41 142 (((12 * k41_5) + e).toNat)), pw_i (pw_g gh41 143 (((12 * k41_5) + e).toNat))]) (rest := [pw_i 0, .ref 141]) (ls'' := [some (.ref 141), some (pw_i (pw_g gh41 142 (((12 * k41_5) + e).toNat))), some (pw_i (pw_g gh41 143 (((12 * k41_5) + e).toNat)))]) (Nat.le_trans (by decide) hd) E rfl (fun _ => pw_iV rfl rfl rfl rfl (pw_cellI f62h rfl)) (rfl : pm_ent 211 = some (3, 3, 12, 0, pmc_211)) rfl rfl (cm_211_h (pw_dp hd (by decide)) I41 (pw_g gh41 142 (((12 * k41_5) + e).toNat)) (by omega) (by omega) (pw_g gh41 143 (((12 * k41_5) + e).toNat)) (by omega) (by omega)) ?_
                            rintro u64 v63 ⟨rfl, x65, rfl, hx65a, hx65b, hx65r⟩
                            refine ⟨_, rfl, ?_⟩
                            show pw X d gh41 230 146 [some (.ref 141), some (pw_i b), some (pw_i e), some (pw_i z), some (pw_i wt), some (pw_i k41_5), some (pw_i ((12 * k41_5) + b)), some (pw_i ((12 * k41_5) + e))] [pw_i x65, pw_i 0, .ref 141] _
                            change x65 = 10 * (pw_g gh41 142 (((12 * k41_5) + e).toNat)) + pw_g gh41 125 15 * (pw_g gh41 143 (((12 * k41_5) + e).toNat)) at hx65r
                            refine pw_ld E (pc' := 147) (st' := [.ref 141, pw_i x65, pw_i 0, .ref 141]) rfl (fun _ => rfl) ?_
                            refine pw_ld E (pc' := 148) (st' := [.ref 141, .ref 141, pw_i x65, pw_i 0, .ref 141]) rfl (fun _ => rfl) ?_
                            refine pw_getR (b := 158) I41 E (c := 125) (k := 22) (pc' := 151) rfl rfl rfl rfl rfl rfl rfl ?_
                            refine pw_ld E (pc' := 153) (st' := [pw_i ((12 * k41_5) + b), .ref 158, .ref 141, pw_i x65, pw_i 0, .ref 141]) rfl (fun _ => rfl) ?_
                            refine pw_ald2 I41 E (c := 142) (pc' := 154) rfl rfl rfl (by decide) rfl (by decide) (by omega) (by omega) rfl (fun hf66a hf66b => ?_)
                            refine pw_ld E (pc' := 155) (st' := [.ref 141, pw_i (pw_g gh41 142 (((12 * k41_5) + b).toNat)), .ref 141, pw_i x65, pw_i 0, .ref 141]) rfl (fun _ => rfl) ?_
                            refine pw_getR (b := 159) I41 E (c := 125) (k := 23) (pc' := 158) rfl rfl rfl rfl rfl rfl rfl ?_
                            refine pw_ld E (pc' := 160) (st' := [pw_i ((12 * k41_5) + b), .ref 159, pw_i (pw_g gh41 142 (((12 * k41_5) + b).toNat)), .ref 141, pw_i x65, pw_i 0, .ref 141]) rfl (fun _ => rfl) ?_
                            refine pw_ald2 I41 E (c := 143) (pc' := 161) rfl rfl rfl (by decide) rfl (by decide) (by omega) (by omega) rfl (fun hf67a hf67b => ?_)
                            obtain ⟨f68l, f68h, -⟩ := pw_obj (c := 125) I41 rfl
                            refine pw_call (m' := 211) (As := [.ref 141, pw_i (pw_g gh41 142 (((12 * k41_5) + b).toNat)), pw_i (pw_g gh41 143 (((12 * k41_5) + b).toNat))]) (rest := [pw_i x65, pw_i 0, .ref 141]) (ls'' := [some (.ref 141), some (pw_i (pw_g gh41 142 (((12 * k41_5) + b).toNat))), some (pw_i (pw_g gh41 143 (((12 * k41_5) + b).toNat)))]) (Nat.le_trans (by decide) hd) E rfl (fun _ => pw_iV rfl rfl rfl rfl (pw_cellI f68h rfl)) (rfl : pm_ent 211 = some (3, 3, 12, 0, pmc_211)) rfl rfl (cm_211_h (pw_dp hd (by decide)) I41 (pw_g gh41 142 (((12 * k41_5) + b).toNat)) (by omega) (by omega) (pw_g gh41 143 (((12 * k41_5) + b).toNat)) (by omega) (by omega)) ?_
                            rintro u70 v69 ⟨rfl, x71, rfl, hx71a, hx71b, hx71r⟩
                            refine ⟨_, rfl, ?_⟩
                            show pw X d gh41 230 164 [some (.ref 141), some (pw_i b), some (pw_i e), some (pw_i z), some (pw_i wt), some (pw_i k41_5), some (pw_i ((12 * k41_5) + b)), some (pw_i ((12 * k41_5) + e))] [pw_i x71, pw_i x65, pw_i 0, .ref 141] _
                            change x71 = 10 * (pw_g gh41 142 (((12 * k41_5) + b).toNat)) + pw_g gh41 125 15 * (pw_g gh41 143 (((12 * k41_5) + b).toNat)) at hx71r
                            refine pw_sub E (pc' := 165) rfl rfl ?_
                            refine pw_i2l E (pc' := 166) rfl rfl (by omega) (by omega) ?_
                            have y1 : x65 = pv_hms gh41 e k41_5 := hx65r
                            have y2 : x71 = pv_hms gh41 b k41_5 := hx71r
                            have hch : pv_chsm h b e (k41_5).toNat = x65 - x71 := by rw [pv_chsmI (by omega), ← rse, ← rsb, y1, y2]
                            have hsd : (pv_sdsm h z b e) (k41_5).toNat = 1 := by omega
                            clear od
                            obtain ⟨e0, e1, e2, e3⟩ := pv_stp1 (sd := pv_sdsm h z b e) (ch := pv_chsm h b e) (k := k41_5) (by omega) hsd
                            rw [hch] at e3
                            obtain ⟨f72l, f72h, -⟩ := pw_obj (c := 125) I41 rfl
                            refine pw_call (m' := 220) (As := [.ref 141, pw_i 0, .long (Int64.ofInt (x65 - x71))]) (rest := []) (ls'' := [some (.ref 141), some (pw_i 0), some (.long (Int64.ofInt (x65 - x71))), none]) (Nat.le_trans (by decide) hd) E rfl (fun _ => pw_iV rfl rfl rfl rfl (pw_cellI f72h rfl)) (rfl : pm_ent 220 = some (3, 4, 12, 4, pmc_220)) rfl rfl (cm_220_s (pw_dp hd (by decide)) I41 (0) (by omega) (by omega) (x65 - x71) (by omega) (by omega) (by omega) (by omega) (by omega) (by omega) (by omega) (by omega) (by omega)) ?_
                            rintro h73 v74 ⟨h73I, h73E, hqadd, rfl⟩
                            refine ⟨_, rfl, ?_⟩
                            have h73F := E41.tr (h73E.wk (W' := [125]) (by first | rfl | simp))
                            show pw X d h73 230 169 [some (.ref 141), some (pw_i b), some (pw_i e), some (pw_i z), some (pw_i wt), some (pw_i k41_5), some (pw_i ((12 * k41_5) + b)), some (pw_i ((12 * k41_5) + e))] [] _
                            have hqa := hqadd.2 rfl
                            clear hqadd
                            refine pw_inc E (pc' := 172) (ls' := [some (.ref 141), some (pw_i b), some (pw_i e), some (pw_i z), some (pw_i wt), some (pw_i (k41_5 + 1)), some (pw_i ((12 * k41_5) + b)), some (pw_i ((12 * k41_5) + e))]) rfl rfl rfl rfl ?_
                            refine pw_goto E (pc' := 41) rfl (by decide) ?_
                            exact ih41 _ (by omega) (k41_5 + 1) (some (pw_i ((12 * k41_5) + b))) (some (pw_i ((12 * k41_5) + e))) h73 h73I h73F (by omega) (by omega) (by omega) (by omega) (by omega) (by omega) (by omega) (by omega) (by omega) (by omega) (by omega) (by omega) (by omega) rfl
                          · intro hc75
                            change ¬ (pw_g gh41 132 (k41_5.toNat) ≠ (0 : Int)) at hc75
                            refine pw_ld E (pc' := 124) (st' := [pw_i 1, .ref 141]) rfl (fun _ => rfl) ?_
                            refine pw_goto E (pc' := 128) rfl (by decide) ?_
                            refine pw_ld E (pc' := 129) (st' := [.ref 141, pw_i 1, .ref 141]) rfl (fun _ => rfl) ?_
                            refine pw_ld E (pc' := 130) (st' := [.ref 141, .ref 141, pw_i 1, .ref 141]) rfl (fun _ => rfl) ?_
                            refine pw_getR (b := 158) I41 E (c := 125) (k := 22) (pc' := 133) rfl rfl rfl rfl rfl rfl rfl ?_
                            refine pw_ld E (pc' := 135) (st' := [pw_i ((12 * k41_5) + e), .ref 158, .ref 141, pw_i 1, .ref 141]) rfl (fun _ => rfl) ?_
                            refine pw_ald2 I41 E (c := 142) (pc' := 136) rfl rfl rfl (by decide) rfl (by decide) (by omega) (by omega) rfl (fun hf76a hf76b => ?_)
                            refine pw_ld E (pc' := 137) (st' := [.ref 141, pw_i (pw_g gh41 142 (((12 * k41_5) + e).toNat)), .ref 141, pw_i 1, .ref 141]) rfl (fun _ => rfl) ?_
                            refine pw_getR (b := 159) I41 E (c := 125) (k := 23) (pc' := 140) rfl rfl rfl rfl rfl rfl rfl ?_
                            refine pw_ld E (pc' := 142) (st' := [pw_i ((12 * k41_5) + e), .ref 159, pw_i (pw_g gh41 142 (((12 * k41_5) + e).toNat)), .ref 141, pw_i 1, .ref 141]) rfl (fun _ => rfl) ?_
                            refine pw_ald2 I41 E (c := 143) (pc' := 143) rfl rfl rfl (by decide) rfl (by decide) (by omega) (by omega) rfl (fun hf77a hf77b => ?_)
                            obtain ⟨f78l, f78h, -⟩ := pw_obj (c := 125) I41 rfl
                            refine pw_call (m' := 211) (As := [.ref 141, pw_i (pw_g gh41 142 (((12 * k41_5) + e).toNat)), pw_i (pw_g gh41 143 (((12 * k41_5) + e).toNat))]) (rest := [pw_i 1, .ref 141]) (ls'' := [some (.ref 141), some (pw_i (pw_g gh41 142 (((12 * k41_5) + e).toNat))), some (pw_i (pw_g gh41 143 (((12 * k41_5) + e).toNat)))]) (Nat.le_trans (by decide) hd) E rfl (fun _ => pw_iV rfl rfl rfl rfl (pw_cellI f78h rfl)) (rfl : pm_ent 211 = some (3, 3, 12, 0, pmc_211)) rfl rfl (cm_211_h (pw_dp hd (by decide)) I41 (pw_g gh41 142 (((12 * k41_5) + e).toNat)) (by omega) (by omega) (pw_g gh41 143 (((12 * k41_5) + e).toNat)) (by omega) (by omega)) ?_
                            rintro u80 v79 ⟨rfl, x81, rfl, hx81a, hx81b, hx81r⟩
                            refine ⟨_, rfl, ?_⟩
                            show pw X d gh41 230 146 [some (.ref 141), some (pw_i b), some (pw_i e), some (pw_i z), some (pw_i wt), some (pw_i k41_5), some (pw_i ((12 * k41_5) + b)), some (pw_i ((12 * k41_5) + e))] [pw_i x81, pw_i 1, .ref 141] _
                            change x81 = 10 * (pw_g gh41 142 (((12 * k41_5) + e).toNat)) + pw_g gh41 125 15 * (pw_g gh41 143 (((12 * k41_5) + e).toNat)) at hx81r
                            refine pw_ld E (pc' := 147) (st' := [.ref 141, pw_i x81, pw_i 1, .ref 141]) rfl (fun _ => rfl) ?_
                            refine pw_ld E (pc' := 148) (st' := [.ref 141, .ref 141, pw_i x81, pw_i 1, .ref 141]) rfl (fun _ => rfl) ?_
                            refine pw_getR (b := 158) I41 E (c := 125) (k := 22) (pc' := 151) rfl rfl rfl rfl rfl rfl rfl ?_
                            refine pw_ld E (pc' := 153) (st' := [pw_i ((12 * k41_5) + b), .ref 158, .ref 141, pw_i x81, pw_i 1, .ref 141]) rfl (fun _ => rfl) ?_
                            refine pw_ald2 I41 E (c := 142) (pc' := 154) rfl rfl rfl (by decide) rfl (by decide) (by omega) (by omega) rfl (fun hf82a hf82b => ?_)
                            refine pw_ld E (pc' := 155) (st' := [.ref 141, pw_i (pw_g gh41 142 (((12 * k41_5) + b).toNat)), .ref 141, pw_i x81, pw_i 1, .ref 141]) rfl (fun _ => rfl) ?_
                            refine pw_getR (b := 159) I41 E (c := 125) (k := 23) (pc' := 158) rfl rfl rfl rfl rfl rfl rfl ?_
                            refine pw_ld E (pc' := 160) (st' := [pw_i ((12 * k41_5) + b), .ref 159, pw_i (pw_g gh41 142 (((12 * k41_5) + b).toNat)), .ref 141, pw_i x81, pw_i 1, .ref 141]) rfl (fun _ => rfl) ?_
                            refine pw_ald2 I41 E (c := 143) (pc' := 161) rfl rfl rfl (by decide) rfl (by decide) (by omega) (by omega) rfl (fun hf83a hf83b => ?_)
                            obtain ⟨f84l, f84h, -⟩ := pw_obj (c := 125) I41 rfl
                            refine pw_call (m' := 211) (As := [.ref 141, pw_i (pw_g gh41 142 (((12 * k41_5) + b).toNat)), pw_i (pw_g gh41 143 (((12 * k41_5) + b).toNat))]) (rest := [pw_i x81, pw_i 1, .ref 141]) (ls'' := [some (.ref 141), some (pw_i (pw_g gh41 142 (((12 * k41_5) + b).toNat))), some (pw_i (pw_g gh41 143 (((12 * k41_5) + b).toNat)))]) (Nat.le_trans (by decide) hd) E rfl (fun _ => pw_iV rfl rfl rfl rfl (pw_cellI f84h rfl)) (rfl : pm_ent 211 = some (3, 3, 12, 0, pmc_211)) rfl rfl (cm_211_h (pw_dp hd (by decide)) I41 (pw_g gh41 142 (((12 * k41_5) + b).toNat)) (by omega) (by omega) (pw_g gh41 143 (((12 * k41_5) + b).toNat)) (by omega) (by omega)) ?_
                            rintro u86 v85 ⟨rfl, x87, rfl, hx87a, hx87b, hx87r⟩
                            refine ⟨_, rfl, ?_⟩
                            show pw X d gh41 230 164 [some (.ref 141), some (pw_i b), some (pw_i e), some (pw_i z), some (pw_i wt), some (pw_i k41_5), some (pw_i ((12 * k41_5) + b)), some (pw_i ((12 * k41_5) + e))] [pw_i x87, pw_i x81, pw_i 1, .ref 141] _
                            change x87 = 10 * (pw_g gh41 142 (((12 * k41_5) + b).toNat)) + pw_g gh41 125 15 * (pw_g gh41 143 (((12 * k41_5) + b).toNat)) at hx87r
                            refine pw_sub E (pc' := 165) rfl rfl ?_
                            refine pw_i2l E (pc' := 166) rfl rfl (by omega) (by omega) ?_
                            have y1 : x81 = pv_hms gh41 e k41_5 := hx81r
                            have y2 : x87 = pv_hms gh41 b k41_5 := hx87r
                            have hch : pv_chsm h b e (k41_5).toNat = x81 - x87 := by rw [pv_chsmI (by omega), ← rse, ← rsb, y1, y2]
                            have hsd : (pv_sdsm h z b e) (k41_5).toNat = 0 := by omega
                            clear od
                            obtain ⟨e0, e1, e2, e3⟩ := pv_stp0 (sd := pv_sdsm h z b e) (ch := pv_chsm h b e) (k := k41_5) (by omega) hsd
                            rw [hch] at e2
                            obtain ⟨f88l, f88h, -⟩ := pw_obj (c := 125) I41 rfl
                            refine pw_call (m' := 220) (As := [.ref 141, pw_i 1, .long (Int64.ofInt (x81 - x87))]) (rest := []) (ls'' := [some (.ref 141), some (pw_i 1), some (.long (Int64.ofInt (x81 - x87))), none]) (Nat.le_trans (by decide) hd) E rfl (fun _ => pw_iV rfl rfl rfl rfl (pw_cellI f88h rfl)) (rfl : pm_ent 220 = some (3, 4, 12, 4, pmc_220)) rfl rfl (cm_220_s (pw_dp hd (by decide)) I41 (1) (by omega) (by omega) (x81 - x87) (by omega) (by omega) (by omega) (by omega) (by omega) (by omega) (by omega) (by omega) (by omega)) ?_
                            rintro h89 v90 ⟨h89I, h89E, hqadd, rfl⟩
                            refine ⟨_, rfl, ?_⟩
                            have h89F := E41.tr (h89E.wk (W' := [125]) (by first | rfl | simp))
                            show pw X d h89 230 169 [some (.ref 141), some (pw_i b), some (pw_i e), some (pw_i z), some (pw_i wt), some (pw_i k41_5), some (pw_i ((12 * k41_5) + b)), some (pw_i ((12 * k41_5) + e))] [] _
                            have hqa := hqadd.1 rfl
                            clear hqadd
                            refine pw_inc E (pc' := 172) (ls' := [some (.ref 141), some (pw_i b), some (pw_i e), some (pw_i z), some (pw_i wt), some (pw_i (k41_5 + 1)), some (pw_i ((12 * k41_5) + b)), some (pw_i ((12 * k41_5) + e))]) rfl rfl rfl rfl ?_
                            refine pw_goto E (pc' := 41) rfl (by decide) ?_
                            exact ih41 _ (by omega) (k41_5 + 1) (some (pw_i ((12 * k41_5) + b))) (some (pw_i ((12 * k41_5) + e))) h89 h89I h89F (by omega) (by omega) (by omega) (by omega) (by omega) (by omega) (by omega) (by omega) (by omega) (by omega) (by omega) (by omega) (by omega) rfl
                    · intro hc91
                      change ¬ (z = (0 : Int)) at hc91
                      refine pw_ld E (pc' := 81) (st' := [.ref 141]) rfl (fun _ => rfl) ?_
                      refine pw_getR (b := 151) I41 E (c := 125) (k := 14) (pc' := 84) rfl rfl rfl rfl rfl rfl rfl ?_
                      refine pw_ld E (pc' := 86) (st' := [pw_i k41_5, .ref 151]) rfl (fun _ => rfl) ?_
                      refine pw_ald2 I41 E (c := 135) (pc' := 87) rfl rfl rfl (by decide) rfl (by decide) (by omega) (by omega) rfl (fun hf92a hf92b => ?_)
                      refine pw_if E (pc' := 169) rfl (by decide) (by omega) (by omega) ?_ ?_
                      · intro hc93
                        change pw_g gh41 135 (k41_5.toNat) = (0 : Int) at hc93
                        have hsd : (pv_sdsm h z b e) (k41_5).toNat = -1 := by omega
                        clear od
                        obtain ⟨e0, e1, e2, e3⟩ := pv_stpm (sd := pv_sdsm h z b e) (ch := pv_chsm h b e) (k := k41_5) (by omega) hsd
                        refine pw_inc E (pc' := 172) (ls' := [some (.ref 141), some (pw_i b), some (pw_i e), some (pw_i z), some (pw_i wt), some (pw_i (k41_5 + 1)), some (pw_i ((12 * k41_5) + b)), some (pw_i ((12 * k41_5) + e))]) rfl rfl rfl rfl ?_
                        refine pw_goto E (pc' := 41) rfl (by decide) ?_
                        exact ih41 _ (by omega) (k41_5 + 1) (some (pw_i ((12 * k41_5) + b))) (some (pw_i ((12 * k41_5) + e))) gh41 I41 E41 (by omega) (by omega) (by omega) (by omega) (by omega) (by omega) (by omega) (by omega) (by omega) (by omega) (by omega) (by omega) (by omega) rfl
                      · intro hc94
                        change ¬ (pw_g gh41 135 (k41_5.toNat) = (0 : Int)) at hc94
                        refine pw_ld E (pc' := 91) (st' := [.ref 141]) rfl (fun _ => rfl) ?_
                        refine pw_getR (b := 157) I41 E (c := 125) (k := 21) (pc' := 94) rfl rfl rfl rfl rfl rfl rfl ?_
                        refine pw_ld E (pc' := 96) (st' := [pw_i ((12 * k41_5) + b), .ref 157]) rfl (fun _ => rfl) ?_
                        refine pw_ald2 I41 E (c := 141) (pc' := 97) rfl rfl rfl (by decide) rfl (by decide) (by omega) (by omega) rfl (fun hf95a hf95b => ?_)
                        refine pw_ld E (pc' := 98) (st' := [pw_i 1, pw_i (pw_g gh41 141 (((12 * k41_5) + b).toNat))]) rfl (fun _ => rfl) ?_
                        refine pw_if2 E (pc' := 169) rfl (by decide) (by omega) (by omega) (by decide) (by decide) ?_ ?_
                        · intro hc96
                          change pw_g gh41 141 (((12 * k41_5) + b).toNat) ≠ (1 : Int) at hc96
                          have hsd : (pv_sdsm h z b e) (k41_5).toNat = -1 := by omega
                          clear od
                          obtain ⟨e0, e1, e2, e3⟩ := pv_stpm (sd := pv_sdsm h z b e) (ch := pv_chsm h b e) (k := k41_5) (by omega) hsd
                          refine pw_inc E (pc' := 172) (ls' := [some (.ref 141), some (pw_i b), some (pw_i e), some (pw_i z), some (pw_i wt), some (pw_i (k41_5 + 1)), some (pw_i ((12 * k41_5) + b)), some (pw_i ((12 * k41_5) + e))]) rfl rfl rfl rfl ?_
                          refine pw_goto E (pc' := 41) rfl (by decide) ?_
                          exact ih41 _ (by omega) (k41_5 + 1) (some (pw_i ((12 * k41_5) + b))) (some (pw_i ((12 * k41_5) + e))) gh41 I41 E41 (by omega) (by omega) (by omega) (by omega) (by omega) (by omega) (by omega) (by omega) (by omega) (by omega) (by omega) (by omega) (by omega) rfl
                        · intro hc97
                          change ¬ (pw_g gh41 141 (((12 * k41_5) + b).toNat) ≠ (1 : Int)) at hc97
                          refine pw_ld E (pc' := 102) (st' := [.ref 141]) rfl (fun _ => rfl) ?_
                          refine pw_getR (b := 157) I41 E (c := 125) (k := 21) (pc' := 105) rfl rfl rfl rfl rfl rfl rfl ?_
                          refine pw_ld E (pc' := 107) (st' := [pw_i ((12 * k41_5) + e), .ref 157]) rfl (fun _ => rfl) ?_
                          refine pw_ald2 I41 E (c := 141) (pc' := 108) rfl rfl rfl (by decide) rfl (by decide) (by omega) (by omega) rfl (fun hf98a hf98b => ?_)
                          refine pw_ld E (pc' := 109) (st' := [pw_i 1, pw_i (pw_g gh41 141 (((12 * k41_5) + e).toNat))]) rfl (fun _ => rfl) ?_
                          refine pw_if2 E (pc' := 169) rfl (by decide) (by omega) (by omega) (by decide) (by decide) ?_ ?_
                          · intro hc99
                            change pw_g gh41 141 (((12 * k41_5) + e).toNat) ≠ (1 : Int) at hc99
                            have hsd : (pv_sdsm h z b e) (k41_5).toNat = -1 := by omega
                            clear od
                            obtain ⟨e0, e1, e2, e3⟩ := pv_stpm (sd := pv_sdsm h z b e) (ch := pv_chsm h b e) (k := k41_5) (by omega) hsd
                            refine pw_inc E (pc' := 172) (ls' := [some (.ref 141), some (pw_i b), some (pw_i e), some (pw_i z), some (pw_i wt), some (pw_i (k41_5 + 1)), some (pw_i ((12 * k41_5) + b)), some (pw_i ((12 * k41_5) + e))]) rfl rfl rfl rfl ?_
                            refine pw_goto E (pc' := 41) rfl (by decide) ?_
                            exact ih41 _ (by omega) (k41_5 + 1) (some (pw_i ((12 * k41_5) + b))) (some (pw_i ((12 * k41_5) + e))) gh41 I41 E41 (by omega) (by omega) (by omega) (by omega) (by omega) (by omega) (by omega) (by omega) (by omega) (by omega) (by omega) (by omega) (by omega) rfl
                          · intro hc100
                            change ¬ (pw_g gh41 141 (((12 * k41_5) + e).toNat) ≠ (1 : Int)) at hc100
                            refine pw_ld E (pc' := 113) (st' := [.ref 141]) rfl (fun _ => rfl) ?_
                            refine pw_ld E (pc' := 114) (st' := [.ref 141, .ref 141]) rfl (fun _ => rfl) ?_
                            refine pw_getR (b := 148) I41 E (c := 125) (k := 11) (pc' := 117) rfl rfl rfl rfl rfl rfl rfl ?_
                            refine pw_ld E (pc' := 119) (st' := [pw_i k41_5, .ref 148, .ref 141]) rfl (fun _ => rfl) ?_
                            refine pw_ald2 I41 E (c := 132) (pc' := 120) rfl rfl rfl (by decide) rfl (by decide) (by omega) (by omega) rfl (fun hf101a hf101b => ?_)
                            refine pw_if E (pc' := 127) rfl (by decide) (by omega) (by omega) ?_ ?_
                            · intro hc102
                              change pw_g gh41 132 (k41_5.toNat) ≠ (0 : Int) at hc102
                              refine pw_ld E (pc' := 128) (st' := [pw_i 0, .ref 141]) rfl (fun _ => rfl) ?_
                              refine pw_ld E (pc' := 129) (st' := [.ref 141, pw_i 0, .ref 141]) rfl (fun _ => rfl) ?_
                              refine pw_ld E (pc' := 130) (st' := [.ref 141, .ref 141, pw_i 0, .ref 141]) rfl (fun _ => rfl) ?_
                              refine pw_getR (b := 158) I41 E (c := 125) (k := 22) (pc' := 133) rfl rfl rfl rfl rfl rfl rfl ?_
                              refine pw_ld E (pc' := 135) (st' := [pw_i ((12 * k41_5) + e), .ref 158, .ref 141, pw_i 0, .ref 141]) rfl (fun _ => rfl) ?_
                              refine pw_ald2 I41 E (c := 142) (pc' := 136) rfl rfl rfl (by decide) rfl (by decide) (by omega) (by omega) rfl (fun hf103a hf103b => ?_)
                              refine pw_ld E (pc' := 137) (st' := [.ref 141, pw_i (pw_g gh41 142 (((12 * k41_5) + e).toNat)), .ref 141, pw_i 0, .ref 141]) rfl (fun _ => rfl) ?_
                              refine pw_getR (b := 159) I41 E (c := 125) (k := 23) (pc' := 140) rfl rfl rfl rfl rfl rfl rfl ?_
                              refine pw_ld E (pc' := 142) (st' := [pw_i ((12 * k41_5) + e), .ref 159, pw_i (pw_g gh41 142 (((12 * k41_5) + e).toNat)), .ref 141, pw_i 0, .ref 141]) rfl (fun _ => rfl) ?_
                              refine pw_ald2 I41 E (c := 143) (pc' := 143) rfl rfl rfl (by decide) rfl (by decide) (by omega) (by omega) rfl (fun hf104a hf104b => ?_)
                              obtain ⟨f105l, f105h, -⟩ := pw_obj (c := 125) I41 rfl
                              refine pw_call (m' := 211) (As := [.ref 141, pw_i (pw_g gh41 142 (((12 * k41_5) + e).toNat)), pw_i (pw_g gh41 143 (((12 * k41_5) + e).toNat))]) (rest := [pw_i 0, .ref 141]) (ls'' := [some (.ref 141), some (pw_i (pw_g gh41 142 (((12 * k41_5) + e).toNat))), some (pw_i (pw_g gh41 143 (((12 * k41_5) + e).toNat)))]) (Nat.le_trans (by decide) hd) E rfl (fun _ => pw_iV rfl rfl rfl rfl (pw_cellI f105h rfl)) (rfl : pm_ent 211 = some (3, 3, 12, 0, pmc_211)) rfl rfl (cm_211_h (pw_dp hd (by decide)) I41 (pw_g gh41 142 (((12 * k41_5) + e).toNat)) (by omega) (by omega) (pw_g gh41 143 (((12 * k41_5) + e).toNat)) (by omega) (by omega)) ?_
                              rintro u107 v106 ⟨rfl, x108, rfl, hx108a, hx108b, hx108r⟩
                              refine ⟨_, rfl, ?_⟩
                              show pw X d gh41 230 146 [some (.ref 141), some (pw_i b), some (pw_i e), some (pw_i z), some (pw_i wt), some (pw_i k41_5), some (pw_i ((12 * k41_5) + b)), some (pw_i ((12 * k41_5) + e))] [pw_i x108, pw_i 0, .ref 141] _
                              change x108 = 10 * (pw_g gh41 142 (((12 * k41_5) + e).toNat)) + pw_g gh41 125 15 * (pw_g gh41 143 (((12 * k41_5) + e).toNat)) at hx108r
                              refine pw_ld E (pc' := 147) (st' := [.ref 141, pw_i x108, pw_i 0, .ref 141]) rfl (fun _ => rfl) ?_
                              refine pw_ld E (pc' := 148) (st' := [.ref 141, .ref 141, pw_i x108, pw_i 0, .ref 141]) rfl (fun _ => rfl) ?_
                              refine pw_getR (b := 158) I41 E (c := 125) (k := 22) (pc' := 151) rfl rfl rfl rfl rfl rfl rfl ?_
                              refine pw_ld E (pc' := 153) (st' := [pw_i ((12 * k41_5) + b), .ref 158, .ref 141, pw_i x108, pw_i 0, .ref 141]) rfl (fun _ => rfl) ?_
                              refine pw_ald2 I41 E (c := 142) (pc' := 154) rfl rfl rfl (by decide) rfl (by decide) (by omega) (by omega) rfl (fun hf109a hf109b => ?_)
                              refine pw_ld E (pc' := 155) (st' := [.ref 141, pw_i (pw_g gh41 142 (((12 * k41_5) + b).toNat)), .ref 141, pw_i x108, pw_i 0, .ref 141]) rfl (fun _ => rfl) ?_
                              refine pw_getR (b := 159) I41 E (c := 125) (k := 23) (pc' := 158) rfl rfl rfl rfl rfl rfl rfl ?_
                              refine pw_ld E (pc' := 160) (st' := [pw_i ((12 * k41_5) + b), .ref 159, pw_i (pw_g gh41 142 (((12 * k41_5) + b).toNat)), .ref 141, pw_i x108, pw_i 0, .ref 141]) rfl (fun _ => rfl) ?_
                              refine pw_ald2 I41 E (c := 143) (pc' := 161) rfl rfl rfl (by decide) rfl (by decide) (by omega) (by omega) rfl (fun hf110a hf110b => ?_)
                              obtain ⟨f111l, f111h, -⟩ := pw_obj (c := 125) I41 rfl
                              refine pw_call (m' := 211) (As := [.ref 141, pw_i (pw_g gh41 142 (((12 * k41_5) + b).toNat)), pw_i (pw_g gh41 143 (((12 * k41_5) + b).toNat))]) (rest := [pw_i x108, pw_i 0, .ref 141]) (ls'' := [some (.ref 141), some (pw_i (pw_g gh41 142 (((12 * k41_5) + b).toNat))), some (pw_i (pw_g gh41 143 (((12 * k41_5) + b).toNat)))]) (Nat.le_trans (by decide) hd) E rfl (fun _ => pw_iV rfl rfl rfl rfl (pw_cellI f111h rfl)) (rfl : pm_ent 211 = some (3, 3, 12, 0, pmc_211)) rfl rfl (cm_211_h (pw_dp hd (by decide)) I41 (pw_g gh41 142 (((12 * k41_5) + b).toNat)) (by omega) (by omega) (pw_g gh41 143 (((12 * k41_5) + b).toNat)) (by omega) (by omega)) ?_
                              rintro u113 v112 ⟨rfl, x114, rfl, hx114a, hx114b, hx114r⟩
                              refine ⟨_, rfl, ?_⟩
                              show pw X d gh41 230 164 [some (.ref 141), some (pw_i b), some (pw_i e), some (pw_i z), some (pw_i wt), some (pw_i k41_5), some (pw_i ((12 * k41_5) + b)), some (pw_i ((12 * k41_5) + e))] [pw_i x114, pw_i x108, pw_i 0, .ref 141] _
                              change x114 = 10 * (pw_g gh41 142 (((12 * k41_5) + b).toNat)) + pw_g gh41 125 15 * (pw_g gh41 143 (((12 * k41_5) + b).toNat)) at hx114r
                              refine pw_sub E (pc' := 165) rfl rfl ?_
                              refine pw_i2l E (pc' := 166) rfl rfl (by omega) (by omega) ?_
                              have y1 : x108 = pv_hms gh41 e k41_5 := hx108r
                              have y2 : x114 = pv_hms gh41 b k41_5 := hx114r
                              have hch : pv_chsm h b e (k41_5).toNat = x108 - x114 := by rw [pv_chsmI (by omega), ← rse, ← rsb, y1, y2]
                              have hsd : (pv_sdsm h z b e) (k41_5).toNat = 1 := by omega
                              clear od
                              obtain ⟨e0, e1, e2, e3⟩ := pv_stp1 (sd := pv_sdsm h z b e) (ch := pv_chsm h b e) (k := k41_5) (by omega) hsd
                              rw [hch] at e3
                              obtain ⟨f115l, f115h, -⟩ := pw_obj (c := 125) I41 rfl
                              refine pw_call (m' := 220) (As := [.ref 141, pw_i 0, .long (Int64.ofInt (x108 - x114))]) (rest := []) (ls'' := [some (.ref 141), some (pw_i 0), some (.long (Int64.ofInt (x108 - x114))), none]) (Nat.le_trans (by decide) hd) E rfl (fun _ => pw_iV rfl rfl rfl rfl (pw_cellI f115h rfl)) (rfl : pm_ent 220 = some (3, 4, 12, 4, pmc_220)) rfl rfl (cm_220_s (pw_dp hd (by decide)) I41 (0) (by omega) (by omega) (x108 - x114) (by omega) (by omega) (by omega) (by omega) (by omega) (by omega) (by omega) (by omega) (by omega)) ?_
                              rintro h116 v117 ⟨h116I, h116E, hqadd, rfl⟩
                              refine ⟨_, rfl, ?_⟩
                              have h116F := E41.tr (h116E.wk (W' := [125]) (by first | rfl | simp))
                              show pw X d h116 230 169 [some (.ref 141), some (pw_i b), some (pw_i e), some (pw_i z), some (pw_i wt), some (pw_i k41_5), some (pw_i ((12 * k41_5) + b)), some (pw_i ((12 * k41_5) + e))] [] _
                              have hqa := hqadd.2 rfl
                              clear hqadd
                              refine pw_inc E (pc' := 172) (ls' := [some (.ref 141), some (pw_i b), some (pw_i e), some (pw_i z), some (pw_i wt), some (pw_i (k41_5 + 1)), some (pw_i ((12 * k41_5) + b)), some (pw_i ((12 * k41_5) + e))]) rfl rfl rfl rfl ?_
                              refine pw_goto E (pc' := 41) rfl (by decide) ?_
                              exact ih41 _ (by omega) (k41_5 + 1) (some (pw_i ((12 * k41_5) + b))) (some (pw_i ((12 * k41_5) + e))) h116 h116I h116F (by omega) (by omega) (by omega) (by omega) (by omega) (by omega) (by omega) (by omega) (by omega) (by omega) (by omega) (by omega) (by omega) rfl
                            · intro hc118
                              change ¬ (pw_g gh41 132 (k41_5.toNat) ≠ (0 : Int)) at hc118
                              refine pw_ld E (pc' := 124) (st' := [pw_i 1, .ref 141]) rfl (fun _ => rfl) ?_
                              refine pw_goto E (pc' := 128) rfl (by decide) ?_
                              refine pw_ld E (pc' := 129) (st' := [.ref 141, pw_i 1, .ref 141]) rfl (fun _ => rfl) ?_
                              refine pw_ld E (pc' := 130) (st' := [.ref 141, .ref 141, pw_i 1, .ref 141]) rfl (fun _ => rfl) ?_
                              refine pw_getR (b := 158) I41 E (c := 125) (k := 22) (pc' := 133) rfl rfl rfl rfl rfl rfl rfl ?_
                              refine pw_ld E (pc' := 135) (st' := [pw_i ((12 * k41_5) + e), .ref 158, .ref 141, pw_i 1, .ref 141]) rfl (fun _ => rfl) ?_
                              refine pw_ald2 I41 E (c := 142) (pc' := 136) rfl rfl rfl (by decide) rfl (by decide) (by omega) (by omega) rfl (fun hf119a hf119b => ?_)
                              refine pw_ld E (pc' := 137) (st' := [.ref 141, pw_i (pw_g gh41 142 (((12 * k41_5) + e).toNat)), .ref 141, pw_i 1, .ref 141]) rfl (fun _ => rfl) ?_
                              refine pw_getR (b := 159) I41 E (c := 125) (k := 23) (pc' := 140) rfl rfl rfl rfl rfl rfl rfl ?_
                              refine pw_ld E (pc' := 142) (st' := [pw_i ((12 * k41_5) + e), .ref 159, pw_i (pw_g gh41 142 (((12 * k41_5) + e).toNat)), .ref 141, pw_i 1, .ref 141]) rfl (fun _ => rfl) ?_
                              refine pw_ald2 I41 E (c := 143) (pc' := 143) rfl rfl rfl (by decide) rfl (by decide) (by omega) (by omega) rfl (fun hf120a hf120b => ?_)
                              obtain ⟨f121l, f121h, -⟩ := pw_obj (c := 125) I41 rfl
                              refine pw_call (m' := 211) (As := [.ref 141, pw_i (pw_g gh41 142 (((12 * k41_5) + e).toNat)), pw_i (pw_g gh41 143 (((12 * k41_5) + e).toNat))]) (rest := [pw_i 1, .ref 141]) (ls'' := [some (.ref 141), some (pw_i (pw_g gh41 142 (((12 * k41_5) + e).toNat))), some (pw_i (pw_g gh41 143 (((12 * k41_5) + e).toNat)))]) (Nat.le_trans (by decide) hd) E rfl (fun _ => pw_iV rfl rfl rfl rfl (pw_cellI f121h rfl)) (rfl : pm_ent 211 = some (3, 3, 12, 0, pmc_211)) rfl rfl (cm_211_h (pw_dp hd (by decide)) I41 (pw_g gh41 142 (((12 * k41_5) + e).toNat)) (by omega) (by omega) (pw_g gh41 143 (((12 * k41_5) + e).toNat)) (by omega) (by omega)) ?_
                              rintro u123 v122 ⟨rfl, x124, rfl, hx124a, hx124b, hx124r⟩
                              refine ⟨_, rfl, ?_⟩
                              show pw X d gh41 230 146 [some (.ref 141), some (pw_i b), some (pw_i e), some (pw_i z), some (pw_i wt), some (pw_i k41_5), some (pw_i ((12 * k41_5) + b)), some (pw_i ((12 * k41_5) + e))] [pw_i x124, pw_i 1, .ref 141] _
                              change x124 = 10 * (pw_g gh41 142 (((12 * k41_5) + e).toNat)) + pw_g gh41 125 15 * (pw_g gh41 143 (((12 * k41_5) + e).toNat)) at hx124r
                              refine pw_ld E (pc' := 147) (st' := [.ref 141, pw_i x124, pw_i 1, .ref 141]) rfl (fun _ => rfl) ?_
                              refine pw_ld E (pc' := 148) (st' := [.ref 141, .ref 141, pw_i x124, pw_i 1, .ref 141]) rfl (fun _ => rfl) ?_
                              refine pw_getR (b := 158) I41 E (c := 125) (k := 22) (pc' := 151) rfl rfl rfl rfl rfl rfl rfl ?_
                              refine pw_ld E (pc' := 153) (st' := [pw_i ((12 * k41_5) + b), .ref 158, .ref 141, pw_i x124, pw_i 1, .ref 141]) rfl (fun _ => rfl) ?_
                              refine pw_ald2 I41 E (c := 142) (pc' := 154) rfl rfl rfl (by decide) rfl (by decide) (by omega) (by omega) rfl (fun hf125a hf125b => ?_)
                              refine pw_ld E (pc' := 155) (st' := [.ref 141, pw_i (pw_g gh41 142 (((12 * k41_5) + b).toNat)), .ref 141, pw_i x124, pw_i 1, .ref 141]) rfl (fun _ => rfl) ?_
                              refine pw_getR (b := 159) I41 E (c := 125) (k := 23) (pc' := 158) rfl rfl rfl rfl rfl rfl rfl ?_
                              refine pw_ld E (pc' := 160) (st' := [pw_i ((12 * k41_5) + b), .ref 159, pw_i (pw_g gh41 142 (((12 * k41_5) + b).toNat)), .ref 141, pw_i x124, pw_i 1, .ref 141]) rfl (fun _ => rfl) ?_
                              refine pw_ald2 I41 E (c := 143) (pc' := 161) rfl rfl rfl (by decide) rfl (by decide) (by omega) (by omega) rfl (fun hf126a hf126b => ?_)
                              obtain ⟨f127l, f127h, -⟩ := pw_obj (c := 125) I41 rfl
                              refine pw_call (m' := 211) (As := [.ref 141, pw_i (pw_g gh41 142 (((12 * k41_5) + b).toNat)), pw_i (pw_g gh41 143 (((12 * k41_5) + b).toNat))]) (rest := [pw_i x124, pw_i 1, .ref 141]) (ls'' := [some (.ref 141), some (pw_i (pw_g gh41 142 (((12 * k41_5) + b).toNat))), some (pw_i (pw_g gh41 143 (((12 * k41_5) + b).toNat)))]) (Nat.le_trans (by decide) hd) E rfl (fun _ => pw_iV rfl rfl rfl rfl (pw_cellI f127h rfl)) (rfl : pm_ent 211 = some (3, 3, 12, 0, pmc_211)) rfl rfl (cm_211_h (pw_dp hd (by decide)) I41 (pw_g gh41 142 (((12 * k41_5) + b).toNat)) (by omega) (by omega) (pw_g gh41 143 (((12 * k41_5) + b).toNat)) (by omega) (by omega)) ?_
                              rintro u129 v128 ⟨rfl, x130, rfl, hx130a, hx130b, hx130r⟩
                              refine ⟨_, rfl, ?_⟩
                              show pw X d gh41 230 164 [some (.ref 141), some (pw_i b), some (pw_i e), some (pw_i z), some (pw_i wt), some (pw_i k41_5), some (pw_i ((12 * k41_5) + b)), some (pw_i ((12 * k41_5) + e))] [pw_i x130, pw_i x124, pw_i 1, .ref 141] _
                              change x130 = 10 * (pw_g gh41 142 (((12 * k41_5) + b).toNat)) + pw_g gh41 125 15 * (pw_g gh41 143 (((12 * k41_5) + b).toNat)) at hx130r
                              refine pw_sub E (pc' := 165) rfl rfl ?_
                              refine pw_i2l E (pc' := 166) rfl rfl (by omega) (by omega) ?_
                              have y1 : x124 = pv_hms gh41 e k41_5 := hx124r
                              have y2 : x130 = pv_hms gh41 b k41_5 := hx130r
                              have hch : pv_chsm h b e (k41_5).toNat = x124 - x130 := by rw [pv_chsmI (by omega), ← rse, ← rsb, y1, y2]
                              have hsd : (pv_sdsm h z b e) (k41_5).toNat = 0 := by omega
                              clear od
                              obtain ⟨e0, e1, e2, e3⟩ := pv_stp0 (sd := pv_sdsm h z b e) (ch := pv_chsm h b e) (k := k41_5) (by omega) hsd
                              rw [hch] at e2
                              obtain ⟨f131l, f131h, -⟩ := pw_obj (c := 125) I41 rfl
                              refine pw_call (m' := 220) (As := [.ref 141, pw_i 1, .long (Int64.ofInt (x124 - x130))]) (rest := []) (ls'' := [some (.ref 141), some (pw_i 1), some (.long (Int64.ofInt (x124 - x130))), none]) (Nat.le_trans (by decide) hd) E rfl (fun _ => pw_iV rfl rfl rfl rfl (pw_cellI f131h rfl)) (rfl : pm_ent 220 = some (3, 4, 12, 4, pmc_220)) rfl rfl (cm_220_s (pw_dp hd (by decide)) I41 (1) (by omega) (by omega) (x124 - x130) (by omega) (by omega) (by omega) (by omega) (by omega) (by omega) (by omega) (by omega) (by omega)) ?_
                              rintro h132 v133 ⟨h132I, h132E, hqadd, rfl⟩
                              refine ⟨_, rfl, ?_⟩
                              have h132F := E41.tr (h132E.wk (W' := [125]) (by first | rfl | simp))
                              show pw X d h132 230 169 [some (.ref 141), some (pw_i b), some (pw_i e), some (pw_i z), some (pw_i wt), some (pw_i k41_5), some (pw_i ((12 * k41_5) + b)), some (pw_i ((12 * k41_5) + e))] [] _
                              have hqa := hqadd.1 rfl
                              clear hqadd
                              refine pw_inc E (pc' := 172) (ls' := [some (.ref 141), some (pw_i b), some (pw_i e), some (pw_i z), some (pw_i wt), some (pw_i (k41_5 + 1)), some (pw_i ((12 * k41_5) + b)), some (pw_i ((12 * k41_5) + e))]) rfl rfl rfl rfl ?_
                              refine pw_goto E (pc' := 41) rfl (by decide) ?_
                              exact ih41 _ (by omega) (k41_5 + 1) (some (pw_i ((12 * k41_5) + b))) (some (pw_i ((12 * k41_5) + e))) h132 h132I h132F (by omega) (by omega) (by omega) (by omega) (by omega) (by omega) (by omega) (by omega) (by omega) (by omega) (by omega) (by omega) (by omega) rfl
            exact L41 _ (0) (none) (none) h18 h18I h18F (by omega) (by omega) (by show _ = (0 : Int); omega) (by show _ = (0 : Int); omega) (by show _ = (0 : Int); omega) (by show _ = (0 : Int); omega) (by omega) (by omega) (by omega) (by omega) (by omega) (by omega) (by omega) rfl
          · intro hc134
            change ¬ (pw_g h13 125 0 ≤ (0 : Int)) at hc134
            exfalso; omega
      · skip
        refine pw_if E (pc' := 21) rfl (by decide) (by omega) (by omega) ?_ ?_
        · intro hc136
          change x9 = (0 : Int) at hc136
          refine pw_ld E (pc' := 22) (st' := [pw_i 1, .ref 141]) rfl (fun _ => rfl) ?_
          refine pw_putI I E (c := 125) (k := 0) (pc' := 25) rfl rfl rfl rfl (by omega) (by omega) (by omega) (by omega) rfl rfl ?_
          intro h137I h137E
          generalize h137w : pw_w h 125 0 (pw_i 1) = h137 at h137I h137E ⊢
          have h137F := E0.tr (h137E.wk (W' := [125]) (by first | rfl | simp))
          refine pw_ld E (pc' := 26) (st' := [.ref 141]) rfl (fun _ => rfl) ?_
          have he139 : pw_g h137 125 0 = 1 := by rw [← h137w]; exact pw_g_eq (c := 125) (k := 0) I rfl rfl (by omega) (by omega)
          refine pw_getI2 h137I E (c := 125) (k := 0) (pc' := 29) rfl rfl rfl rfl rfl rfl (fun hf138a hf138b => ?_)
          refine pw_if E (pc' := 34) rfl (by decide) (by omega) (by omega) ?_ ?_
          · intro hc140
            change pw_g h137 125 0 ≤ (0 : Int) at hc140
            exfalso; omega
          · intro hc141
            change ¬ (pw_g h137 125 0 ≤ (0 : Int)) at hc141
            refine pw_ld E (pc' := 33) (st' := [.long (Int64.ofInt 0)]) rfl (fun _ => rfl) ?_
            refine pw_lret E rfl ?_
            exact ⟨h137I, h137F, ⟨_, rfl, by omega, by omega, Or.inl ⟨by omega, Or.inl (by omega)⟩⟩⟩
        · intro hc142
          change ¬ (x9 = (0 : Int)) at hc142
          exfalso; omega
  · skip
    refine pw_if E (pc' := 21) rfl (by decide) (by omega) (by omega) ?_ ?_
    · intro hc144
      change x3 = (0 : Int) at hc144
      refine pw_ld E (pc' := 22) (st' := [pw_i 1, .ref 141]) rfl (fun _ => rfl) ?_
      refine pw_putI I E (c := 125) (k := 0) (pc' := 25) rfl rfl rfl rfl (by omega) (by omega) (by omega) (by omega) rfl rfl ?_
      intro h145I h145E
      generalize h145w : pw_w h 125 0 (pw_i 1) = h145 at h145I h145E ⊢
      have h145F := E0.tr (h145E.wk (W' := [125]) (by first | rfl | simp))
      refine pw_ld E (pc' := 26) (st' := [.ref 141]) rfl (fun _ => rfl) ?_
      have he147 : pw_g h145 125 0 = 1 := by rw [← h145w]; exact pw_g_eq (c := 125) (k := 0) I rfl rfl (by omega) (by omega)
      refine pw_getI2 h145I E (c := 125) (k := 0) (pc' := 29) rfl rfl rfl rfl rfl rfl (fun hf146a hf146b => ?_)
      refine pw_if E (pc' := 34) rfl (by decide) (by omega) (by omega) ?_ ?_
      · intro hc148
        change pw_g h145 125 0 ≤ (0 : Int) at hc148
        exfalso; omega
      · intro hc149
        change ¬ (pw_g h145 125 0 ≤ (0 : Int)) at hc149
        refine pw_ld E (pc' := 33) (st' := [.long (Int64.ofInt 0)]) rfl (fun _ => rfl) ?_
        refine pw_lret E rfl ?_
        exact ⟨h145I, h145F, ⟨_, rfl, by omega, by omega, Or.inl ⟨by omega, Or.inl (by omega)⟩⟩⟩
    · intro hc150
      change ¬ (x3 = (0 : Int)) at hc150
      exfalso; omega
end
section
/-! a new row of ints: Arrays.copyOf, Script.copyOf -/
/-- as pw_E, but one cell of at most 1000 may be new -/
def pw_G (W : List Nat) (h h' : pm_H) : Prop := (h.length ≤ h'.length ∧ h'.length ≤ h.length + 1 ∧ pm_slt h ≤ pm_slt h' ∧ pm_slt h' ≤ pm_slt h + 1000) ∧ ∀ c : Nat, c < h.length → c ∉ W → h'[c]? = h[c]?
theorem pw_E.G {W : List Nat} {a b : pm_H} (h1 : pw_E W a b) : pw_G W a b := ⟨⟨by rw [h1.1.1]; exact Nat.le_refl _, by rw [h1.1.1]; omega, by rw [h1.1.2]; exact Nat.le_refl _, by rw [h1.1.2]; omega⟩, h1.2.1⟩
theorem pw_G.tE {W : List Nat} {a b c : pm_H} (h1 : pw_G W a b) (h2 : pw_E W b c) : pw_G W a c := ⟨by rw [h2.1.1, h2.1.2]; exact h1.1, fun q hq hn => (h2.2.1 q (Nat.lt_of_lt_of_le hq h1.1.1) hn).trans (h1.2 q hq hn)⟩
theorem pw_E.tG {W : List Nat} {a b c : pm_H} (h1 : pw_E W a b) (h2 : pw_G W b c) : pw_G W a c := ⟨by rw [← h1.1.1, ← h1.1.2]; exact h2.1, fun q hq hn => (h2.2 q (by rw [h1.1.1]; exact hq) hn).trans (h1.2.1 q hq hn)⟩
theorem pw_G.wk {W W' : List Nat} {a b : pm_H} (h1 : pw_G W a b) (hs : W.all (fun c => W'.contains c) = true) : pw_G W' a b := ⟨h1.1, fun q hq hn => h1.2 q hq fun hm => hn (by
  have := List.all_eq_true.mp hs q hm
  exact List.contains_iff_mem.mp this)⟩
theorem pw_Gg {h h' : pm_H} {c : Nat} {W : List Nat} {s : pw_S} (I : pw_I h) (E : pw_G W h h') (hs : pw_T[c]? = some s) (hn : W.contains c = false) (k : Nat) : pw_at h' c k = pw_at h c k := by
  obtain ⟨q, h1, -⟩ := I.1 c _ hs
  unfold pw_at
  rw [E.2 c (List.getElem?_eq_some_iff.mp h1).1 (fun hm => by
    have := List.contains_iff_mem.mpr hm
    rw [hn] at this; cases this)]
theorem pw_vk_push {h : pm_H} {x : pm_C} {sp : pw_F} {v : Value} (hv : pw_vk h sp v) : pw_vk (h ++ [x]) sp v := by
  obtain ⟨k, lo, hi⟩ := sp
  have key : (∃ (c : Nat) (l : List Value), v = .ref (16 + c) ∧ h[c]? = some (.inl (0, l)) ∧ l.length ≤ 1000 ∧ pw_ints l) → ∃ (c2 : Nat) (l : List Value), v = .ref (16 + c2) ∧ (h ++ [x])[c2]? = some (.inl (0, l)) ∧ l.length ≤ 1000 ∧ pw_ints l := by
    rintro ⟨c2, l, e1, e2, e3⟩
    exact ⟨c2, l, e1, by rw [List.getElem?_append_left (List.getElem?_eq_some_iff.mp e2).1]; exact e2, e3⟩
  match k, hv with
  | 0, hv => exact hv
  | 1, hv => exact hv
  | 2, hv => exact hv
  | 4, hv => exact hv
  | 3, hv => exact key hv
  | k + 5, hv => exact key hv
theorem pw_ok_push {h : pm_H} {y : pm_C} {s : pw_S} {x : pm_C} (hv : pw_ok h s x) : pw_ok (h ++ [y]) s x := by
  match s, x, hv with
  | .inl _, .inl _, hv => exact hv
  | .inr (ci, sps), .inr (cj, fs), hv => exact ⟨hv.1, hv.2.1, fun k sp v g1 g2 => pw_vk_push (hv.2.2 k sp v g1 g2)⟩
theorem pw_scv_mono {n m : Nat} (hn : n ≤ m) {v : Value} (h : pm_scv n v = true) : pm_scv m v = true := by
  cases v with
  | ref a => exact Nat.blt_eq.mpr (Nat.lt_of_lt_of_le (Nat.blt_eq.mp h) hn)
  | _ => rfl
theorem pw_scc_mono {n m : Nat} (hn : n ≤ m) {c : pm_C} (h : pm_scc n c = true) : pm_scc m c = true := by
  match c, h with
  | .inl q, h =>
    have h : cond (Nat.blt q.1 5) true (pm_all (pm_scv n) q.2) = true := h
    show cond (Nat.blt q.1 5) true (pm_all (pm_scv m) q.2) = true
    cases hb : Nat.blt q.1 5 with
    | true => rfl
    | false =>
      rw [hb] at h
      have h : pm_all (pm_scv n) q.2 = true := h
      show pm_all (pm_scv m) q.2 = true
      rw [pm_all_eq, List.all_eq_true] at h ⊢
      exact fun v hv => pw_scv_mono hn (h v hv)
  | .inr q, h =>
    have h : pm_all (pm_scv n) q.2 = true := h
    show pm_all (pm_scv m) q.2 = true
    rw [pm_all_eq, List.all_eq_true] at h ⊢
    exact fun v hv => pw_scv_mono hn (h v hv)
theorem pw_I_push {h : pm_H} {t : Nat} {l : List Value} (ht : Nat.blt t 5 = true) (I : pw_I h) : pw_I (h ++ [.inl (t, l)]) := by
  refine ⟨fun c s hT => ?_, ?_⟩
  · obtain ⟨q, h1, h2⟩ := I.1 c s hT
    exact ⟨q, by rw [List.getElem?_append_left (List.getElem?_eq_some_iff.mp h1).1]; exact h1, pw_ok_push h2⟩
  · have h1 := I.2
    unfold pm_scH at h1 ⊢
    rw [pm_all_eq, List.all_eq_true, pm_len_eq] at h1 ⊢
    intro c hc
    rw [List.length_append]
    rcases List.mem_append.mp hc with g | g
    · exact pw_scc_mono (by simp) (h1 c g)
    · rw [List.mem_singleton.mp g]
      show cond (Nat.blt t 5) true _ = true
      rw [ht]; rfl
section Pn
variable {X : List (Nat × List Value)} {d : Nat} {h : pm_H} {m pc pc' len na nl own rt : Nat} {C : pm_T (Instr × Nat)} {ls : pm_L} {r : List Value} {Q : pm_H → (Option Value ⊕ Unit) → Prop} {i : Instr}
theorem pw_newi {n : Int} (he : pm_ent m = some (na, nl, own, rt, C)) (hq : pm_get C pc = some (.newarray .int, len)) (hc : pc + len = pc') (h0 : 0 ≤ n) (h1 : n ≤ 60000) (H : pw X d (h ++ [.inl (0, List.replicate n.toNat (.int 0))]) m pc' ls (.ref (16 + h.length) :: r) Q) : pw X d h m pc ls (pw_i n :: r) Q := by
  subst hc
  refine pw_go he hq (fun ih => ?_) H
  show cond (decide (Int32.ofInt n < 0)) none (cond (Nat.ble (Int32.ofInt n).toNatClampNeg 60000) (cond (Nat.blt 0 5) (pm_fn (pm_len h) fun z => pm_fn (pc + len) fun q => ih d (h ++ [.inl (0, pm_rep (Int32.ofInt n).toNatClampNeg (.int 0))]) m q ls (.ref (16 + z) :: r)) none) none) = _
  rw [decide_eq_false (pw_neg h0 (by omega)), cond_false, pw_clamp h0 (by omega), Nat.ble_eq_true_of_le (by omega), cond_true, pm_fn_eq, pm_fn_eq, pm_len_eq, pm_rep_eq]
  rfl
theorem pw_cpyN {ix c q a a2 : Nat} {l l' : List Value} {n : Int} (he : pm_ent m = some (na, nl, own, rt, C)) (hq : pm_get C pc = some (.invokestatic ix, len)) (hl : pm_get (pm_lnk own) ix = some (12, 5, 0, 0)) (e1 : h[c]? = some (.inl (0, l))) (f1 : h[q]? = some (.inl (0, l'))) (h0 : 0 ≤ n) (h1 : n ≤ 60000) (hn : n.toNat ≤ l.length) (hn2 : n.toNat = l'.length) (ha : 16 + c = a) (ha2 : 16 + q = a2) (h8 : pm_cat8 r = true)
    (H : pw X d (h.set q (.inl (0, l.take n.toNat))) m (pc + 3) ls r Q) : pw X d h m pc ls (pw_i n :: pw_i 0 :: .ref a2 :: pw_i 0 :: .ref a :: r) Q := by
  refine pw_go he hq (fun ih => ?_) H
  refine (pw_prim0 (len := len) hl rfl).trans ?_
  show (match pm_row X h a, pm_cell h a2 with
    | some (t, l), some (.inl (t', l')) => cond (Nat.beq t 0 && (Nat.beq t' 0 && (Nat.ble 16 a && (!decide (Int32.ofInt n < 0) && (!decide (Int32.ofInt 0 < 0) && (!decide (Int32.ofInt 0 < 0) && (Nat.ble ((Int32.ofInt 0).toNatClampNeg + (Int32.ofInt n).toNatClampNeg) (pm_len l) && Nat.ble ((Int32.ofInt 0).toNatClampNeg + (Int32.ofInt n).toNatClampNeg) (pm_len l'))))))))
      (cond (pm_cat8 r) (pm_fn (pc + 3) fun q => ih d (pm_set h (a2 - 16) (.inl (0, pm_cpy l l' (Int32.ofInt 0).toNatClampNeg (Int32.ofInt 0).toNatClampNeg (Int32.ofInt n).toNatClampNeg))) m q ls r) none) none
    | _, _ => none) = _
  rw [pw_rowI e1 ha, pw_cellI f1 ha2]
  dsimp only
  have en : (Int32.ofInt n).toNatClampNeg = n.toNat := pw_clamp h0 (by omega)
  have e0 : (Int32.ofInt 0).toNatClampNeg = 0 := rfl
  rw [en, e0, decide_eq_false (pw_neg h0 (by omega)), pm_len_eq, pm_len_eq]
  have hb : (Nat.beq 0 0 && (Nat.beq 0 0 && (Nat.ble 16 a && (!false && (!decide (Int32.ofInt 0 < 0) && (!decide (Int32.ofInt 0 < 0) && (Nat.ble (0 + n.toNat) l.length && Nat.ble (0 + n.toNat) l'.length))))))) = true := by
    rw [Nat.ble_eq_true_of_le (show 16 ≤ a by omega), Nat.ble_eq_true_of_le (show 0 + n.toNat ≤ l.length by omega), Nat.ble_eq_true_of_le (show 0 + n.toNat ≤ l'.length by omega)]
    rfl
  have ea : a2 - 16 = q := by omega
  rw [hb, cond_true, h8, cond_true, pm_fn_eq, ea, pm_set_eq]
  have ec : pm_cpy l l' 0 0 n.toNat = l.take n.toNat := by
    unfold pm_cpy
    rw [List.take_zero, List.drop_zero, List.nil_append, List.drop_of_length_le (by omega), List.append_nil]
  rw [ec]
end Pn
theorem cm_325 {X : List (Nat × List Value)} {d : Nat} {h : pm_H} {c : Nat} {l : List Value} {n : Int} (e1 : h[c]? = some (.inl (0, l))) (hl : l.length = 1000) (h0 : 0 ≤ n) (h1 : n ≤ 999) : pw X d h 325 0 [some (.ref (16 + c)), some (pw_i n), none] [] (fun h' v => h' = h ++ [.inl (0, l.take n.toNat)] ∧ v = .inl (some (.ref (16 + h.length)))) := by
  have E : pm_ent 325 = some (2, 3, 14, 3, pmc_325) := rfl
  have hc : c < h.length := (List.getElem?_eq_some_iff.mp e1).1
  refine pw_ld E (pc' := 1) (st' := [pw_i n]) rfl (fun _ => rfl) ?_
  refine pw_ld E (pc' := 2) (st' := [.ref (16 + c), pw_i n]) rfl (fun _ => rfl) ?_
  refine pw_alen E (pc' := 3) rfl (pw_rowI e1 rfl) rfl rfl ?_
  rw [hl]
  refine pw_if2 E (pc' := 14) rfl (by decide) (by omega) (by omega) (by decide) (by decide) ?_ ?_
  · intro _
    refine pw_ld E (pc' := 15) (st' := [pw_i n]) rfl (fun _ => rfl) ?_
    refine pw_newi E (pc' := 17) rfl rfl h0 (by omega) ?_
    have e2 : (h ++ [.inl (0, List.replicate n.toNat (.int 0))])[c]? = some (.inl (0, l)) := by rw [List.getElem?_append_left hc]; exact e1
    have e3 : (h ++ [.inl (0, List.replicate n.toNat (.int 0))])[h.length]? = some (.inl (0, List.replicate n.toNat (.int 0))) := by rw [List.getElem?_append_right (Nat.le_refl _), Nat.sub_self]; rfl
    generalize hg : h ++ [.inl (0, List.replicate n.toNat (Value.int 0))] = g at e2 e3 ⊢
    refine pw_astn E (pc' := 18) (ls' := [some (.ref (16 + c)), some (pw_i n), some (.ref (16 + h.length))]) rfl rfl rfl rfl ?_
    refine pw_ld E (pc' := 19) (st' := [.ref (16 + c)]) rfl (fun _ => rfl) ?_
    refine pw_ld E (pc' := 20) (st' := [pw_i 0, .ref (16 + c)]) rfl (fun _ => rfl) ?_
    refine pw_ld E (pc' := 21) (st' := [.ref (16 + h.length), pw_i 0, .ref (16 + c)]) rfl (fun _ => rfl) ?_
    refine pw_ld E (pc' := 22) (st' := [pw_i 0, .ref (16 + h.length), pw_i 0, .ref (16 + c)]) rfl (fun _ => rfl) ?_
    refine pw_ld E (pc' := 23) (st' := [.ref (16 + c), pw_i 0, .ref (16 + h.length), pw_i 0, .ref (16 + c)]) rfl (fun _ => rfl) ?_
    refine pw_alen E (pc' := 24) rfl (pw_rowI e2 rfl) rfl rfl ?_
    rw [hl]
    refine pw_ld E (pc' := 25) (st' := [pw_i n, pw_i (1000 : Nat), pw_i 0, .ref (16 + h.length), pw_i 0, .ref (16 + c)]) rfl (fun _ => rfl) ?_
    refine pw_min E rfl rfl (by decide) (by decide) (by omega) (by omega) rfl ?_
    rw [show min ((1000 : Nat) : Int) n = n by omega]
    refine pw_cpyN (q := h.length) E rfl rfl e2 e3 h0 (by omega) (by omega) List.length_replicate.symm rfl rfl rfl ?_
    refine pw_ld E (pc' := 32) (st' := [.ref (16 + h.length)]) rfl (fun _ => rfl) ?_
    refine pw_aret E rfl ⟨?_, rfl⟩
    rw [← hg, List.set_append_right _ _ (Nat.le_refl _), Nat.sub_self]
    rfl
  · intro hn
    exact absurd (show pw_c .ne n ((1000 : Nat) : Int) from (by show n ≠ ((1000 : Nat) : Int); omega)) hn
theorem pw_scq {h : pm_H} {q : Nat} {x : pm_C} (hq : h[q]? = some x) : pm_scv (16 + h.length) (.ref (16 + q)) = true := by
  have := (List.getElem?_eq_some_iff.mp hq).1
  exact Nat.blt_eq.mpr (by omega)
set_option maxHeartbeats 4000000 in
theorem cm_73t {X : List (Nat × List Value)} {d : Nat} {h : pm_H} (I : pw_I h) (c : Nat) (hc : pw_Sc c) (q0 : Nat) (q0l : List Value) (q0h : h[q0]? = some (.inl (0, q0l))) (q0n : q0l.length ≤ 1000) (q0i : pw_ints q0l) : pw X d h 73 12 [some (.ref (16 + c)), some (.ref 46), none] [.ref (16 + q0), .ref (16 + c)] (fun h' v => pw_I h' ∧ pw_E [c, c + 1, c + 2, c + 3, c + 4] h h' ∧ v = .inl none) := by
  have E : pm_ent 73 = some (2, 3, 7, 4, pmc_73) := rfl
  have E0 : pw_E [c, c + 1, c + 2, c + 3, c + 4] h h := pw_E.rf _ _
  refine pw_put0 I E (c := c) (k := 0) (pc' := 15) rfl rfl (pw_Sc_o hc) rfl ⟨q0, q0l, rfl, q0h, q0n, q0i⟩ (pw_scq q0h) rfl rfl rfl ?_
  intro h1I h1E
  generalize h1w : pw_w h c 0 (.ref (16 + q0)) = h1 at h1I h1E ⊢
  have h1F := E0.tr (h1E.wk (W' := [c, c + 1, c + 2, c + 3, c + 4]) (by first | rfl | simp))
  refine pw_ld E (pc' := 16) (st' := [.ref (16 + c)]) rfl (fun _ => rfl) ?_
  refine pw_ld E (pc' := 17) (st' := [.ref 46, .ref (16 + c)]) rfl (fun _ => rfl) ?_
  refine pw_getI h1I E (c := 30) (k := 1) (pc' := 20) rfl rfl rfl rfl rfl rfl (fun hf2a hf2b hf2c hf2d => ?_)
  refine pw_putI h1I E (c := c) (k := 1) (pc' := 23) rfl rfl (pw_Sc_o hc) rfl (by omega) (by omega) (by omega) (by omega) rfl rfl ?_
  intro h3I h3E
  generalize h3w : pw_w h1 c 1 (pw_i (pw_g h1 30 1)) = h3 at h3I h3E ⊢
  have h3F := h1F.tr (h3E.wk (W' := [c, c + 1, c + 2, c + 3, c + 4]) (by first | rfl | simp))
  refine pw_ld E (pc' := 24) (st' := [pw_i 0]) rfl (fun _ => rfl) ?_
  refine pw_istn E (pc' := 25) (ls' := [some (.ref (16 + c)), some (.ref 46), some (pw_i 0)]) rfl rfl rfl rfl ?_
  have L25 : ∀ (n25 : Nat) (k25_2 : Int) (h25 : pm_H), pw_I h25 → pw_E [c, c + 1, c + 2, c + 3, c + 4] h h25 → 0 ≤ k25_2 → k25_2 ≤ 4 → (4 - k25_2).toNat = n25 → pw X d h25 73 25 [some (.ref (16 + c)), some (.ref 46), some (pw_i k25_2)] [] (fun h' v => pw_I h' ∧ pw_E [c, c + 1, c + 2, c + 3, c + 4] h h' ∧ v = .inl none) := by
    intro n25
    induction n25 using Nat.strongRecOn with
    | ind n25 ih25 =>
      intro k25_2 h25 I25 E25 k25_2a k25_2b hm25
      refine pw_ld E (pc' := 26) (st' := [pw_i k25_2]) rfl (fun _ => rfl) ?_
      refine pw_ld E (pc' := 27) (st' := [pw_i 4, pw_i k25_2]) rfl (fun _ => rfl) ?_
      refine pw_if2 E (pc' := 84) rfl (by decide) (by omega) (by omega) (by decide) (by decide) ?_ ?_
      · intro hc4
        have hc4 : (4 : Int) ≤ k25_2 := hc4
        refine pw_vret E rfl ?_
        exact ⟨I25, E25, rfl⟩
      · intro hc5
        have hc5 : ¬ ((4 : Int) ≤ k25_2) := hc5
        refine pw_ld E (pc' := 31) (st' := [.ref (16 + c)]) rfl (fun _ => rfl) ?_
        refine pw_getR (b := 16 + (c + 1)) I25 E (c := c) (k := 2) (pc' := 34) rfl rfl (pw_Sc_o hc) rfl rfl rfl rfl ?_
        refine pw_ld E (pc' := 35) (st' := [pw_i k25_2, .ref (16 + (c + 1))]) rfl (fun _ => rfl) ?_
        refine pw_ld E (pc' := 36) (st' := [.ref 46, pw_i k25_2, .ref (16 + (c + 1))]) rfl (fun _ => rfl) ?_
        refine pw_getR (b := 47) I25 E (c := 30) (k := 2) (pc' := 39) rfl rfl rfl rfl rfl rfl rfl ?_
        refine pw_ld E (pc' := 40) (st' := [pw_i k25_2, .ref 47, pw_i k25_2, .ref (16 + (c + 1))]) rfl (fun _ => rfl) ?_
        refine pw_ald I25 E (c := 31) (pc' := 41) rfl rfl rfl (by decide) rfl (by decide) (by omega) (by omega) rfl (fun hf6a hf6b hf6c hf6d => ?_)
        refine pw_ast0 I25 E (c := c + 1) (pc' := 42) rfl rfl (pw_Sc_1 hc) (by decide) rfl (by decide) (by omega) (by omega) (pw_b1 (by omega) (by omega)) (by omega) (by omega) (by omega) (by omega) rfl ?_
        intro h7I h7E
        generalize h7w : pw_w h25 (c + 1) (k25_2.toNat) (pw_i (pw_g h25 31 (k25_2.toNat))) = h7 at h7I h7E ⊢
        have h7F := E25.tr (h7E.wk (W' := [c, c + 1, c + 2, c + 3, c + 4]) (by first | rfl | simp))
        refine pw_ld E (pc' := 43) (st' := [.ref (16 + c)]) rfl (fun _ => rfl) ?_
        refine pw_getR (b := 16 + (c + 2)) h7I E (c := c) (k := 3) (pc' := 46) rfl rfl (pw_Sc_o hc) rfl rfl rfl rfl ?_
        refine pw_ld E (pc' := 47) (st' := [pw_i k25_2, .ref (16 + (c + 2))]) rfl (fun _ => rfl) ?_
        refine pw_ld E (pc' := 48) (st' := [.ref 46, pw_i k25_2, .ref (16 + (c + 2))]) rfl (fun _ => rfl) ?_
        refine pw_getR (b := 48) h7I E (c := 30) (k := 3) (pc' := 51) rfl rfl rfl rfl rfl rfl rfl ?_
        refine pw_ld E (pc' := 52) (st' := [pw_i k25_2, .ref 48, pw_i k25_2, .ref (16 + (c + 2))]) rfl (fun _ => rfl) ?_
        refine pw_ald h7I E (c := 32) (pc' := 53) rfl rfl rfl (by decide) rfl (by decide) (by omega) (by omega) rfl (fun hf8a hf8b hf8c hf8d => ?_)
        refine pw_ast0 h7I E (c := c + 2) (pc' := 54) rfl rfl (pw_Sc_2 hc) (by decide) rfl (by decide) (by omega) (by omega) rfl (by omega) (by omega) (by omega) (by omega) rfl ?_
        intro h9I h9E
        generalize h9w : pw_w h7 (c + 2) (k25_2.toNat) (pw_i (pw_g h7 32 (k25_2.toNat))) = h9 at h9I h9E ⊢
        have h9F := h7F.tr (h9E.wk (W' := [c, c + 1, c + 2, c + 3, c + 4]) (by first | rfl | simp))
        refine pw_ld E (pc' := 55) (st' := [.ref (16 + c)]) rfl (fun _ => rfl) ?_
        refine pw_getR (b := 16 + (c + 3)) h9I E (c := c) (k := 4) (pc' := 58) rfl rfl (pw_Sc_o hc) rfl rfl rfl rfl ?_
        refine pw_ld E (pc' := 59) (st' := [pw_i k25_2, .ref (16 + (c + 3))]) rfl (fun _ => rfl) ?_
        refine pw_ld E (pc' := 60) (st' := [.ref 46, pw_i k25_2, .ref (16 + (c + 3))]) rfl (fun _ => rfl) ?_
        refine pw_getR (b := 49) h9I E (c := 30) (k := 4) (pc' := 63) rfl rfl rfl rfl rfl rfl rfl ?_
        refine pw_ld E (pc' := 64) (st' := [pw_i k25_2, .ref 49, pw_i k25_2, .ref (16 + (c + 3))]) rfl (fun _ => rfl) ?_
        refine pw_ald h9I E (c := 33) (pc' := 65) rfl rfl rfl (by decide) rfl (by decide) (by omega) (by omega) rfl (fun hf10a hf10b hf10c hf10d => ?_)
        refine pw_ast0 h9I E (c := c + 3) (pc' := 66) rfl rfl (pw_Sc_3 hc) (by decide) rfl (by decide) (by omega) (by omega) rfl (by omega) (by omega) (by omega) (by omega) rfl ?_
        intro h11I h11E
        generalize h11w : pw_w h9 (c + 3) (k25_2.toNat) (pw_i (pw_g h9 33 (k25_2.toNat))) = h11 at h11I h11E ⊢
        have h11F := h9F.tr (h11E.wk (W' := [c, c + 1, c + 2, c + 3, c + 4]) (by first | rfl | simp))
        refine pw_ld E (pc' := 67) (st' := [.ref (16 + c)]) rfl (fun _ => rfl) ?_
        refine pw_getR (b := 16 + (c + 4)) h11I E (c := c) (k := 5) (pc' := 70) rfl rfl (pw_Sc_o hc) rfl rfl rfl rfl ?_
        refine pw_ld E (pc' := 71) (st' := [pw_i k25_2, .ref (16 + (c + 4))]) rfl (fun _ => rfl) ?_
        refine pw_ld E (pc' := 72) (st' := [.ref 46, pw_i k25_2, .ref (16 + (c + 4))]) rfl (fun _ => rfl) ?_
        refine pw_getR (b := 50) h11I E (c := 30) (k := 5) (pc' := 75) rfl rfl rfl rfl rfl rfl rfl ?_
        refine pw_ld E (pc' := 76) (st' := [pw_i k25_2, .ref 50, pw_i k25_2, .ref (16 + (c + 4))]) rfl (fun _ => rfl) ?_
        refine pw_ald h11I E (c := 34) (pc' := 77) rfl rfl rfl (by decide) rfl (by decide) (by omega) (by omega) rfl (fun hf12a hf12b hf12c hf12d => ?_)
        refine pw_ast0 h11I E (c := c + 4) (pc' := 78) rfl rfl (pw_Sc_4 hc) (by decide) rfl (by decide) (by omega) (by omega) rfl (by omega) (by omega) (by omega) (by omega) rfl ?_
        intro h13I h13E
        generalize h13w : pw_w h11 (c + 4) (k25_2.toNat) (pw_i (pw_g h11 34 (k25_2.toNat))) = h13 at h13I h13E ⊢
        have h13F := h11F.tr (h13E.wk (W' := [c, c + 1, c + 2, c + 3, c + 4]) (by first | rfl | simp))
        refine pw_inc E (pc' := 81) (ls' := [some (.ref (16 + c)), some (.ref 46), some (pw_i (k25_2 + 1))]) rfl rfl rfl rfl ?_
        refine pw_goto E (pc' := 25) rfl (by decide) ?_
        exact ih25 _ (by omega) (k25_2 + 1) h13 h13I h13F (by omega) (by omega)  rfl
  exact L25 _ (0) h3 h3I h3F (by omega) (by omega)  rfl
theorem pw_G_push {W : List Nat} {h : pm_H} {l : List Value} (hl : l.length ≤ 1000) : pw_G W h (h ++ [.inl (0, l)]) := by
  refine ⟨⟨by simp, by simp, by rw [pm_slt_push]; omega, by rw [pm_slt_push]; show pm_slt h + l.length ≤ _; omega⟩, fun c hc _ => List.getElem?_append_left hc⟩
theorem cm_73 {X : List (Nat × List Value)} {d : Nat} {h : pm_H} (hd : 2 ≤ d) (I : pw_I h) (c : Nat) (hc : pw_Sc c) (hlen : pw_g h 30 1 ≤ 999) : pw X d h 73 0 [some (.ref (16 + c)), some (.ref 46), none] [] (fun h' v => pw_I h' ∧ pw_G [c, c + 1, c + 2, c + 3, c + 4] h h' ∧ v = .inl none) := by
  have E : pm_ent 73 = some (2, 3, 7, 4, pmc_73) := rfl
  refine pw_ld E (pc' := 1) (st' := [.ref (16 + c)]) rfl (fun _ => rfl) ?_
  refine pw_ld E (pc' := 2) (st' := [.ref 46, .ref (16 + c)]) rfl (fun _ => rfl) ?_
  refine pw_getR (b := 52) I E (c := 30) (k := 0) (pc' := 5) rfl rfl rfl rfl rfl rfl rfl ?_
  refine pw_ld E (pc' := 6) (st' := [.ref 46, .ref 52, .ref (16 + c)]) rfl (fun _ => rfl) ?_
  refine pw_getI I E (c := 30) (k := 1) (pc' := 9) rfl rfl rfl rfl rfl rfl (fun ha hb _ _ => ?_)
  obtain ⟨l, e1, e2, e3⟩ := pw_arr (c := 36) I rfl
  refine pw_call (m' := 325) (As := [.ref 52, pw_i (pw_g h 30 1)]) (rest := [.ref (16 + c)]) (ls'' := [some (.ref (16 + 36)), some (pw_i (pw_g h 30 1)), none]) (by omega) E rfl (fun _ => pw_iS rfl rfl rfl) (rfl : pm_ent 325 = some (2, 3, 14, 3, pmc_325)) rfl rfl (cm_325 e1 e2 ha hlen) ?_
  rintro h1 v1 ⟨rfl, rfl⟩
  refine ⟨_, rfl, ?_⟩
  have ht : (l.take (pw_g h 30 1).toNat).length ≤ 1000 := by rw [List.length_take]; omega
  refine pw_mono (cm_73t (pw_I_push rfl I) c hc h.length (l.take (pw_g h 30 1).toNat) (by rw [List.getElem?_append_right (Nat.le_refl _), Nat.sub_self]; rfl) ht (fun j v hv => ?_)) ?_
  · rw [List.getElem?_take] at hv
    split at hv
    · obtain ⟨a, rfl, -⟩ := e3 j v hv
      exact ⟨_, rfl⟩
    · cases hv
  · rintro h2 v2 ⟨I2, E2, rfl⟩
    exact ⟨I2, (pw_G_push ht).tE E2, rfl⟩
set_option maxHeartbeats 4000000 in
theorem cm_143_26 {X : List (Nat × List Value)} {d : Nat} {h : pm_H} (hd : 7 ≤ d) (I : pw_I h) (hX : pw_Xk X) (hR : pw_Xr X) (c : Nat) (hc : pw_Sc c) : pw X d h 143 0 [some (.ref 16), some (.ref 42), some (.ref (16 + c)), none] [] (fun h' v => pw_I h' ∧ pw_G [24, 26, 27, 30, 31, 32, 33, 34, 36, c, c + 1, c + 2, c + 3, c + 4] h h' ∧ ∃ a : Int, v = .inl (some (pw_i a)) ∧ (-2147483648) ≤ a ∧ a ≤ 2147483647) := by
  have E : pm_ent 143 = some (3, 4, 11, 0, pmc_143) := rfl
  refine pw_ld E (pc' := 1) (st' := [.ref 42]) rfl (fun _ => rfl) ?_
  refine pw_ld E (pc' := 2) (st' := [.ref 16, .ref 42]) rfl (fun _ => rfl) ?_
  refine pw_getR (b := 40) I E (c := 0) (k := 10) (pc' := 5) rfl rfl rfl rfl rfl rfl rfl ?_
  refine pw_ld E (pc' := 6) (st' := [.ref 16, .ref 40, .ref 42]) rfl (fun _ => rfl) ?_
  refine pw_getR (b := 46) I E (c := 0) (k := 13) (pc' := 9) rfl rfl rfl rfl rfl rfl rfl ?_
  obtain ⟨f1l, f1h, -⟩ := pw_obj (c := 26) I rfl
  refine pw_call (m' := 44) (As := [.ref 42, .ref 40, .ref 46]) (rest := []) (ls'' := [some (.ref 42), some (.ref 40), some (.ref 46), none, none]) (by omega) E rfl (fun _ => pw_iV rfl rfl rfl rfl (pw_cellI f1h rfl)) (rfl : pm_ent 44 = some (3, 5, 5, 0, pmc_44)) rfl rfl (cm_44_26 (by omega) I hX hR) ?_
  rintro h1 v1 ⟨I1, E1, a, rfl, ha, hb, hz⟩
  refine ⟨_, rfl, ?_⟩
  show pw X d h1 143 12 [some (.ref 16), some (.ref 42), some (.ref (16 + c)), none] [pw_i a] _
  refine pw_istn E (pc' := 13) (ls' := [some (.ref 16), some (.ref 42), some (.ref (16 + c)), some (pw_i a)]) rfl rfl rfl rfl ?_
  refine pw_ld E (pc' := 14) (st' := [.ref 16]) rfl (fun _ => rfl) ?_
  refine pw_getR (b := 40) I1 E (c := 0) (k := 10) (pc' := 17) rfl rfl rfl rfl rfl rfl rfl ?_
  obtain ⟨f2l, f2h, -⟩ := pw_obj (c := 24) I1 rfl
  refine pw_call (m' := 99) (As := [.ref 40]) (rest := []) (ls'' := [some (.ref 40)]) (by omega) E rfl (fun _ => pw_iV rfl rfl rfl rfl (pw_cellI f2h rfl)) (rfl : pm_ent 99 = some (1, 1, 9, 4, pmc_99)) rfl rfl (cm_99 (by omega) I1) ?_
  rintro h2 v2 ⟨I2, E2, rfl⟩
  refine ⟨_, rfl, ?_⟩
  show pw X d h2 143 20 [some (.ref 16), some (.ref 42), some (.ref (16 + c)), some (pw_i a)] [] _
  have e30 : pw_g h2 30 1 = pw_g h1 30 1 := pw_Eg (c := 30) I1 E2 rfl rfl 1
  have EE : pw_E [24, 26, 27, 30, 31, 32, 33, 34, 36, c, c + 1, c + 2, c + 3, c + 4] h h2 := (E1.wk (W' := [24, 26, 27, 30, 31, 32, 33, 34, 36, c, c + 1, c + 2, c + 3, c + 4]) (by simp)).tr (E2.wk (W' := [24, 26, 27, 30, 31, 32, 33, 34, 36, c, c + 1, c + 2, c + 3, c + 4]) (by simp))
  refine pw_ld E (pc' := 21) (st' := [pw_i a]) rfl (fun _ => rfl) ?_
  refine pw_if E (pc' := 32) rfl (by decide) ha hb ?_ ?_
  · intro _
    refine pw_ld E (pc' := 33) (st' := [pw_i a]) rfl (fun _ => rfl) ?_
    refine pw_iret E rfl ?_
    exact ⟨I2, EE.G, a, rfl, ha, hb⟩
  · intro hn
    have hn : ¬ (a ≠ 0) := hn
    refine pw_ld E (pc' := 25) (st' := [.ref (16 + c)]) rfl (fun _ => rfl) ?_
    refine pw_ld E (pc' := 26) (st' := [.ref 16, .ref (16 + c)]) rfl (fun _ => rfl) ?_
    refine pw_getR (b := 46) I2 E (c := 0) (k := 13) (pc' := 29) rfl rfl rfl rfl rfl rfl rfl ?_
    obtain ⟨f3l, f3h, -⟩ := pw_obj (c := c) I2 (pw_Sc_o hc)
    refine pw_call (m' := 73) (As := [.ref (16 + c), .ref 46]) (rest := []) (ls'' := [some (.ref (16 + c)), some (.ref 46), none]) (by omega) E rfl (fun _ => pw_iV rfl rfl rfl rfl (pw_cellI f3h rfl)) (rfl : pm_ent 73 = some (2, 3, 7, 4, pmc_73)) rfl rfl (cm_73 (by omega) I2 c hc (by omega)) ?_
    rintro h3 v3 ⟨I3, G3, rfl⟩
    refine ⟨_, rfl, ?_⟩
    show pw X d h3 143 32 [some (.ref 16), some (.ref 42), some (.ref (16 + c)), some (pw_i a)] [] _
    refine pw_ld E (pc' := 33) (st' := [pw_i a]) rfl (fun _ => rfl) ?_
    refine pw_iret E rfl ?_
    exact ⟨I3, EE.tG (G3.wk (W' := [24, 26, 27, 30, 31, 32, 33, 34, 36, c, c + 1, c + 2, c + 3, c + 4]) (by simp)), a, rfl, ha, hb⟩
set_option maxHeartbeats 4000000 in
theorem cm_143_28 {X : List (Nat × List Value)} {d : Nat} {h : pm_H} (hd : 7 ≤ d) (I : pw_I h) (hX : pw_Xk X) (hR : pw_Xr X) (c : Nat) (hc : pw_Sc c) : pw X d h 143 0 [some (.ref 16), some (.ref 44), some (.ref (16 + c)), none] [] (fun h' v => pw_I h' ∧ pw_G [24, 28, 29, 30, 31, 32, 33, 34, 36, c, c + 1, c + 2, c + 3, c + 4] h h' ∧ ∃ a : Int, v = .inl (some (pw_i a)) ∧ (-2147483648) ≤ a ∧ a ≤ 2147483647) := by
  have E : pm_ent 143 = some (3, 4, 11, 0, pmc_143) := rfl
  refine pw_ld E (pc' := 1) (st' := [.ref 44]) rfl (fun _ => rfl) ?_
  refine pw_ld E (pc' := 2) (st' := [.ref 16, .ref 44]) rfl (fun _ => rfl) ?_
  refine pw_getR (b := 40) I E (c := 0) (k := 10) (pc' := 5) rfl rfl rfl rfl rfl rfl rfl ?_
  refine pw_ld E (pc' := 6) (st' := [.ref 16, .ref 40, .ref 44]) rfl (fun _ => rfl) ?_
  refine pw_getR (b := 46) I E (c := 0) (k := 13) (pc' := 9) rfl rfl rfl rfl rfl rfl rfl ?_
  obtain ⟨f1l, f1h, -⟩ := pw_obj (c := 28) I rfl
  refine pw_call (m' := 44) (As := [.ref 44, .ref 40, .ref 46]) (rest := []) (ls'' := [some (.ref 44), some (.ref 40), some (.ref 46), none, none]) (by omega) E rfl (fun _ => pw_iV rfl rfl rfl rfl (pw_cellI f1h rfl)) (rfl : pm_ent 44 = some (3, 5, 5, 0, pmc_44)) rfl rfl (cm_44_28 (by omega) I hX hR) ?_
  rintro h1 v1 ⟨I1, E1, a, rfl, ha, hb, hz⟩
  refine ⟨_, rfl, ?_⟩
  show pw X d h1 143 12 [some (.ref 16), some (.ref 44), some (.ref (16 + c)), none] [pw_i a] _
  refine pw_istn E (pc' := 13) (ls' := [some (.ref 16), some (.ref 44), some (.ref (16 + c)), some (pw_i a)]) rfl rfl rfl rfl ?_
  refine pw_ld E (pc' := 14) (st' := [.ref 16]) rfl (fun _ => rfl) ?_
  refine pw_getR (b := 40) I1 E (c := 0) (k := 10) (pc' := 17) rfl rfl rfl rfl rfl rfl rfl ?_
  obtain ⟨f2l, f2h, -⟩ := pw_obj (c := 24) I1 rfl
  refine pw_call (m' := 99) (As := [.ref 40]) (rest := []) (ls'' := [some (.ref 40)]) (by omega) E rfl (fun _ => pw_iV rfl rfl rfl rfl (pw_cellI f2h rfl)) (rfl : pm_ent 99 = some (1, 1, 9, 4, pmc_99)) rfl rfl (cm_99 (by omega) I1) ?_
  rintro h2 v2 ⟨I2, E2, rfl⟩
  refine ⟨_, rfl, ?_⟩
  show pw X d h2 143 20 [some (.ref 16), some (.ref 44), some (.ref (16 + c)), some (pw_i a)] [] _
  have e30 : pw_g h2 30 1 = pw_g h1 30 1 := pw_Eg (c := 30) I1 E2 rfl rfl 1
  have EE : pw_E [24, 28, 29, 30, 31, 32, 33, 34, 36, c, c + 1, c + 2, c + 3, c + 4] h h2 := (E1.wk (W' := [24, 28, 29, 30, 31, 32, 33, 34, 36, c, c + 1, c + 2, c + 3, c + 4]) (by simp)).tr (E2.wk (W' := [24, 28, 29, 30, 31, 32, 33, 34, 36, c, c + 1, c + 2, c + 3, c + 4]) (by simp))
  refine pw_ld E (pc' := 21) (st' := [pw_i a]) rfl (fun _ => rfl) ?_
  refine pw_if E (pc' := 32) rfl (by decide) ha hb ?_ ?_
  · intro _
    refine pw_ld E (pc' := 33) (st' := [pw_i a]) rfl (fun _ => rfl) ?_
    refine pw_iret E rfl ?_
    exact ⟨I2, EE.G, a, rfl, ha, hb⟩
  · intro hn
    have hn : ¬ (a ≠ 0) := hn
    refine pw_ld E (pc' := 25) (st' := [.ref (16 + c)]) rfl (fun _ => rfl) ?_
    refine pw_ld E (pc' := 26) (st' := [.ref 16, .ref (16 + c)]) rfl (fun _ => rfl) ?_
    refine pw_getR (b := 46) I2 E (c := 0) (k := 13) (pc' := 29) rfl rfl rfl rfl rfl rfl rfl ?_
    obtain ⟨f3l, f3h, -⟩ := pw_obj (c := c) I2 (pw_Sc_o hc)
    refine pw_call (m' := 73) (As := [.ref (16 + c), .ref 46]) (rest := []) (ls'' := [some (.ref (16 + c)), some (.ref 46), none]) (by omega) E rfl (fun _ => pw_iV rfl rfl rfl rfl (pw_cellI f3h rfl)) (rfl : pm_ent 73 = some (2, 3, 7, 4, pmc_73)) rfl rfl (cm_73 (by omega) I2 c hc (by omega)) ?_
    rintro h3 v3 ⟨I3, G3, rfl⟩
    refine ⟨_, rfl, ?_⟩
    show pw X d h3 143 32 [some (.ref 16), some (.ref 44), some (.ref (16 + c)), some (pw_i a)] [] _
    refine pw_ld E (pc' := 33) (st' := [pw_i a]) rfl (fun _ => rfl) ?_
    refine pw_iret E rfl ?_
    exact ⟨I3, EE.tG (G3.wk (W' := [24, 28, 29, 30, 31, 32, 33, 34, 36, c, c + 1, c + 2, c + 3, c + 4]) (by simp)), a, rfl, ha, hb⟩
/-- the cells that law and writer of the class may write -/
def pw_WL : List Nat := [24, 26, 27, 28, 29, 30, 31, 32, 33, 34, 36] ++ (List.range 56).map (fun j => 39 + j)
set_option maxHeartbeats 4000000 in
theorem cm_141 {X : List (Nat × List Value)} {d : Nat} {h : pm_H} (hd : 8 ≤ d) (I : pw_I h) (hX : pw_Xk X) (hR : pw_Xr X) (l : Int) (hl1 : (-2147483648) ≤ l) (hl2 : l ≤ 2147483647) : pw X d h 141 0 [some (.ref 16), some (pw_i l)] [] (fun h' v => pw_I h' ∧ pw_G pw_WL h h' ∧ ∃ a : Int, v = .inl (some (pw_i a)) ∧ (-2147483648) ≤ a ∧ a ≤ 2147483647) := by
  have E : pm_ent 141 = some (2, 2, 11, 0, pmc_141) := rfl
  refine pw_ld E (pc' := 1) (st' := [pw_i l]) rfl (fun _ => rfl) ?_
  refine pw_call (m' := 142) (As := [pw_i l]) (rest := []) (ls'' := [some (pw_i l)]) (by omega) E rfl (fun _ => pw_iS rfl rfl rfl) (rfl : pm_ent 142 = some (1, 1, 11, 1, pmc_142)) rfl rfl (cm_142 (by omega) I (l) (by omega) (by omega)) ?_
  rintro u v ⟨rfl, x, rfl, hxa, hxb, hxr⟩
  refine ⟨_, rfl, ?_⟩
  show pw X d h 141 4 [some (.ref 16), some (pw_i l)] [pw_i x] _
  refine pw_if E (pc' := 16) rfl (by decide) (by omega) (by omega) ?_ ?_
  · intro hn
    have hn : x ≠ 0 := hn
    refine pw_ld E (pc' := 17) (st' := [.ref 16]) rfl (fun _ => rfl) ?_
    refine pw_ld E (pc' := 18) (st' := [.ref 16, .ref 16]) rfl (fun _ => rfl) ?_
    refine pw_getR (b := 42) I E (c := 0) (k := 11) (pc' := 21) rfl rfl rfl rfl rfl rfl rfl ?_
    refine pw_ld E (pc' := 22) (st' := [.ref 16, .ref 42, .ref 16]) rfl (fun _ => rfl) ?_
    refine pw_getR (b := 53) I E (c := 0) (k := 14) (pc' := 25) rfl rfl rfl rfl rfl rfl rfl ?_
    refine pw_ld E (pc' := 26) (st' := [pw_i l, .ref 53, .ref 42, .ref 16]) rfl (fun _ => rfl) ?_
    obtain ⟨c, hc, hcl⟩ : ∃ c : Nat, pw_Sc c ∧ (((55 : Int) + 14 * ((l.toNat : Nat) : Int)).toNat = 16 + c) := by
      rcases (by omega : l = 0 ∨ l = 1 ∨ l = 2 ∨ l = 3) with rfl | rfl | rfl | rfl
      · exact ⟨39, by unfold pw_Sc; omega, rfl⟩
      · exact ⟨53, by unfold pw_Sc; omega, rfl⟩
      · exact ⟨67, by unfold pw_Sc; omega, rfl⟩
      · exact ⟨81, by unfold pw_Sc; omega, rfl⟩
    refine pw_aald (b := 16 + c) I E (c := 37) (pc' := 27) rfl rfl (by decide) rfl (by decide) (by omega) (by omega) hcl rfl ?_
    obtain ⟨f1l, f1h, -⟩ := pw_obj (c := 0) I rfl
    refine pw_call (m' := 143) (As := [.ref 16, .ref 42, .ref (16 + c)]) (rest := []) (ls'' := [some (.ref 16), some (.ref 42), some (.ref (16 + c)), none]) (by omega) E rfl (fun _ => pw_iV rfl rfl rfl rfl (pw_cellI f1h rfl)) (rfl : pm_ent 143 = some (3, 4, 11, 0, pmc_143)) rfl rfl (cm_143_26 (by omega) I hX hR c hc) ?_
    rintro h1 v1 ⟨I1, G1, a, rfl, ha, hb⟩
    refine ⟨_, rfl, ?_⟩
    show pw X d h1 141 30 [some (.ref 16), some (pw_i l)] [pw_i a] _
    refine pw_iret E rfl ?_
    refine ⟨I1, G1.wk ?_, a, rfl, ha, hb⟩
    rcases hc with rfl | rfl | rfl | rfl | rfl | rfl | rfl | rfl <;> decide
  · intro hn
    refine pw_ld E (pc' := 8) (st' := [.ref 16]) rfl (fun _ => rfl) ?_
    refine pw_getR (b := 40) I E (c := 0) (k := 10) (pc' := 11) rfl rfl rfl rfl rfl rfl rfl ?_
    obtain ⟨f2l, f2h, -⟩ := pw_obj (c := 24) I rfl
    refine pw_call (m' := 99) (As := [.ref 40]) (rest := []) (ls'' := [some (.ref 40)]) (by omega) E rfl (fun _ => pw_iV rfl rfl rfl rfl (pw_cellI f2h rfl)) (rfl : pm_ent 99 = some (1, 1, 9, 4, pmc_99)) rfl rfl (cm_99 (by omega) I) ?_
    rintro h2 v2 ⟨I2, E2, rfl⟩
    refine ⟨_, rfl, ?_⟩
    show pw X d h2 141 14 [some (.ref 16), some (pw_i l)] [] _
    refine pw_ld E (pc' := 15) (st' := [pw_i (-1)]) rfl (fun _ => rfl) ?_
    refine pw_iret E rfl ?_
    exact ⟨I2, (E2.wk (W' := pw_WL) (by decide)).G, -1, rfl, by decide, by decide⟩
set_option maxHeartbeats 4000000 in
theorem cm_153 {X : List (Nat × List Value)} {d : Nat} {h : pm_H} (hd : 8 ≤ d) (I : pw_I h) (hX : pw_Xk X) (hR : pw_Xr X) (l : Int) (hl1 : (-2147483648) ≤ l) (hl2 : l ≤ 2147483647) : pw X d h 153 0 [some (.ref 16), some (pw_i l)] [] (fun h' v => pw_I h' ∧ pw_G pw_WL h h' ∧ ∃ a : Int, v = .inl (some (pw_i a)) ∧ (-2147483648) ≤ a ∧ a ≤ 2147483647) := by
  have E : pm_ent 153 = some (2, 2, 11, 0, pmc_153) := rfl
  refine pw_ld E (pc' := 1) (st' := [pw_i l]) rfl (fun _ => rfl) ?_
  refine pw_call (m' := 142) (As := [pw_i l]) (rest := []) (ls'' := [some (pw_i l)]) (by omega) E rfl (fun _ => pw_iS rfl rfl rfl) (rfl : pm_ent 142 = some (1, 1, 11, 1, pmc_142)) rfl rfl (cm_142 (by omega) I (l) (by omega) (by omega)) ?_
  rintro u v ⟨rfl, x, rfl, hxa, hxb, hxr⟩
  refine ⟨_, rfl, ?_⟩
  show pw X d h 153 4 [some (.ref 16), some (pw_i l)] [pw_i x] _
  refine pw_if E (pc' := 16) rfl (by decide) (by omega) (by omega) ?_ ?_
  · intro hn
    have hn : x ≠ 0 := hn
    refine pw_ld E (pc' := 17) (st' := [.ref 16]) rfl (fun _ => rfl) ?_
    refine pw_ld E (pc' := 18) (st' := [.ref 16, .ref 16]) rfl (fun _ => rfl) ?_
    refine pw_getR (b := 44) I E (c := 0) (k := 12) (pc' := 21) rfl rfl rfl rfl rfl rfl rfl ?_
    refine pw_ld E (pc' := 22) (st' := [.ref 16, .ref 44, .ref 16]) rfl (fun _ => rfl) ?_
    refine pw_getR (b := 54) I E (c := 0) (k := 15) (pc' := 25) rfl rfl rfl rfl rfl rfl rfl ?_
    refine pw_ld E (pc' := 26) (st' := [pw_i l, .ref 54, .ref 44, .ref 16]) rfl (fun _ => rfl) ?_
    obtain ⟨c, hc, hcl⟩ : ∃ c : Nat, pw_Sc c ∧ (((62 : Int) + 14 * ((l.toNat : Nat) : Int)).toNat = 16 + c) := by
      rcases (by omega : l = 0 ∨ l = 1 ∨ l = 2 ∨ l = 3) with rfl | rfl | rfl | rfl
      · exact ⟨46, by unfold pw_Sc; omega, rfl⟩
      · exact ⟨60, by unfold pw_Sc; omega, rfl⟩
      · exact ⟨74, by unfold pw_Sc; omega, rfl⟩
      · exact ⟨88, by unfold pw_Sc; omega, rfl⟩
    refine pw_aald (b := 16 + c) I E (c := 38) (pc' := 27) rfl rfl (by decide) rfl (by decide) (by omega) (by omega) hcl rfl ?_
    obtain ⟨f1l, f1h, -⟩ := pw_obj (c := 0) I rfl
    refine pw_call (m' := 143) (As := [.ref 16, .ref 44, .ref (16 + c)]) (rest := []) (ls'' := [some (.ref 16), some (.ref 44), some (.ref (16 + c)), none]) (by omega) E rfl (fun _ => pw_iV rfl rfl rfl rfl (pw_cellI f1h rfl)) (rfl : pm_ent 143 = some (3, 4, 11, 0, pmc_143)) rfl rfl (cm_143_28 (by omega) I hX hR c hc) ?_
    rintro h1 v1 ⟨I1, G1, a, rfl, ha, hb⟩
    refine ⟨_, rfl, ?_⟩
    show pw X d h1 153 30 [some (.ref 16), some (pw_i l)] [pw_i a] _
    refine pw_iret E rfl ?_
    refine ⟨I1, G1.wk ?_, a, rfl, ha, hb⟩
    rcases hc with rfl | rfl | rfl | rfl | rfl | rfl | rfl | rfl <;> decide
  · intro hn
    refine pw_ld E (pc' := 8) (st' := [.ref 16]) rfl (fun _ => rfl) ?_
    refine pw_getR (b := 40) I E (c := 0) (k := 10) (pc' := 11) rfl rfl rfl rfl rfl rfl rfl ?_
    obtain ⟨f2l, f2h, -⟩ := pw_obj (c := 24) I rfl
    refine pw_call (m' := 99) (As := [.ref 40]) (rest := []) (ls'' := [some (.ref 40)]) (by omega) E rfl (fun _ => pw_iV rfl rfl rfl rfl (pw_cellI f2h rfl)) (rfl : pm_ent 99 = some (1, 1, 9, 4, pmc_99)) rfl rfl (cm_99 (by omega) I) ?_
    rintro h2 v2 ⟨I2, E2, rfl⟩
    refine ⟨_, rfl, ?_⟩
    show pw X d h2 153 14 [some (.ref 16), some (pw_i l)] [] _
    refine pw_ld E (pc' := 15) (st' := [pw_i (-1)]) rfl (fun _ => rfl) ?_
    refine pw_iret E rfl ?_
    exact ⟨I2, (E2.wk (W' := pw_WL) (by decide)).G, -1, rfl, by decide, by decide⟩
end
