/-! river, exactly (printed by wip/tool/mriver.py) -/
/-- what pick says of a fraction laid in lowest terms -/
theorem pv_pick {U D wt x g0 g1 : Int} (e0 : g0 = Int.tdiv U (pw_gd U D)) (e1 : g1 = Int.tdiv D (pw_gd U D)) (r : (wt = 0 → x = g0) ∧ (wt ≠ 0 → x = g1)) : x = pv_LW U D wt := by
  by_cases q : wt = 0
  · rw [pv_LW0 q, r.1 q, e0]
  · rw [pv_LW1 q, r.2 q, e1]
theorem pv_low {U D wt x : Int} (r : (wt = 0 → x = Int.tdiv U (pw_gd U D)) ∧ (wt ≠ 0 → x = Int.tdiv D (pw_gd U D))) : x = pv_LW U D wt := pv_pick rfl rfl r
theorem pv_tdUB {sd ch : Nat → Int} (hb : ∀ k : Nat, k < 24 → -2000 ≤ ch k ∧ ch k ≤ 2000) (ok : pv_OK sd) : -2304000 ≤ Int.tdiv (pv_U sd ch) (pw_gd (pv_U sd ch) (pv_D sd)) ∧ Int.tdiv (pv_U sd ch) (pw_gd (pv_U sd ch) (pv_D sd)) ≤ 2304000 ∧ 0 ≤ Int.tdiv (pv_D sd) (pw_gd (pv_U sd ch) (pv_D sd)) ∧ Int.tdiv (pv_D sd) (pw_gd (pv_U sd ch) (pv_D sd)) ≤ 576 := by
  obtain ⟨u1, u2, u3, u4, u5⟩ := pv_UB (sd := sd) hb
  have d1 := u5 ok
  have gp := pw_gd_pos (x := pv_U sd ch) (y := pv_D sd) (by omega)
  have t1 := pw_tdB (a := pv_U sd ch) (b := pw_gd (pv_U sd ch) (pv_D sd)) (A := 2304000) (by omega) (by omega) (by omega)
  have t2 := pw_tdB (a := pv_D sd) (b := pw_gd (pv_U sd ch) (pv_D sd)) (A := 576) (by omega) (by omega) (by omega)
  omega

set_option maxHeartbeats 4000000 in
theorem cm_171_s {X : List (Nat × List Value)} {d : Nat} {h : pm_H} (hd : 5 ≤ d) (I : pw_I h) (b : Int) (hb1 : (-2147483648) ≤ b) (hb2 : b ≤ 2147483647) (e : Int) (he1 : (-2147483648) ≤ e) (he2 : e ≤ 2147483647) (wo : Int) (hwo1 : (-2147483648) ≤ wo) (hwo2 : wo ≤ 2147483647) (wt : Int) (hwt1 : (-2147483648) ≤ wt) (hwt2 : wt ≤ 2147483647) : pw X d h 171 0 [some (.ref 16), some (pw_i b), some (pw_i e), some (pw_i wo), some (pw_i wt), none] [] (fun h' v => pw_I h' ∧ pw_E [17, 18, 22] h h' ∧ ((v = .inr () ∧ (¬ (0 ≤ b ∧ b ≤ 11 ∧ 0 ≤ e ∧ e ≤ 11 ∧ b ≠ e ∧ 0 ≤ wt ∧ wt ≤ 1 ∧ (wo = -1 ∨ (0 ≤ wo ∧ wo ≤ 23 ∧ pw_g h 2 wo.toNat = 1))) ∨ ¬ pv_OK (pv_lo (pv_sdc h b e) wo))) ∨ (∃ a : Int, v = .inl (some (.long (Int64.ofInt a))) ∧ (-1099511627776) ≤ a ∧ a ≤ 1099511627776 ∧ ((0 ≤ b ∧ b ≤ 11 ∧ 0 ≤ e ∧ e ≤ 11 ∧ b ≠ e ∧ 0 ≤ wt ∧ wt ≤ 1 ∧ (wo = -1 ∨ (0 ≤ wo ∧ wo ≤ 23 ∧ pw_g h 2 wo.toNat = 1))) ∧ pv_OK (pv_lo (pv_sdc h b e) wo) ∧ a = pv_LW (pv_U (pv_lo (pv_sdc h b e) wo) (pv_chc h b e)) (pv_D (pv_lo (pv_sdc h b e) wo)) wt)))) := by
  have E : pm_ent 171 = some (5, 6, 11, 2, pmc_171) := rfl
  have E0 : pw_E [17, 18, 22] h h := pw_E.rf _ _
  refine pw_ld E (pc' := 1) (st' := [pw_i wo]) rfl (fun _ => rfl) ?_
  refine pw_ld E (pc' := 2) (st' := [pw_i ((-1)), pw_i wo]) rfl (fun _ => rfl) ?_
  refine pw_if2 E (pc' := 9) rfl (by decide) (by omega) (by omega) (by decide) (by decide) ?_ ?_
  · intro hc1
    have hc1 : wo ≠ ((-1) : Int) := hc1
    refine pw_ld E (pc' := 10) (st' := [pw_i 0]) rfl (fun _ => rfl) ?_
    refine pw_ist E (pc' := 12) (ls' := [some (.ref 16), some (pw_i b), some (pw_i e), some (pw_i wo), some (pw_i wt), some (pw_i 0)]) rfl rfl rfl rfl ?_
    refine pw_ld E (pc' := 13) (st' := [pw_i b]) rfl (fun _ => rfl) ?_
    refine pw_ld E (pc' := 14) (st' := [pw_i e, pw_i b]) rfl (fun _ => rfl) ?_
    refine pw_call (m' := 131) (As := [pw_i b, pw_i e]) (rest := []) (ls'' := [some (pw_i b), some (pw_i e)]) (by omega) E rfl (fun _ => pw_iS rfl rfl rfl) (rfl : pm_ent 131 = some (2, 2, 11, 1, pmc_131)) rfl rfl (cm_131_s (by omega) I (b) (by omega) (by omega) (e) (by omega) (by omega)) ?_
    rintro u3 v2 ⟨rfl, x4, rfl, hx4a, hx4b, hx4r⟩
    refine ⟨_, rfl, ?_⟩
    show pw X d h 171 17 [some (.ref 16), some (pw_i b), some (pw_i e), some (pw_i wo), some (pw_i wt), some (pw_i 0)] [pw_i x4] _
    have hx4r : (x4 = 1 ∧ 0 ≤ b ∧ b ≤ 11 ∧ 0 ≤ e ∧ e ≤ 11 ∧ b ≠ e) ∨ (x4 = 0 ∧ ¬ (0 ≤ b ∧ b ≤ 11 ∧ 0 ≤ e ∧ e ≤ 11 ∧ b ≠ e)) := hx4r
    rcases (by omega : x4 = 1 ∨ x4 = 0) with hb5 | hb5
    · have hb5 : x4 = 1 := by omega
      refine pw_if E (pc' := 41) rfl (by decide) (by omega) (by omega) ?_ ?_
      · intro hc6
        have hc6 : x4 = (0 : Int) := hc6
        exfalso; omega
      · intro hc7
        have hc7 : ¬ (x4 = (0 : Int)) := hc7
        refine pw_ld E (pc' := 22) (st' := [pw_i wt]) rfl (fun _ => rfl) ?_
        refine pw_call (m' := 137) (As := [pw_i wt]) (rest := []) (ls'' := [some (pw_i wt)]) (by omega) E rfl (fun _ => pw_iS rfl rfl rfl) (rfl : pm_ent 137 = some (1, 1, 11, 1, pmc_137)) rfl rfl (cm_137 (by omega) I (wt) (by omega) (by omega)) ?_
        rintro u9 v8 ⟨rfl, x10, rfl, hx10a, hx10b, hx10r⟩
        refine ⟨_, rfl, ?_⟩
        show pw X d h 171 25 [some (.ref 16), some (pw_i b), some (pw_i e), some (pw_i wo), some (pw_i wt), some (pw_i 0)] [pw_i x10] _
        have hx10r : (x10 = 1 ∧ 0 ≤ wt ∧ wt ≤ 1) ∨ (x10 = 0 ∧ ¬ (0 ≤ wt ∧ wt ≤ 1)) := hx10r
        rcases (by omega : x10 = 1 ∨ x10 = 0) with hb11 | hb11
        · have hb11 : x10 = 1 := by omega
          refine pw_if E (pc' := 41) rfl (by decide) (by omega) (by omega) ?_ ?_
          · intro hc12
            have hc12 : x10 = (0 : Int) := hc12
            exfalso; omega
          · intro hc13
            have hc13 : ¬ (x10 = (0 : Int)) := hc13
            refine pw_ld E (pc' := 30) (st' := [pw_i 0]) rfl (fun _ => rfl) ?_
            refine pw_if E (pc' := 49) rfl (by decide) (by decide) (by decide) ?_ ?_
            · intro hc14
              have hc14 : (0 : Int) ≠ (0 : Int) := hc14
              exfalso; omega
            · intro hc15
              have hc15 : ¬ ((0 : Int) ≠ (0 : Int)) := hc15
              refine pw_ld E (pc' := 34) (st' := [.ref 16]) rfl (fun _ => rfl) ?_
              refine pw_ld E (pc' := 35) (st' := [pw_i wo, .ref 16]) rfl (fun _ => rfl) ?_
              obtain ⟨f16l, f16h, -⟩ := pw_obj (c := 0) I rfl
              refine pw_call (m' := 124) (As := [.ref 16, pw_i wo]) (rest := []) (ls'' := [some (.ref 16), some (pw_i wo)]) (by omega) E rfl (fun _ => pw_iV rfl rfl rfl rfl (pw_cellI f16h rfl)) (rfl : pm_ent 124 = some (2, 2, 11, 1, pmc_124)) rfl rfl (cm_124_t (by omega) I (wo) (by omega) (by omega)) ?_
              rintro u18 v17 ⟨rfl, x19, rfl, hx19a, hx19b, hx19r⟩
              refine ⟨_, rfl, ?_⟩
              show pw X d h 171 38 [some (.ref 16), some (pw_i b), some (pw_i e), some (pw_i wo), some (pw_i wt), some (pw_i 0)] [pw_i x19] _
              have hx19r : (x19 = 1 ∧ 0 ≤ wo ∧ wo ≤ 23 ∧ pw_g h 2 wo.toNat = 1) ∨ (x19 = 0 ∧ ¬ (0 ≤ wo ∧ wo ≤ 23 ∧ pw_g h 2 wo.toNat = 1)) := hx19r
              rcases (by omega : x19 = 1 ∨ x19 = 0) with hb20 | hb20
              · have hb20 : x19 = 1 := by omega
                refine pw_if E (pc' := 49) rfl (by decide) (by omega) (by omega) ?_ ?_
                · intro hc21
                  have hc21 : x19 ≠ (0 : Int) := hc21
                  refine pw_ld E (pc' := 50) (st' := [.ref 16]) rfl (fun _ => rfl) ?_
                  refine pw_ld E (pc' := 51) (st' := [pw_i b, .ref 16]) rfl (fun _ => rfl) ?_
                  refine pw_ld E (pc' := 52) (st' := [pw_i e, pw_i b, .ref 16]) rfl (fun _ => rfl) ?_
                  obtain ⟨f22l, f22h, -⟩ := pw_obj (c := 0) I rfl
                  refine pw_call (m' := 138) (As := [.ref 16, pw_i b, pw_i e]) (rest := []) (ls'' := [some (.ref 16), some (pw_i b), some (pw_i e), none]) (by omega) E rfl (fun _ => pw_iV rfl rfl rfl rfl (pw_cellI f22h rfl)) (rfl : pm_ent 138 = some (3, 4, 11, 4, pmc_138)) rfl rfl (cm_138_s (by omega) I (b) (by omega) (by omega) (e) (by omega) (by omega)) ?_
                  rintro h23 v24 ⟨h23I, h23E, hqfill, rfl⟩
                  refine ⟨_, rfl, ?_⟩
                  have h23F := E0.tr (h23E.wk (W' := [17, 18, 22]) (by first | rfl | simp))
                  show pw X d h23 171 55 [some (.ref 16), some (pw_i b), some (pw_i e), some (pw_i wo), some (pw_i wt), some (pw_i 0)] [] _
                  refine pw_ld E (pc' := 57) (st' := [pw_i 0]) rfl (fun _ => rfl) ?_
                  refine pw_if E (pc' := 68) rfl (by decide) (by decide) (by decide) ?_ ?_
                  · intro hc25
                    have hc25 : (0 : Int) ≠ (0 : Int) := hc25
                    exfalso; omega
                  · intro hc26
                    have hc26 : ¬ ((0 : Int) ≠ (0 : Int)) := hc26
                    refine pw_ld E (pc' := 61) (st' := [.ref 16]) rfl (fun _ => rfl) ?_
                    refine pw_getR (b := 32) h23I E (c := 0) (k := 7) (pc' := 64) rfl rfl rfl rfl rfl rfl rfl ?_
                    refine pw_ld E (pc' := 65) (st' := [pw_i wo, .ref 32]) rfl (fun _ => rfl) ?_
                    obtain ⟨f27l, f27h, -⟩ := pw_obj (c := 16) h23I rfl
                    refine pw_call (m' := 93) (As := [.ref 32, pw_i wo]) (rest := []) (ls'' := [some (.ref 32), some (pw_i wo)]) (by omega) E rfl (fun _ => pw_iV rfl rfl rfl rfl (pw_cellI f27h rfl)) (rfl : pm_ent 93 = some (2, 2, 8, 4, pmc_93)) rfl rfl (cm_93_s (by omega) h23I (wo) (by omega) (by omega)) ?_
                    rintro h28 v29 ⟨h28I, h28E, hqleave, rfl⟩
                    refine ⟨_, rfl, ?_⟩
                    have h28F := h23F.tr (h28E.wk (W' := [17, 18, 22]) (by first | rfl | simp))
                    show pw X d h28 171 68 [some (.ref 16), some (pw_i b), some (pw_i e), some (pw_i wo), some (pw_i wt), some (pw_i 0)] [] _
                    have hFL : pv_FL h28 (pv_lo (pv_sdc h b e) wo) (pv_chc h b e) 24 := pv_FL.lo hqfill (by omega) hqleave (fun j => pw_Eg (c := 18) h23I h28E rfl rfl j)
                    have hB : pv_Bd h28 := hFL.bd (pv_chcB I (by omega) (by omega) (by omega) (by omega))
                    refine pw_ld E (pc' := 69) (st' := [.ref 16]) rfl (fun _ => rfl) ?_
                    refine pw_getR (b := 32) h28I E (c := 0) (k := 7) (pc' := 72) rfl rfl rfl rfl rfl rfl rfl ?_
                    refine pw_ld E (pc' := 73) (st' := [.ref 16, .ref 32]) rfl (fun _ => rfl) ?_
                    refine pw_getR (b := 38) h28I E (c := 0) (k := 8) (pc' := 76) rfl rfl rfl rfl rfl rfl rfl ?_
                    obtain ⟨f30l, f30h, -⟩ := pw_obj (c := 16) h28I rfl
                    refine pw_call (m' := 83) (As := [.ref 32, .ref 38]) (rest := []) (ls'' := [some (.ref 32), some (.ref 38), none, none, none, none]) (by omega) E rfl (fun _ => pw_iV rfl rfl rfl rfl (pw_cellI f30h rfl)) (rfl : pm_ent 83 = some (2, 6, 8, 1, pmc_83)) rfl rfl (cm_83_22s (by omega) h28I hB) ?_
                    rintro h31 v32 ⟨h31I, h31E, x33, rfl, hx33a, hx33b, hx33r⟩
                    refine ⟨_, rfl, ?_⟩
                    have h31F := h28F.tr (h31E.wk (W' := [17, 18, 22]) (by first | rfl | simp))
                    show pw X d h31 171 79 [some (.ref 16), some (pw_i b), some (pw_i e), some (pw_i wo), some (pw_i wt), some (pw_i 0)] [pw_i x33] _
                    have hx33r : (x33 = 0 ∧ ¬ pv_OK (pw_g h28 17)) ∨ (x33 = 1 ∧ pv_OK (pw_g h28 17) ∧ pw_gm h31 22 0 = Int.tdiv (pv_U (pw_g h28 17) (pw_g h28 18)) (pw_gd (pv_U (pw_g h28 17) (pw_g h28 18)) (pv_D (pw_g h28 17))) ∧ pw_gm h31 22 1 = Int.tdiv (pv_D (pw_g h28 17)) (pw_gd (pv_U (pw_g h28 17) (pw_g h28 18)) (pv_D (pw_g h28 17)))) := hx33r
                    rcases (by omega : x33 = 1 ∨ x33 = 0) with hb34 | hb34
                    · have hb34 : x33 = 1 := by omega
                      refine pw_if E (pc' := 90) rfl (by decide) (by omega) (by omega) ?_ ?_
                      · intro hc35
                        have hc35 : x33 ≠ (0 : Int) := hc35
                        obtain ⟨-, hok0, hm0, hm1⟩ := hx33r.resolve_left (fun q => by have := q.1; omega)
                        have hok : pv_OK (pv_lo (pv_sdc h b e) wo) := hFL.eq.2.2.1.mp hok0
                        rw [hFL.eq.1, hFL.eq.2.1] at hm0 hm1
                        have htd := pv_tdUB (sd := pv_lo (pv_sdc h b e) wo) (ch := pv_chc h b e) (pv_chcB I (by omega) (by omega) (by omega) (by omega)) hok
                        refine pw_ld E (pc' := 91) (st' := [.ref 16]) rfl (fun _ => rfl) ?_
                        refine pw_getR (b := 38) h31I E (c := 0) (k := 8) (pc' := 94) rfl rfl rfl rfl rfl rfl rfl ?_
                        refine pw_ld E (pc' := 96) (st' := [pw_i wt, .ref 38]) rfl (fun _ => rfl) ?_
                        obtain ⟨f36l, f36h, -⟩ := pw_obj (c := 22) h31I rfl
                        refine pw_call (m' := 9) (As := [.ref 38, pw_i wt]) (rest := []) (ls'' := [some (.ref 38), some (pw_i wt)]) (by omega) E rfl (fun _ => pw_iV rfl rfl rfl rfl (pw_cellI f36h rfl)) (rfl : pm_ent 9 = some (2, 2, 1, 2, pmc_9)) rfl rfl (cm_9_22g (by omega) h31I (wt) (by omega) (by omega) (by omega) (by omega) (by omega) (by omega)) ?_
                        rintro u38 v37 ⟨rfl, x39, rfl, hx39a, hx39b, hx39r⟩
                        refine ⟨_, rfl, ?_⟩
                        show pw X d h31 171 99 [some (.ref 16), some (pw_i b), some (pw_i e), some (pw_i wo), some (pw_i wt), some (pw_i 0)] [.long (Int64.ofInt x39)] _
                        have hx39r : (wt = 0 → x39 = pw_gm h31 22 0) ∧ (wt ≠ 0 → x39 = pw_gm h31 22 1) := hx39r
                        refine pw_lret E rfl ?_
                        exact ⟨h31I, h31F, Or.inr ⟨_, rfl, by omega, by omega, by omega, hok, (pv_pick hm0 hm1 hx39r)⟩⟩
                      · intro hc40
                        have hc40 : ¬ (x33 ≠ (0 : Int)) := hc40
                        exfalso; omega
                    · have hb41 : x33 = 0 := by omega
                      refine pw_if E (pc' := 90) rfl (by decide) (by omega) (by omega) ?_ ?_
                      · intro hc42
                        have hc42 : x33 ≠ (0 : Int) := hc42
                        exfalso; omega
                      · intro hc43
                        have hc43 : ¬ (x33 ≠ (0 : Int)) := hc43
                        refine pw_thr E rfl rfl h31I.2 ?_
                        exact ⟨h31I, h31F, Or.inl ⟨rfl, Or.inr (fun q => (hx33r.resolve_right (fun q => by have := q.1; omega)).2 (hFL.eq.2.2.1.mpr q))⟩⟩
                · intro hc44
                  have hc44 : ¬ (x19 ≠ (0 : Int)) := hc44
                  exfalso; omega
              · have hb45 : x19 = 0 := by omega
                refine pw_if E (pc' := 49) rfl (by decide) (by omega) (by omega) ?_ ?_
                · intro hc46
                  have hc46 : x19 ≠ (0 : Int) := hc46
                  exfalso; omega
                · intro hc47
                  have hc47 : ¬ (x19 ≠ (0 : Int)) := hc47
                  refine pw_thr E rfl rfl I.2 ?_
                  exact ⟨I, E0, Or.inl ⟨rfl, Or.inl (by omega)⟩⟩
        · have hb48 : x10 = 0 := by omega
          refine pw_if E (pc' := 41) rfl (by decide) (by omega) (by omega) ?_ ?_
          · intro hc49
            have hc49 : x10 = (0 : Int) := hc49
            refine pw_thr E rfl rfl I.2 ?_
            exact ⟨I, E0, Or.inl ⟨rfl, Or.inl (by omega)⟩⟩
          · intro hc50
            have hc50 : ¬ (x10 = (0 : Int)) := hc50
            exfalso; omega
    · have hb51 : x4 = 0 := by omega
      refine pw_if E (pc' := 41) rfl (by decide) (by omega) (by omega) ?_ ?_
      · intro hc52
        have hc52 : x4 = (0 : Int) := hc52
        refine pw_thr E rfl rfl I.2 ?_
        exact ⟨I, E0, Or.inl ⟨rfl, Or.inl (by omega)⟩⟩
      · intro hc53
        have hc53 : ¬ (x4 = (0 : Int)) := hc53
        exfalso; omega
  · intro hc54
    have hc54 : ¬ (wo ≠ ((-1) : Int)) := hc54
    refine pw_ld E (pc' := 6) (st' := [pw_i 1]) rfl (fun _ => rfl) ?_
    refine pw_goto E (pc' := 10) rfl (by decide) ?_
    refine pw_ist E (pc' := 12) (ls' := [some (.ref 16), some (pw_i b), some (pw_i e), some (pw_i wo), some (pw_i wt), some (pw_i 1)]) rfl rfl rfl rfl ?_
    refine pw_ld E (pc' := 13) (st' := [pw_i b]) rfl (fun _ => rfl) ?_
    refine pw_ld E (pc' := 14) (st' := [pw_i e, pw_i b]) rfl (fun _ => rfl) ?_
    refine pw_call (m' := 131) (As := [pw_i b, pw_i e]) (rest := []) (ls'' := [some (pw_i b), some (pw_i e)]) (by omega) E rfl (fun _ => pw_iS rfl rfl rfl) (rfl : pm_ent 131 = some (2, 2, 11, 1, pmc_131)) rfl rfl (cm_131_s (by omega) I (b) (by omega) (by omega) (e) (by omega) (by omega)) ?_
    rintro u56 v55 ⟨rfl, x57, rfl, hx57a, hx57b, hx57r⟩
    refine ⟨_, rfl, ?_⟩
    show pw X d h 171 17 [some (.ref 16), some (pw_i b), some (pw_i e), some (pw_i wo), some (pw_i wt), some (pw_i 1)] [pw_i x57] _
    have hx57r : (x57 = 1 ∧ 0 ≤ b ∧ b ≤ 11 ∧ 0 ≤ e ∧ e ≤ 11 ∧ b ≠ e) ∨ (x57 = 0 ∧ ¬ (0 ≤ b ∧ b ≤ 11 ∧ 0 ≤ e ∧ e ≤ 11 ∧ b ≠ e)) := hx57r
    rcases (by omega : x57 = 1 ∨ x57 = 0) with hb58 | hb58
    · have hb58 : x57 = 1 := by omega
      refine pw_if E (pc' := 41) rfl (by decide) (by omega) (by omega) ?_ ?_
      · intro hc59
        have hc59 : x57 = (0 : Int) := hc59
        exfalso; omega
      · intro hc60
        have hc60 : ¬ (x57 = (0 : Int)) := hc60
        refine pw_ld E (pc' := 22) (st' := [pw_i wt]) rfl (fun _ => rfl) ?_
        refine pw_call (m' := 137) (As := [pw_i wt]) (rest := []) (ls'' := [some (pw_i wt)]) (by omega) E rfl (fun _ => pw_iS rfl rfl rfl) (rfl : pm_ent 137 = some (1, 1, 11, 1, pmc_137)) rfl rfl (cm_137 (by omega) I (wt) (by omega) (by omega)) ?_
        rintro u62 v61 ⟨rfl, x63, rfl, hx63a, hx63b, hx63r⟩
        refine ⟨_, rfl, ?_⟩
        show pw X d h 171 25 [some (.ref 16), some (pw_i b), some (pw_i e), some (pw_i wo), some (pw_i wt), some (pw_i 1)] [pw_i x63] _
        have hx63r : (x63 = 1 ∧ 0 ≤ wt ∧ wt ≤ 1) ∨ (x63 = 0 ∧ ¬ (0 ≤ wt ∧ wt ≤ 1)) := hx63r
        rcases (by omega : x63 = 1 ∨ x63 = 0) with hb64 | hb64
        · have hb64 : x63 = 1 := by omega
          refine pw_if E (pc' := 41) rfl (by decide) (by omega) (by omega) ?_ ?_
          · intro hc65
            have hc65 : x63 = (0 : Int) := hc65
            exfalso; omega
          · intro hc66
            have hc66 : ¬ (x63 = (0 : Int)) := hc66
            refine pw_ld E (pc' := 30) (st' := [pw_i 1]) rfl (fun _ => rfl) ?_
            refine pw_if E (pc' := 49) rfl (by decide) (by decide) (by decide) ?_ ?_
            · intro hc67
              have hc67 : (1 : Int) ≠ (0 : Int) := hc67
              refine pw_ld E (pc' := 50) (st' := [.ref 16]) rfl (fun _ => rfl) ?_
              refine pw_ld E (pc' := 51) (st' := [pw_i b, .ref 16]) rfl (fun _ => rfl) ?_
              refine pw_ld E (pc' := 52) (st' := [pw_i e, pw_i b, .ref 16]) rfl (fun _ => rfl) ?_
              obtain ⟨f68l, f68h, -⟩ := pw_obj (c := 0) I rfl
              refine pw_call (m' := 138) (As := [.ref 16, pw_i b, pw_i e]) (rest := []) (ls'' := [some (.ref 16), some (pw_i b), some (pw_i e), none]) (by omega) E rfl (fun _ => pw_iV rfl rfl rfl rfl (pw_cellI f68h rfl)) (rfl : pm_ent 138 = some (3, 4, 11, 4, pmc_138)) rfl rfl (cm_138_s (by omega) I (b) (by omega) (by omega) (e) (by omega) (by omega)) ?_
              rintro h69 v70 ⟨h69I, h69E, hqfill, rfl⟩
              refine ⟨_, rfl, ?_⟩
              have h69F := E0.tr (h69E.wk (W' := [17, 18, 22]) (by first | rfl | simp))
              show pw X d h69 171 55 [some (.ref 16), some (pw_i b), some (pw_i e), some (pw_i wo), some (pw_i wt), some (pw_i 1)] [] _
              refine pw_ld E (pc' := 57) (st' := [pw_i 1]) rfl (fun _ => rfl) ?_
              refine pw_if E (pc' := 68) rfl (by decide) (by decide) (by decide) ?_ ?_
              · intro hc71
                have hc71 : (1 : Int) ≠ (0 : Int) := hc71
                have hFL : pv_FL h69 (pv_lo (pv_sdc h b e) wo) (pv_chc h b e) 24 := by rw [show wo = -1 by omega, pv_lo_no]; exact hqfill
                have hB : pv_Bd h69 := hFL.bd (pv_chcB I (by omega) (by omega) (by omega) (by omega))
                refine pw_ld E (pc' := 69) (st' := [.ref 16]) rfl (fun _ => rfl) ?_
                refine pw_getR (b := 32) h69I E (c := 0) (k := 7) (pc' := 72) rfl rfl rfl rfl rfl rfl rfl ?_
                refine pw_ld E (pc' := 73) (st' := [.ref 16, .ref 32]) rfl (fun _ => rfl) ?_
                refine pw_getR (b := 38) h69I E (c := 0) (k := 8) (pc' := 76) rfl rfl rfl rfl rfl rfl rfl ?_
                obtain ⟨f72l, f72h, -⟩ := pw_obj (c := 16) h69I rfl
                refine pw_call (m' := 83) (As := [.ref 32, .ref 38]) (rest := []) (ls'' := [some (.ref 32), some (.ref 38), none, none, none, none]) (by omega) E rfl (fun _ => pw_iV rfl rfl rfl rfl (pw_cellI f72h rfl)) (rfl : pm_ent 83 = some (2, 6, 8, 1, pmc_83)) rfl rfl (cm_83_22s (by omega) h69I hB) ?_
                rintro h73 v74 ⟨h73I, h73E, x75, rfl, hx75a, hx75b, hx75r⟩
                refine ⟨_, rfl, ?_⟩
                have h73F := h69F.tr (h73E.wk (W' := [17, 18, 22]) (by first | rfl | simp))
                show pw X d h73 171 79 [some (.ref 16), some (pw_i b), some (pw_i e), some (pw_i wo), some (pw_i wt), some (pw_i 1)] [pw_i x75] _
                have hx75r : (x75 = 0 ∧ ¬ pv_OK (pw_g h69 17)) ∨ (x75 = 1 ∧ pv_OK (pw_g h69 17) ∧ pw_gm h73 22 0 = Int.tdiv (pv_U (pw_g h69 17) (pw_g h69 18)) (pw_gd (pv_U (pw_g h69 17) (pw_g h69 18)) (pv_D (pw_g h69 17))) ∧ pw_gm h73 22 1 = Int.tdiv (pv_D (pw_g h69 17)) (pw_gd (pv_U (pw_g h69 17) (pw_g h69 18)) (pv_D (pw_g h69 17)))) := hx75r
                rcases (by omega : x75 = 1 ∨ x75 = 0) with hb76 | hb76
                · have hb76 : x75 = 1 := by omega
                  refine pw_if E (pc' := 90) rfl (by decide) (by omega) (by omega) ?_ ?_
                  · intro hc77
                    have hc77 : x75 ≠ (0 : Int) := hc77
                    obtain ⟨-, hok0, hm0, hm1⟩ := hx75r.resolve_left (fun q => by have := q.1; omega)
                    have hok : pv_OK (pv_lo (pv_sdc h b e) wo) := hFL.eq.2.2.1.mp hok0
                    rw [hFL.eq.1, hFL.eq.2.1] at hm0 hm1
                    have htd := pv_tdUB (sd := pv_lo (pv_sdc h b e) wo) (ch := pv_chc h b e) (pv_chcB I (by omega) (by omega) (by omega) (by omega)) hok
                    refine pw_ld E (pc' := 91) (st' := [.ref 16]) rfl (fun _ => rfl) ?_
                    refine pw_getR (b := 38) h73I E (c := 0) (k := 8) (pc' := 94) rfl rfl rfl rfl rfl rfl rfl ?_
                    refine pw_ld E (pc' := 96) (st' := [pw_i wt, .ref 38]) rfl (fun _ => rfl) ?_
                    obtain ⟨f78l, f78h, -⟩ := pw_obj (c := 22) h73I rfl
                    refine pw_call (m' := 9) (As := [.ref 38, pw_i wt]) (rest := []) (ls'' := [some (.ref 38), some (pw_i wt)]) (by omega) E rfl (fun _ => pw_iV rfl rfl rfl rfl (pw_cellI f78h rfl)) (rfl : pm_ent 9 = some (2, 2, 1, 2, pmc_9)) rfl rfl (cm_9_22g (by omega) h73I (wt) (by omega) (by omega) (by omega) (by omega) (by omega) (by omega)) ?_
                    rintro u80 v79 ⟨rfl, x81, rfl, hx81a, hx81b, hx81r⟩
                    refine ⟨_, rfl, ?_⟩
                    show pw X d h73 171 99 [some (.ref 16), some (pw_i b), some (pw_i e), some (pw_i wo), some (pw_i wt), some (pw_i 1)] [.long (Int64.ofInt x81)] _
                    have hx81r : (wt = 0 → x81 = pw_gm h73 22 0) ∧ (wt ≠ 0 → x81 = pw_gm h73 22 1) := hx81r
                    refine pw_lret E rfl ?_
                    exact ⟨h73I, h73F, Or.inr ⟨_, rfl, by omega, by omega, by omega, hok, (pv_pick hm0 hm1 hx81r)⟩⟩
                  · intro hc82
                    have hc82 : ¬ (x75 ≠ (0 : Int)) := hc82
                    exfalso; omega
                · have hb83 : x75 = 0 := by omega
                  refine pw_if E (pc' := 90) rfl (by decide) (by omega) (by omega) ?_ ?_
                  · intro hc84
                    have hc84 : x75 ≠ (0 : Int) := hc84
                    exfalso; omega
                  · intro hc85
                    have hc85 : ¬ (x75 ≠ (0 : Int)) := hc85
                    refine pw_thr E rfl rfl h73I.2 ?_
                    exact ⟨h73I, h73F, Or.inl ⟨rfl, Or.inr (fun q => (hx75r.resolve_right (fun q => by have := q.1; omega)).2 (hFL.eq.2.2.1.mpr q))⟩⟩
              · intro hc86
                have hc86 : ¬ ((1 : Int) ≠ (0 : Int)) := hc86
                exfalso; omega
            · intro hc87
              have hc87 : ¬ ((1 : Int) ≠ (0 : Int)) := hc87
              exfalso; omega
        · have hb88 : x63 = 0 := by omega
          refine pw_if E (pc' := 41) rfl (by decide) (by omega) (by omega) ?_ ?_
          · intro hc89
            have hc89 : x63 = (0 : Int) := hc89
            refine pw_thr E rfl rfl I.2 ?_
            exact ⟨I, E0, Or.inl ⟨rfl, Or.inl (by omega)⟩⟩
          · intro hc90
            have hc90 : ¬ (x63 = (0 : Int)) := hc90
            exfalso; omega
    · have hb91 : x57 = 0 := by omega
      refine pw_if E (pc' := 41) rfl (by decide) (by omega) (by omega) ?_ ?_
      · intro hc92
        have hc92 : x57 = (0 : Int) := hc92
        refine pw_thr E rfl rfl I.2 ?_
        exact ⟨I, E0, Or.inl ⟨rfl, Or.inl (by omega)⟩⟩
      · intro hc93
        have hc93 : ¬ (x57 = (0 : Int)) := hc93
        exfalso; omega
set_option maxHeartbeats 4000000 in
theorem cm_216_s {X : List (Nat × List Value)} {d : Nat} {h : pm_H} (hd : 5 ≤ d) (I : pw_I h) (b : Int) (hb1 : (-2147483648) ≤ b) (hb2 : b ≤ 2147483647) (e : Int) (he1 : (-2147483648) ≤ e) (he2 : e ≤ 2147483647) (wo : Int) (hwo1 : (-2147483648) ≤ wo) (hwo2 : wo ≤ 2147483647) (wt : Int) (hwt1 : (-2147483648) ≤ wt) (hwt2 : wt ≤ 2147483647) : pw X d h 216 0 [some (.ref 141), some (pw_i b), some (pw_i e), some (pw_i wo), some (pw_i wt)] [] (fun h' v => pw_I h' ∧ pw_E [125] h h' ∧ ∃ a : Int, v = .inl (some (.long (Int64.ofInt a))) ∧ (-1099511627776) ≤ a ∧ a ≤ 1099511627776 ∧ ((pw_g h' 125 0 = 1 ∧ (¬ (0 ≤ b ∧ b ≤ 11 ∧ 0 ≤ e ∧ e ≤ 11 ∧ b ≠ e ∧ 0 ≤ wt ∧ wt ≤ 1 ∧ (wo = -1 ∨ (0 ≤ wo ∧ wo ≤ 23 ∧ pw_g h 131 wo.toNat = 1))) ∨ ¬ pv_OK (pv_lo (pv_sdm h b e) wo))) ∨ (pw_g h' 125 0 = 0 ∧ (0 ≤ b ∧ b ≤ 11 ∧ 0 ≤ e ∧ e ≤ 11 ∧ b ≠ e ∧ 0 ≤ wt ∧ wt ≤ 1 ∧ (wo = -1 ∨ (0 ≤ wo ∧ wo ≤ 23 ∧ pw_g h 131 wo.toNat = 1))) ∧ pv_OK (pv_lo (pv_sdm h b e) wo) ∧ a = pv_LW (pv_U (pv_lo (pv_sdm h b e) wo) (pv_chm h b e)) (pv_D (pv_lo (pv_sdm h b e) wo)) wt))) := by
  have E : pm_ent 216 = some (5, 5, 12, 2, pmc_216) := rfl
  have E0 : pw_E [125] h h := pw_E.rf _ _
  refine pw_ld E (pc' := 1) (st' := [.ref 141]) rfl (fun _ => rfl) ?_
  refine pw_ld E (pc' := 2) (st' := [pw_i b, .ref 141]) rfl (fun _ => rfl) ?_
  refine pw_ld E (pc' := 3) (st' := [pw_i e, pw_i b, .ref 141]) rfl (fun _ => rfl) ?_
  refine pw_call (m' := 213) (As := [pw_i b, pw_i e]) (rest := [.ref 141]) (ls'' := [some (pw_i b), some (pw_i e)]) (by omega) E rfl (fun _ => pw_iS rfl rfl rfl) (rfl : pm_ent 213 = some (2, 2, 12, 1, pmc_213)) rfl rfl (cm_213_s (by omega) I (b) (by omega) (by omega) (e) (by omega) (by omega)) ?_
  rintro u2 v1 ⟨rfl, x3, rfl, hx3a, hx3b, hx3r⟩
  refine ⟨_, rfl, ?_⟩
  show pw X d h 216 6 [some (.ref 141), some (pw_i b), some (pw_i e), some (pw_i wo), some (pw_i wt)] [pw_i x3, .ref 141] _
  have hx3r : (x3 = 1 ∧ 0 ≤ b ∧ b ≤ 11 ∧ 0 ≤ e ∧ e ≤ 11 ∧ b ≠ e) ∨ (x3 = 0 ∧ ¬ (0 ≤ b ∧ b ≤ 11 ∧ 0 ≤ e ∧ e ≤ 11 ∧ b ≠ e)) := hx3r
  rcases (by omega : x3 = 1 ∨ x3 = 0) with hb4 | hb4
  · have hb4 : x3 = 1 := by omega
    refine pw_if E (pc' := 44) rfl (by decide) (by omega) (by omega) ?_ ?_
    · intro hc5
      have hc5 : x3 = (0 : Int) := hc5
      exfalso; omega
    · intro hc6
      have hc6 : ¬ (x3 = (0 : Int)) := hc6
      refine pw_ld E (pc' := 10) (st' := [pw_i wo, .ref 141]) rfl (fun _ => rfl) ?_
      refine pw_ld E (pc' := 11) (st' := [pw_i ((-1)), pw_i wo, .ref 141]) rfl (fun _ => rfl) ?_
      refine pw_if2 E (pc' := 22) rfl (by decide) (by omega) (by omega) (by decide) (by decide) ?_ ?_
      · intro hc7
        have hc7 : wo = ((-1) : Int) := hc7
        refine pw_ld E (pc' := 24) (st' := [pw_i wt, .ref 141]) rfl (fun _ => rfl) ?_
        refine pw_call (m' := 217) (As := [pw_i wt]) (rest := [.ref 141]) (ls'' := [some (pw_i wt)]) (by omega) E rfl (fun _ => pw_iS rfl rfl rfl) (rfl : pm_ent 217 = some (1, 1, 12, 1, pmc_217)) rfl rfl (cm_217 (by omega) I (wt) (by omega) (by omega)) ?_
        rintro u9 v8 ⟨rfl, x10, rfl, hx10a, hx10b, hx10r⟩
        refine ⟨_, rfl, ?_⟩
        show pw X d h 216 27 [some (.ref 141), some (pw_i b), some (pw_i e), some (pw_i wo), some (pw_i wt)] [pw_i x10, .ref 141] _
        have hx10r : (x10 = 1 ∧ 0 ≤ wt ∧ wt ≤ 1) ∨ (x10 = 0 ∧ ¬ (0 ≤ wt ∧ wt ≤ 1)) := hx10r
        rcases (by omega : x10 = 1 ∨ x10 = 0) with hb11 | hb11
        · have hb11 : x10 = 1 := by omega
          refine pw_if E (pc' := 44) rfl (by decide) (by omega) (by omega) ?_ ?_
          · intro hc12
            have hc12 : x10 = (0 : Int) := hc12
            exfalso; omega
          · intro hc13
            have hc13 : ¬ (x10 = (0 : Int)) := hc13
            refine pw_ld E (pc' := 31) (st' := [.ref 141, .ref 141]) rfl (fun _ => rfl) ?_
            refine pw_ld E (pc' := 32) (st' := [pw_i b, .ref 141, .ref 141]) rfl (fun _ => rfl) ?_
            refine pw_ld E (pc' := 33) (st' := [pw_i e, pw_i b, .ref 141, .ref 141]) rfl (fun _ => rfl) ?_
            refine pw_ld E (pc' := 34) (st' := [pw_i wo, pw_i e, pw_i b, .ref 141, .ref 141]) rfl (fun _ => rfl) ?_
            obtain ⟨f14l, f14h, -⟩ := pw_obj (c := 125) I rfl
            refine pw_call (m' := 218) (As := [.ref 141, pw_i b, pw_i e, pw_i wo]) (rest := [.ref 141]) (ls'' := [some (.ref 141), some (pw_i b), some (pw_i e), some (pw_i wo), none]) (by omega) E rfl (fun _ => pw_iV rfl rfl rfl rfl (pw_cellI f14h rfl)) (rfl : pm_ent 218 = some (4, 5, 12, 1, pmc_218)) rfl rfl (cm_218_s (by omega) I (b) (by omega) (by omega) (e) (by omega) (by omega) (wo) (by omega) (by omega)) ?_
            rintro h15 v16 ⟨h15I, h15E, x17, rfl, hx17a, hx17b, hx17r⟩
            refine ⟨_, rfl, ?_⟩
            have h15F := E0.tr (h15E.wk (W' := [125]) (by first | rfl | simp))
            show pw X d h15 216 37 [some (.ref 141), some (pw_i b), some (pw_i e), some (pw_i wo), some (pw_i wt)] [pw_i x17, .ref 141] _
            have hx17r : ((x17 = 1 ∧ pv_OK (pv_lo (pv_sdm h b e) wo)) ∨ (x17 = 0 ∧ ¬ pv_OK (pv_lo (pv_sdm h b e) wo))) ∧ pw_gm h15 125 24 = pv_U (pv_lo (pv_sdm h b e) wo) (pv_chm h b e) ∧ pw_gm h15 125 25 = pv_D (pv_lo (pv_sdm h b e) wo) ∧ pw_gm h15 125 26 = pv_S (pv_lo (pv_sdm h b e) wo) (pv_chm h b e) 0 24 ∧ pw_gm h15 125 27 = pv_N (pv_lo (pv_sdm h b e) wo) 0 24 ∧ pw_gm h15 125 28 = pv_S (pv_lo (pv_sdm h b e) wo) (pv_chm h b e) 1 24 ∧ pw_gm h15 125 29 = pv_N (pv_lo (pv_sdm h b e) wo) 1 24 := hx17r
            rcases (by omega : x17 = 1 ∨ x17 = 0) with hb18 | hb18
            · have hb18 : x17 = 1 := by omega
              refine pw_if E (pc' := 44) rfl (by decide) (by omega) (by omega) ?_ ?_
              · intro hc19
                have hc19 : x17 = (0 : Int) := hc19
                exfalso; omega
              · intro hc20
                have hc20 : ¬ (x17 = (0 : Int)) := hc20
                obtain ⟨r1, r4, r5, -⟩ := hx17r
                have hok := (r1.resolve_right (fun q => by have := q.1; omega)).2
                have hUB := pv_UB (sd := pv_lo (pv_sdm h b e) wo) (ch := pv_chm h b e) (pv_chmB I (by omega) (by omega) (by omega) (by omega))
                have hD1 := hUB.2.2.2.2 hok
                refine pw_ld E (pc' := 41) (st' := [pw_i 0, .ref 141]) rfl (fun _ => rfl) ?_
                refine pw_goto E (pc' := 45) rfl (by decide) ?_
                refine pw_putI h15I E (c := 125) (k := 0) (pc' := 48) rfl rfl rfl rfl (by omega) (by omega) (by omega) (by omega) rfl rfl ?_
                intro h21I h21E
                generalize h21w : pw_w h15 125 0 (pw_i 0) = h21 at h21I h21E ⊢
                have h21F := h15F.tr (h21E.wk (W' := [125]) (by first | rfl | simp))
                refine pw_ld E (pc' := 49) (st' := [.ref 141]) rfl (fun _ => rfl) ?_
                have he23 : pw_g h21 125 0 = 0 := by rw [← h21w]; exact pw_g_eq (c := 125) (k := 0) h15I rfl rfl (by omega) (by omega)
                refine pw_getI h21I E (c := 125) (k := 0) (pc' := 52) rfl rfl rfl rfl rfl rfl (fun hf22a hf22b hf22c hf22d => ?_)
                refine pw_if E (pc' := 59) rfl (by decide) (by omega) (by omega) ?_ ?_
                · intro hc24
                  have hc24 : pw_g h21 125 0 ≤ (0 : Int) := hc24
                  refine pw_ld E (pc' := 60) (st' := [.ref 141]) rfl (fun _ => rfl) ?_
                  refine pw_ld E (pc' := 62) (st' := [pw_i wt, .ref 141]) rfl (fun _ => rfl) ?_
                  have he25 : pw_gm h21 125 24 = pw_gm h15 125 24 := by rw [← h21w]; exact pw_gm_ne (by omega)
                  have he26 : pw_gm h21 125 25 = pw_gm h15 125 25 := by rw [← h21w]; exact pw_gm_ne (by omega)
                  obtain ⟨f27l, f27h, -⟩ := pw_obj (c := 125) h21I rfl
                  refine pw_call (m' := 222) (As := [.ref 141, pw_i wt]) (rest := []) (ls'' := [some (.ref 141), some (pw_i wt), none, none]) (by omega) E rfl (fun _ => pw_iV rfl rfl rfl rfl (pw_cellI f27h rfl)) (rfl : pm_ent 222 = some (2, 4, 12, 2, pmc_222)) rfl rfl (cm_222_g (by omega) h21I (wt) (by omega) (by omega) (by omega) (by omega) (by omega) (by omega)) ?_
                  rintro u29 v28 ⟨rfl, x30, rfl, hx30a, hx30b, hx30r⟩
                  refine ⟨_, rfl, ?_⟩
                  show pw X d h21 216 65 [some (.ref 141), some (pw_i b), some (pw_i e), some (pw_i wo), some (pw_i wt)] [.long (Int64.ofInt x30)] _
                  have hx30r : (wt = 0 → x30 = Int.tdiv (pw_gm h21 125 24) (pw_gd (pw_gm h21 125 24) (pw_gm h21 125 25))) ∧ (wt ≠ 0 → x30 = Int.tdiv (pw_gm h21 125 25) (pw_gd (pw_gm h21 125 24) (pw_gm h21 125 25))) := hx30r
                  refine pw_lret E rfl ?_
                  have e4 : pw_gm h21 125 24 = pv_U (pv_lo (pv_sdm h b e) wo) (pv_chm h b e) := by omega
                  have e5 : pw_gm h21 125 25 = pv_D (pv_lo (pv_sdm h b e) wo) := by omega
                  rw [e4, e5] at hx30r
                  exact ⟨h21I, h21F, ⟨_, rfl, by omega, by omega, Or.inr ⟨by omega, by omega, hok, pv_low hx30r⟩⟩⟩
                · intro hc31
                  have hc31 : ¬ (pw_g h21 125 0 ≤ (0 : Int)) := hc31
                  exfalso; omega
            · have hb32 : x17 = 0 := by omega
              refine pw_if E (pc' := 44) rfl (by decide) (by omega) (by omega) ?_ ?_
              · intro hc33
                have hc33 : x17 = (0 : Int) := hc33
                refine pw_ld E (pc' := 45) (st' := [pw_i 1, .ref 141]) rfl (fun _ => rfl) ?_
                refine pw_putI h15I E (c := 125) (k := 0) (pc' := 48) rfl rfl rfl rfl (by omega) (by omega) (by omega) (by omega) rfl rfl ?_
                intro h34I h34E
                generalize h34w : pw_w h15 125 0 (pw_i 1) = h34 at h34I h34E ⊢
                have h34F := h15F.tr (h34E.wk (W' := [125]) (by first | rfl | simp))
                refine pw_ld E (pc' := 49) (st' := [.ref 141]) rfl (fun _ => rfl) ?_
                have he36 : pw_g h34 125 0 = 1 := by rw [← h34w]; exact pw_g_eq (c := 125) (k := 0) h15I rfl rfl (by omega) (by omega)
                refine pw_getI h34I E (c := 125) (k := 0) (pc' := 52) rfl rfl rfl rfl rfl rfl (fun hf35a hf35b hf35c hf35d => ?_)
                refine pw_if E (pc' := 59) rfl (by decide) (by omega) (by omega) ?_ ?_
                · intro hc37
                  have hc37 : pw_g h34 125 0 ≤ (0 : Int) := hc37
                  exfalso; omega
                · intro hc38
                  have hc38 : ¬ (pw_g h34 125 0 ≤ (0 : Int)) := hc38
                  refine pw_ld E (pc' := 56) (st' := [.long (Int64.ofInt 0)]) rfl (fun _ => rfl) ?_
                  refine pw_goto E (pc' := 65) rfl (by decide) ?_
                  refine pw_lret E rfl ?_
                  exact ⟨h34I, h34F, ⟨_, rfl, by omega, by omega, Or.inl ⟨by omega, Or.inr (hx17r.1.resolve_left (fun q => by have := q.1; omega)).2⟩⟩⟩
              · intro hc39
                have hc39 : ¬ (x17 = (0 : Int)) := hc39
                exfalso; omega
        · have hb40 : x10 = 0 := by omega
          refine pw_if E (pc' := 44) rfl (by decide) (by omega) (by omega) ?_ ?_
          · intro hc41
            have hc41 : x10 = (0 : Int) := hc41
            refine pw_ld E (pc' := 45) (st' := [pw_i 1, .ref 141]) rfl (fun _ => rfl) ?_
            refine pw_putI I E (c := 125) (k := 0) (pc' := 48) rfl rfl rfl rfl (by omega) (by omega) (by omega) (by omega) rfl rfl ?_
            intro h42I h42E
            generalize h42w : pw_w h 125 0 (pw_i 1) = h42 at h42I h42E ⊢
            have h42F := E0.tr (h42E.wk (W' := [125]) (by first | rfl | simp))
            refine pw_ld E (pc' := 49) (st' := [.ref 141]) rfl (fun _ => rfl) ?_
            have he44 : pw_g h42 125 0 = 1 := by rw [← h42w]; exact pw_g_eq (c := 125) (k := 0) I rfl rfl (by omega) (by omega)
            refine pw_getI h42I E (c := 125) (k := 0) (pc' := 52) rfl rfl rfl rfl rfl rfl (fun hf43a hf43b hf43c hf43d => ?_)
            refine pw_if E (pc' := 59) rfl (by decide) (by omega) (by omega) ?_ ?_
            · intro hc45
              have hc45 : pw_g h42 125 0 ≤ (0 : Int) := hc45
              exfalso; omega
            · intro hc46
              have hc46 : ¬ (pw_g h42 125 0 ≤ (0 : Int)) := hc46
              refine pw_ld E (pc' := 56) (st' := [.long (Int64.ofInt 0)]) rfl (fun _ => rfl) ?_
              refine pw_goto E (pc' := 65) rfl (by decide) ?_
              refine pw_lret E rfl ?_
              exact ⟨h42I, h42F, ⟨_, rfl, by omega, by omega, Or.inl ⟨by omega, Or.inl (by omega)⟩⟩⟩
          · intro hc47
            have hc47 : ¬ (x10 = (0 : Int)) := hc47
            exfalso; omega
      · intro hc48
        have hc48 : ¬ (wo = ((-1) : Int)) := hc48
        refine pw_ld E (pc' := 15) (st' := [.ref 141, .ref 141]) rfl (fun _ => rfl) ?_
        refine pw_ld E (pc' := 16) (st' := [pw_i wo, .ref 141, .ref 141]) rfl (fun _ => rfl) ?_
        obtain ⟨f49l, f49h, -⟩ := pw_obj (c := 125) I rfl
        refine pw_call (m' := 204) (As := [.ref 141, pw_i wo]) (rest := [.ref 141]) (ls'' := [some (.ref 141), some (pw_i wo)]) (by omega) E rfl (fun _ => pw_iV rfl rfl rfl rfl (pw_cellI f49h rfl)) (rfl : pm_ent 204 = some (2, 2, 12, 1, pmc_204)) rfl rfl (cm_204_t (by omega) I (wo) (by omega) (by omega)) ?_
        rintro u51 v50 ⟨rfl, x52, rfl, hx52a, hx52b, hx52r⟩
        refine ⟨_, rfl, ?_⟩
        show pw X d h 216 19 [some (.ref 141), some (pw_i b), some (pw_i e), some (pw_i wo), some (pw_i wt)] [pw_i x52, .ref 141] _
        have hx52r : (x52 = 1 ∧ 0 ≤ wo ∧ wo ≤ 23 ∧ pw_g h 131 wo.toNat = 1) ∨ (x52 = 0 ∧ ¬ (0 ≤ wo ∧ wo ≤ 23 ∧ pw_g h 131 wo.toNat = 1)) := hx52r
        rcases (by omega : x52 = 1 ∨ x52 = 0) with hb53 | hb53
        · have hb53 : x52 = 1 := by omega
          refine pw_if E (pc' := 44) rfl (by decide) (by omega) (by omega) ?_ ?_
          · intro hc54
            have hc54 : x52 = (0 : Int) := hc54
            exfalso; omega
          · intro hc55
            have hc55 : ¬ (x52 = (0 : Int)) := hc55
            refine pw_ld E (pc' := 24) (st' := [pw_i wt, .ref 141]) rfl (fun _ => rfl) ?_
            refine pw_call (m' := 217) (As := [pw_i wt]) (rest := [.ref 141]) (ls'' := [some (pw_i wt)]) (by omega) E rfl (fun _ => pw_iS rfl rfl rfl) (rfl : pm_ent 217 = some (1, 1, 12, 1, pmc_217)) rfl rfl (cm_217 (by omega) I (wt) (by omega) (by omega)) ?_
            rintro u57 v56 ⟨rfl, x58, rfl, hx58a, hx58b, hx58r⟩
            refine ⟨_, rfl, ?_⟩
            show pw X d h 216 27 [some (.ref 141), some (pw_i b), some (pw_i e), some (pw_i wo), some (pw_i wt)] [pw_i x58, .ref 141] _
            have hx58r : (x58 = 1 ∧ 0 ≤ wt ∧ wt ≤ 1) ∨ (x58 = 0 ∧ ¬ (0 ≤ wt ∧ wt ≤ 1)) := hx58r
            rcases (by omega : x58 = 1 ∨ x58 = 0) with hb59 | hb59
            · have hb59 : x58 = 1 := by omega
              refine pw_if E (pc' := 44) rfl (by decide) (by omega) (by omega) ?_ ?_
              · intro hc60
                have hc60 : x58 = (0 : Int) := hc60
                exfalso; omega
              · intro hc61
                have hc61 : ¬ (x58 = (0 : Int)) := hc61
                refine pw_ld E (pc' := 31) (st' := [.ref 141, .ref 141]) rfl (fun _ => rfl) ?_
                refine pw_ld E (pc' := 32) (st' := [pw_i b, .ref 141, .ref 141]) rfl (fun _ => rfl) ?_
                refine pw_ld E (pc' := 33) (st' := [pw_i e, pw_i b, .ref 141, .ref 141]) rfl (fun _ => rfl) ?_
                refine pw_ld E (pc' := 34) (st' := [pw_i wo, pw_i e, pw_i b, .ref 141, .ref 141]) rfl (fun _ => rfl) ?_
                obtain ⟨f62l, f62h, -⟩ := pw_obj (c := 125) I rfl
                refine pw_call (m' := 218) (As := [.ref 141, pw_i b, pw_i e, pw_i wo]) (rest := [.ref 141]) (ls'' := [some (.ref 141), some (pw_i b), some (pw_i e), some (pw_i wo), none]) (by omega) E rfl (fun _ => pw_iV rfl rfl rfl rfl (pw_cellI f62h rfl)) (rfl : pm_ent 218 = some (4, 5, 12, 1, pmc_218)) rfl rfl (cm_218_s (by omega) I (b) (by omega) (by omega) (e) (by omega) (by omega) (wo) (by omega) (by omega)) ?_
                rintro h63 v64 ⟨h63I, h63E, x65, rfl, hx65a, hx65b, hx65r⟩
                refine ⟨_, rfl, ?_⟩
                have h63F := E0.tr (h63E.wk (W' := [125]) (by first | rfl | simp))
                show pw X d h63 216 37 [some (.ref 141), some (pw_i b), some (pw_i e), some (pw_i wo), some (pw_i wt)] [pw_i x65, .ref 141] _
                have hx65r : ((x65 = 1 ∧ pv_OK (pv_lo (pv_sdm h b e) wo)) ∨ (x65 = 0 ∧ ¬ pv_OK (pv_lo (pv_sdm h b e) wo))) ∧ pw_gm h63 125 24 = pv_U (pv_lo (pv_sdm h b e) wo) (pv_chm h b e) ∧ pw_gm h63 125 25 = pv_D (pv_lo (pv_sdm h b e) wo) ∧ pw_gm h63 125 26 = pv_S (pv_lo (pv_sdm h b e) wo) (pv_chm h b e) 0 24 ∧ pw_gm h63 125 27 = pv_N (pv_lo (pv_sdm h b e) wo) 0 24 ∧ pw_gm h63 125 28 = pv_S (pv_lo (pv_sdm h b e) wo) (pv_chm h b e) 1 24 ∧ pw_gm h63 125 29 = pv_N (pv_lo (pv_sdm h b e) wo) 1 24 := hx65r
                rcases (by omega : x65 = 1 ∨ x65 = 0) with hb66 | hb66
                · have hb66 : x65 = 1 := by omega
                  refine pw_if E (pc' := 44) rfl (by decide) (by omega) (by omega) ?_ ?_
                  · intro hc67
                    have hc67 : x65 = (0 : Int) := hc67
                    exfalso; omega
                  · intro hc68
                    have hc68 : ¬ (x65 = (0 : Int)) := hc68
                    obtain ⟨r1, r4, r5, -⟩ := hx65r
                    have hok := (r1.resolve_right (fun q => by have := q.1; omega)).2
                    have hUB := pv_UB (sd := pv_lo (pv_sdm h b e) wo) (ch := pv_chm h b e) (pv_chmB I (by omega) (by omega) (by omega) (by omega))
                    have hD1 := hUB.2.2.2.2 hok
                    refine pw_ld E (pc' := 41) (st' := [pw_i 0, .ref 141]) rfl (fun _ => rfl) ?_
                    refine pw_goto E (pc' := 45) rfl (by decide) ?_
                    refine pw_putI h63I E (c := 125) (k := 0) (pc' := 48) rfl rfl rfl rfl (by omega) (by omega) (by omega) (by omega) rfl rfl ?_
                    intro h69I h69E
                    generalize h69w : pw_w h63 125 0 (pw_i 0) = h69 at h69I h69E ⊢
                    have h69F := h63F.tr (h69E.wk (W' := [125]) (by first | rfl | simp))
                    refine pw_ld E (pc' := 49) (st' := [.ref 141]) rfl (fun _ => rfl) ?_
                    have he71 : pw_g h69 125 0 = 0 := by rw [← h69w]; exact pw_g_eq (c := 125) (k := 0) h63I rfl rfl (by omega) (by omega)
                    refine pw_getI h69I E (c := 125) (k := 0) (pc' := 52) rfl rfl rfl rfl rfl rfl (fun hf70a hf70b hf70c hf70d => ?_)
                    refine pw_if E (pc' := 59) rfl (by decide) (by omega) (by omega) ?_ ?_
                    · intro hc72
                      have hc72 : pw_g h69 125 0 ≤ (0 : Int) := hc72
                      refine pw_ld E (pc' := 60) (st' := [.ref 141]) rfl (fun _ => rfl) ?_
                      refine pw_ld E (pc' := 62) (st' := [pw_i wt, .ref 141]) rfl (fun _ => rfl) ?_
                      have he73 : pw_gm h69 125 24 = pw_gm h63 125 24 := by rw [← h69w]; exact pw_gm_ne (by omega)
                      have he74 : pw_gm h69 125 25 = pw_gm h63 125 25 := by rw [← h69w]; exact pw_gm_ne (by omega)
                      obtain ⟨f75l, f75h, -⟩ := pw_obj (c := 125) h69I rfl
                      refine pw_call (m' := 222) (As := [.ref 141, pw_i wt]) (rest := []) (ls'' := [some (.ref 141), some (pw_i wt), none, none]) (by omega) E rfl (fun _ => pw_iV rfl rfl rfl rfl (pw_cellI f75h rfl)) (rfl : pm_ent 222 = some (2, 4, 12, 2, pmc_222)) rfl rfl (cm_222_g (by omega) h69I (wt) (by omega) (by omega) (by omega) (by omega) (by omega) (by omega)) ?_
                      rintro u77 v76 ⟨rfl, x78, rfl, hx78a, hx78b, hx78r⟩
                      refine ⟨_, rfl, ?_⟩
                      show pw X d h69 216 65 [some (.ref 141), some (pw_i b), some (pw_i e), some (pw_i wo), some (pw_i wt)] [.long (Int64.ofInt x78)] _
                      have hx78r : (wt = 0 → x78 = Int.tdiv (pw_gm h69 125 24) (pw_gd (pw_gm h69 125 24) (pw_gm h69 125 25))) ∧ (wt ≠ 0 → x78 = Int.tdiv (pw_gm h69 125 25) (pw_gd (pw_gm h69 125 24) (pw_gm h69 125 25))) := hx78r
                      refine pw_lret E rfl ?_
                      have e4 : pw_gm h69 125 24 = pv_U (pv_lo (pv_sdm h b e) wo) (pv_chm h b e) := by omega
                      have e5 : pw_gm h69 125 25 = pv_D (pv_lo (pv_sdm h b e) wo) := by omega
                      rw [e4, e5] at hx78r
                      exact ⟨h69I, h69F, ⟨_, rfl, by omega, by omega, Or.inr ⟨by omega, by omega, hok, pv_low hx78r⟩⟩⟩
                    · intro hc79
                      have hc79 : ¬ (pw_g h69 125 0 ≤ (0 : Int)) := hc79
                      exfalso; omega
                · have hb80 : x65 = 0 := by omega
                  refine pw_if E (pc' := 44) rfl (by decide) (by omega) (by omega) ?_ ?_
                  · intro hc81
                    have hc81 : x65 = (0 : Int) := hc81
                    refine pw_ld E (pc' := 45) (st' := [pw_i 1, .ref 141]) rfl (fun _ => rfl) ?_
                    refine pw_putI h63I E (c := 125) (k := 0) (pc' := 48) rfl rfl rfl rfl (by omega) (by omega) (by omega) (by omega) rfl rfl ?_
                    intro h82I h82E
                    generalize h82w : pw_w h63 125 0 (pw_i 1) = h82 at h82I h82E ⊢
                    have h82F := h63F.tr (h82E.wk (W' := [125]) (by first | rfl | simp))
                    refine pw_ld E (pc' := 49) (st' := [.ref 141]) rfl (fun _ => rfl) ?_
                    have he84 : pw_g h82 125 0 = 1 := by rw [← h82w]; exact pw_g_eq (c := 125) (k := 0) h63I rfl rfl (by omega) (by omega)
                    refine pw_getI h82I E (c := 125) (k := 0) (pc' := 52) rfl rfl rfl rfl rfl rfl (fun hf83a hf83b hf83c hf83d => ?_)
                    refine pw_if E (pc' := 59) rfl (by decide) (by omega) (by omega) ?_ ?_
                    · intro hc85
                      have hc85 : pw_g h82 125 0 ≤ (0 : Int) := hc85
                      exfalso; omega
                    · intro hc86
                      have hc86 : ¬ (pw_g h82 125 0 ≤ (0 : Int)) := hc86
                      refine pw_ld E (pc' := 56) (st' := [.long (Int64.ofInt 0)]) rfl (fun _ => rfl) ?_
                      refine pw_goto E (pc' := 65) rfl (by decide) ?_
                      refine pw_lret E rfl ?_
                      exact ⟨h82I, h82F, ⟨_, rfl, by omega, by omega, Or.inl ⟨by omega, Or.inr (hx65r.1.resolve_left (fun q => by have := q.1; omega)).2⟩⟩⟩
                  · intro hc87
                    have hc87 : ¬ (x65 = (0 : Int)) := hc87
                    exfalso; omega
            · have hb88 : x58 = 0 := by omega
              refine pw_if E (pc' := 44) rfl (by decide) (by omega) (by omega) ?_ ?_
              · intro hc89
                have hc89 : x58 = (0 : Int) := hc89
                refine pw_ld E (pc' := 45) (st' := [pw_i 1, .ref 141]) rfl (fun _ => rfl) ?_
                refine pw_putI I E (c := 125) (k := 0) (pc' := 48) rfl rfl rfl rfl (by omega) (by omega) (by omega) (by omega) rfl rfl ?_
                intro h90I h90E
                generalize h90w : pw_w h 125 0 (pw_i 1) = h90 at h90I h90E ⊢
                have h90F := E0.tr (h90E.wk (W' := [125]) (by first | rfl | simp))
                refine pw_ld E (pc' := 49) (st' := [.ref 141]) rfl (fun _ => rfl) ?_
                have he92 : pw_g h90 125 0 = 1 := by rw [← h90w]; exact pw_g_eq (c := 125) (k := 0) I rfl rfl (by omega) (by omega)
                refine pw_getI h90I E (c := 125) (k := 0) (pc' := 52) rfl rfl rfl rfl rfl rfl (fun hf91a hf91b hf91c hf91d => ?_)
                refine pw_if E (pc' := 59) rfl (by decide) (by omega) (by omega) ?_ ?_
                · intro hc93
                  have hc93 : pw_g h90 125 0 ≤ (0 : Int) := hc93
                  exfalso; omega
                · intro hc94
                  have hc94 : ¬ (pw_g h90 125 0 ≤ (0 : Int)) := hc94
                  refine pw_ld E (pc' := 56) (st' := [.long (Int64.ofInt 0)]) rfl (fun _ => rfl) ?_
                  refine pw_goto E (pc' := 65) rfl (by decide) ?_
                  refine pw_lret E rfl ?_
                  exact ⟨h90I, h90F, ⟨_, rfl, by omega, by omega, Or.inl ⟨by omega, Or.inl (by omega)⟩⟩⟩
              · intro hc95
                have hc95 : ¬ (x58 = (0 : Int)) := hc95
                exfalso; omega
        · have hb96 : x52 = 0 := by omega
          refine pw_if E (pc' := 44) rfl (by decide) (by omega) (by omega) ?_ ?_
          · intro hc97
            have hc97 : x52 = (0 : Int) := hc97
            refine pw_ld E (pc' := 45) (st' := [pw_i 1, .ref 141]) rfl (fun _ => rfl) ?_
            refine pw_putI I E (c := 125) (k := 0) (pc' := 48) rfl rfl rfl rfl (by omega) (by omega) (by omega) (by omega) rfl rfl ?_
            intro h98I h98E
            generalize h98w : pw_w h 125 0 (pw_i 1) = h98 at h98I h98E ⊢
            have h98F := E0.tr (h98E.wk (W' := [125]) (by first | rfl | simp))
            refine pw_ld E (pc' := 49) (st' := [.ref 141]) rfl (fun _ => rfl) ?_
            have he100 : pw_g h98 125 0 = 1 := by rw [← h98w]; exact pw_g_eq (c := 125) (k := 0) I rfl rfl (by omega) (by omega)
            refine pw_getI h98I E (c := 125) (k := 0) (pc' := 52) rfl rfl rfl rfl rfl rfl (fun hf99a hf99b hf99c hf99d => ?_)
            refine pw_if E (pc' := 59) rfl (by decide) (by omega) (by omega) ?_ ?_
            · intro hc101
              have hc101 : pw_g h98 125 0 ≤ (0 : Int) := hc101
              exfalso; omega
            · intro hc102
              have hc102 : ¬ (pw_g h98 125 0 ≤ (0 : Int)) := hc102
              refine pw_ld E (pc' := 56) (st' := [.long (Int64.ofInt 0)]) rfl (fun _ => rfl) ?_
              refine pw_goto E (pc' := 65) rfl (by decide) ?_
              refine pw_lret E rfl ?_
              exact ⟨h98I, h98F, ⟨_, rfl, by omega, by omega, Or.inl ⟨by omega, Or.inl (by omega)⟩⟩⟩
          · intro hc103
            have hc103 : ¬ (x52 = (0 : Int)) := hc103
            exfalso; omega
  · have hb104 : x3 = 0 := by omega
    refine pw_if E (pc' := 44) rfl (by decide) (by omega) (by omega) ?_ ?_
    · intro hc105
      have hc105 : x3 = (0 : Int) := hc105
      refine pw_ld E (pc' := 45) (st' := [pw_i 1, .ref 141]) rfl (fun _ => rfl) ?_
      refine pw_putI I E (c := 125) (k := 0) (pc' := 48) rfl rfl rfl rfl (by omega) (by omega) (by omega) (by omega) rfl rfl ?_
      intro h106I h106E
      generalize h106w : pw_w h 125 0 (pw_i 1) = h106 at h106I h106E ⊢
      have h106F := E0.tr (h106E.wk (W' := [125]) (by first | rfl | simp))
      refine pw_ld E (pc' := 49) (st' := [.ref 141]) rfl (fun _ => rfl) ?_
      have he108 : pw_g h106 125 0 = 1 := by rw [← h106w]; exact pw_g_eq (c := 125) (k := 0) I rfl rfl (by omega) (by omega)
      refine pw_getI h106I E (c := 125) (k := 0) (pc' := 52) rfl rfl rfl rfl rfl rfl (fun hf107a hf107b hf107c hf107d => ?_)
      refine pw_if E (pc' := 59) rfl (by decide) (by omega) (by omega) ?_ ?_
      · intro hc109
        have hc109 : pw_g h106 125 0 ≤ (0 : Int) := hc109
        exfalso; omega
      · intro hc110
        have hc110 : ¬ (pw_g h106 125 0 ≤ (0 : Int)) := hc110
        refine pw_ld E (pc' := 56) (st' := [.long (Int64.ofInt 0)]) rfl (fun _ => rfl) ?_
        refine pw_goto E (pc' := 65) rfl (by decide) ?_
        refine pw_lret E rfl ?_
        exact ⟨h106I, h106F, ⟨_, rfl, by omega, by omega, Or.inl ⟨by omega, Or.inl (by omega)⟩⟩⟩
    · intro hc111
      have hc111 : ¬ (x3 = (0 : Int)) := hc111
      exfalso; omega
