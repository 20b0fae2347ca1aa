/-! part, exactly -/
theorem pv_sdmE {W : List Nat} {h h' : pm_H} {b e : Int} (I : pw_I h) (E : pw_E W h h') (hn : (((W.contains 131 || W.contains 132) || W.contains 138) || (W.contains 1015 || (W.contains 139 || W.contains 140))) = false) : pv_sdm h' b e = pv_sdm h b e ∧ pv_chm h' b e = pv_chm h b e := by
  obtain ⟨h1, h2⟩ := Bool.or_eq_false_iff.mp hn
  obtain ⟨h1, h3⟩ := Bool.or_eq_false_iff.mp h1
  obtain ⟨h1, h4⟩ := Bool.or_eq_false_iff.mp h1
  obtain ⟨g1, h5⟩ := Bool.or_eq_false_iff.mp h2
  obtain ⟨g2, g3⟩ := Bool.or_eq_false_iff.mp h5
  have k : ∀ mo k : Int, pv_hmk h' mo k = pv_hmk h mo k := fun mo k => by
    unfold pv_hmk
    rw [pw_Ef E (Or.inr (Or.inl rfl)) g1, pw_Eg (c := 139) I E rfl g2, pw_Eg (c := 140) I E rfl g3]
  refine ⟨funext (fun k => ?_), funext (fun j => ?_)⟩
  · unfold pv_sdm
    rw [pw_Eg (c := 131) I E rfl h1, pw_Eg (c := 132) I E rfl h4, pw_Eg (c := 138) I E rfl h3, pw_Eg (c := 138) I E rfl h3]
  · unfold pv_chm
    rw [k, k]

set_option maxHeartbeats 4000000 in
theorem cm_172_s {X : List (Nat × List Value)} {d : Nat} {h : pm_H} (hd : 5 ≤ d) (I : pw_I h) (b : Int) (hb1 : (-2147483648) ≤ b) (hb2 : b ≤ 2147483647) (e : Int) (he1 : (-2147483648) ≤ e) (he2 : e ≤ 2147483647) (kt : Int) (hkt1 : (-2147483648) ≤ kt) (hkt2 : kt ≤ 2147483647) (wt : Int) (hwt1 : (-2147483648) ≤ wt) (hwt2 : wt ≤ 2147483647) : pw X d h 172 0 [some (.ref 16), some (pw_i b), some (pw_i e), some (pw_i kt), some (pw_i wt), none] [] (fun h' v => pw_I h' ∧ pw_E [17, 18, 22, 23] h h' ∧ ((v = .inr () ∧ (¬ (0 ≤ b ∧ b ≤ 11 ∧ 0 ≤ e ∧ e ≤ 11 ∧ b ≠ e ∧ 0 ≤ kt ∧ kt ≤ 23 ∧ pw_g h 2 kt.toNat = 1 ∧ 0 ≤ wt ∧ wt ≤ 1 ∧ pw_g h 11 (kt * 12 + b).toNat ≠ -2 ∧ pw_g h 11 (kt * 12 + e).toNat ≠ -2) ∨ ¬ (pv_OK (pv_sdc h b e) ∧ pv_OK (pv_lo (pv_sdc h b e) kt)))) ∨ (∃ a : Int, v = .inl (some (.long (Int64.ofInt a))) ∧ (-1099511627776) ≤ a ∧ a ≤ 1099511627776 ∧ ((0 ≤ b ∧ b ≤ 11 ∧ 0 ≤ e ∧ e ≤ 11 ∧ b ≠ e ∧ 0 ≤ kt ∧ kt ≤ 23 ∧ pw_g h 2 kt.toNat = 1 ∧ 0 ≤ wt ∧ wt ≤ 1 ∧ pw_g h 11 (kt * 12 + b).toNat ≠ -2 ∧ pw_g h 11 (kt * 12 + e).toNat ≠ -2) ∧ (pv_OK (pv_sdc h b e) ∧ pv_OK (pv_lo (pv_sdc h b e) kt)) ∧ a = pv_LW (pv_U (pv_sdc h b e) (pv_chc h b e) * pv_D (pv_lo (pv_sdc h b e) kt) - pv_U (pv_lo (pv_sdc h b e) kt) (pv_chc h b e) * pv_D (pv_sdc h b e)) (pv_D (pv_sdc h b e) * pv_D (pv_lo (pv_sdc h b e) kt)) wt)))) := by
  have E : pm_ent 172 = some (5, 6, 11, 2, pmc_172) := rfl
  have E0 : pw_E [17, 18, 22, 23] h h := pw_E.rf _ _
  refine pw_ld E (pc' := 1) (st' := [pw_i b]) rfl (fun _ => rfl) ?_
  refine pw_ld E (pc' := 2) (st' := [pw_i e, pw_i b]) rfl (fun _ => rfl) ?_
  refine pw_call (m' := 131) (As := [pw_i b, pw_i e]) (rest := []) (ls'' := [some (pw_i b), some (pw_i e)]) (by omega) E rfl (fun _ => pw_iS rfl rfl rfl) (rfl : pm_ent 131 = some (2, 2, 11, 1, pmc_131)) rfl rfl (cm_131_s (by omega) I (b) (by omega) (by omega) (e) (by omega) (by omega)) ?_
  rintro u2 v1 ⟨rfl, x3, rfl, hx3a, hx3b, hx3r⟩
  refine ⟨_, rfl, ?_⟩
  show pw X d h 172 5 [some (.ref 16), some (pw_i b), some (pw_i e), some (pw_i kt), some (pw_i wt), none] [pw_i x3] _
  have hx3r : (x3 = 1 ∧ 0 ≤ b ∧ b ≤ 11 ∧ 0 ≤ e ∧ e ≤ 11 ∧ b ≠ e) ∨ (x3 = 0 ∧ ¬ (0 ≤ b ∧ b ≤ 11 ∧ 0 ≤ e ∧ e ≤ 11 ∧ b ≠ e)) := hx3r
  rcases (by omega : x3 = 1 ∨ x3 = 0) with hb4 | hb4
  · have hb4 : x3 = 1 := by omega
    refine pw_if E (pc' := 37) rfl (by decide) (by omega) (by omega) ?_ ?_
    · intro hc5
      have hc5 : x3 = (0 : Int) := hc5
      exfalso; omega
    · intro hc6
      have hc6 : ¬ (x3 = (0 : Int)) := hc6
      refine pw_ld E (pc' := 9) (st' := [.ref 16]) rfl (fun _ => rfl) ?_
      refine pw_ld E (pc' := 10) (st' := [pw_i kt, .ref 16]) rfl (fun _ => rfl) ?_
      obtain ⟨f7l, f7h, -⟩ := pw_obj (c := 0) I rfl
      refine pw_call (m' := 124) (As := [.ref 16, pw_i kt]) (rest := []) (ls'' := [some (.ref 16), some (pw_i kt)]) (by omega) E rfl (fun _ => pw_iV rfl rfl rfl rfl (pw_cellI f7h rfl)) (rfl : pm_ent 124 = some (2, 2, 11, 1, pmc_124)) rfl rfl (cm_124_t (by omega) I (kt) (by omega) (by omega)) ?_
      rintro u9 v8 ⟨rfl, x10, rfl, hx10a, hx10b, hx10r⟩
      refine ⟨_, rfl, ?_⟩
      show pw X d h 172 13 [some (.ref 16), some (pw_i b), some (pw_i e), some (pw_i kt), some (pw_i wt), none] [pw_i x10] _
      have hx10r : (x10 = 1 ∧ 0 ≤ kt ∧ kt ≤ 23 ∧ pw_g h 2 kt.toNat = 1) ∨ (x10 = 0 ∧ ¬ (0 ≤ kt ∧ kt ≤ 23 ∧ pw_g h 2 kt.toNat = 1)) := hx10r
      rcases (by omega : x10 = 1 ∨ x10 = 0) with hb11 | hb11
      · have hb11 : x10 = 1 := by omega
        refine pw_if E (pc' := 37) rfl (by decide) (by omega) (by omega) ?_ ?_
        · intro hc12
          have hc12 : x10 = (0 : Int) := hc12
          exfalso; omega
        · intro hc13
          have hc13 : ¬ (x10 = (0 : Int)) := hc13
          refine pw_ld E (pc' := 18) (st' := [pw_i wt]) rfl (fun _ => rfl) ?_
          refine pw_call (m' := 137) (As := [pw_i wt]) (rest := []) (ls'' := [some (pw_i wt)]) (by omega) E rfl (fun _ => pw_iS rfl rfl rfl) (rfl : pm_ent 137 = some (1, 1, 11, 1, pmc_137)) rfl rfl (cm_137 (by omega) I (wt) (by omega) (by omega)) ?_
          rintro u15 v14 ⟨rfl, x16, rfl, hx16a, hx16b, hx16r⟩
          refine ⟨_, rfl, ?_⟩
          show pw X d h 172 21 [some (.ref 16), some (pw_i b), some (pw_i e), some (pw_i kt), some (pw_i wt), none] [pw_i x16] _
          have hx16r : (x16 = 1 ∧ 0 ≤ wt ∧ wt ≤ 1) ∨ (x16 = 0 ∧ ¬ (0 ≤ wt ∧ wt ≤ 1)) := hx16r
          rcases (by omega : x16 = 1 ∨ x16 = 0) with hb17 | hb17
          · have hb17 : x16 = 1 := by omega
            refine pw_if E (pc' := 37) rfl (by decide) (by omega) (by omega) ?_ ?_
            · intro hc18
              have hc18 : x16 = (0 : Int) := hc18
              exfalso; omega
            · intro hc19
              have hc19 : ¬ (x16 = (0 : Int)) := hc19
              refine pw_ld E (pc' := 25) (st' := [.ref 16]) rfl (fun _ => rfl) ?_
              refine pw_getR (b := 26) I E (c := 0) (k := 2) (pc' := 28) rfl rfl rfl rfl rfl rfl rfl ?_
              refine pw_ld E (pc' := 29) (st' := [pw_i kt, .ref 26]) rfl (fun _ => rfl) ?_
              refine pw_ld E (pc' := 30) (st' := [pw_i b, pw_i kt, .ref 26]) rfl (fun _ => rfl) ?_
              refine pw_ld E (pc' := 31) (st' := [pw_i e, pw_i b, pw_i kt, .ref 26]) rfl (fun _ => rfl) ?_
              obtain ⟨f20l, f20h, -⟩ := pw_obj (c := 10) I rfl
              refine pw_call (m' := 23) (As := [.ref 26, pw_i kt, pw_i b, pw_i e]) (rest := []) (ls'' := [some (.ref 26), some (pw_i kt), some (pw_i b), some (pw_i e)]) (by omega) E rfl (fun _ => pw_iV rfl rfl rfl rfl (pw_cellI f20h rfl)) (rfl : pm_ent 23 = some (4, 4, 2, 1, pmc_23)) rfl rfl (cm_23_10s (by omega) I (kt) (by omega) (by omega) (b) (by omega) (by omega) (e) (by omega) (by omega)) ?_
              rintro u22 v21 ⟨rfl, x23, rfl, hx23a, hx23b, hx23r⟩
              refine ⟨_, rfl, ?_⟩
              show pw X d h 172 34 [some (.ref 16), some (pw_i b), some (pw_i e), some (pw_i kt), some (pw_i wt), none] [pw_i x23] _
              have hx23r : (x23 = 1 ∧ pw_g h 11 (kt * 12 + b).toNat ≠ -2 ∧ pw_g h 11 (kt * 12 + e).toNat ≠ -2) ∨ (x23 = 0 ∧ ¬ (pw_g h 11 (kt * 12 + b).toNat ≠ -2 ∧ pw_g h 11 (kt * 12 + e).toNat ≠ -2)) := hx23r
              rcases (by omega : x23 = 1 ∨ x23 = 0) with hb24 | hb24
              · have hb24 : x23 = 1 := by omega
                refine pw_if E (pc' := 45) rfl (by decide) (by omega) (by omega) ?_ ?_
                · intro hc25
                  have hc25 : x23 ≠ (0 : Int) := hc25
                  refine pw_ld E (pc' := 46) (st' := [.ref 16]) rfl (fun _ => rfl) ?_
                  refine pw_ld E (pc' := 47) (st' := [pw_i b, .ref 16]) rfl (fun _ => rfl) ?_
                  refine pw_ld E (pc' := 48) (st' := [pw_i e, pw_i b, .ref 16]) rfl (fun _ => rfl) ?_
                  obtain ⟨f26l, f26h, -⟩ := pw_obj (c := 0) I rfl
                  refine pw_call (m' := 138) (As := [.ref 16, pw_i b, pw_i e]) (rest := []) (ls'' := [some (.ref 16), some (pw_i b), some (pw_i e), none]) (by omega) E rfl (fun _ => pw_iV rfl rfl rfl rfl (pw_cellI f26h rfl)) (rfl : pm_ent 138 = some (3, 4, 11, 4, pmc_138)) rfl rfl (cm_138_s (by omega) I (b) (by omega) (by omega) (e) (by omega) (by omega)) ?_
                  rintro h27 v28 ⟨h27I, h27E, hqfill, rfl⟩
                  refine ⟨_, rfl, ?_⟩
                  have h27F := E0.tr (h27E.wk (W' := [17, 18, 22, 23]) (by first | rfl | simp))
                  show pw X d h27 172 51 [some (.ref 16), some (pw_i b), some (pw_i e), some (pw_i kt), some (pw_i wt), none] [] _
                  have hFL : pv_FL h27 (pv_sdc h b e) (pv_chc h b e) 24 := hqfill
                  have hB : pv_Bd h27 := hFL.bd (pv_chcB I (by omega) (by omega) (by omega) (by omega))
                  refine pw_ld E (pc' := 52) (st' := [.ref 16]) rfl (fun _ => rfl) ?_
                  refine pw_getR (b := 32) h27I E (c := 0) (k := 7) (pc' := 55) rfl rfl rfl rfl rfl rfl rfl ?_
                  refine pw_ld E (pc' := 56) (st' := [.ref 16, .ref 32]) rfl (fun _ => rfl) ?_
                  refine pw_getR (b := 38) h27I E (c := 0) (k := 8) (pc' := 59) rfl rfl rfl rfl rfl rfl rfl ?_
                  obtain ⟨f29l, f29h, -⟩ := pw_obj (c := 16) h27I rfl
                  refine pw_call (m' := 83) (As := [.ref 32, .ref 38]) (rest := []) (ls'' := [some (.ref 32), some (.ref 38), none, none, none, none]) (by omega) E rfl (fun _ => pw_iV rfl rfl rfl rfl (pw_cellI f29h rfl)) (rfl : pm_ent 83 = some (2, 6, 8, 1, pmc_83)) rfl rfl (cm_83_22s (by omega) h27I hB) ?_
                  rintro h30 v31 ⟨h30I, h30E, x32, rfl, hx32a, hx32b, hx32r⟩
                  refine ⟨_, rfl, ?_⟩
                  have h30F := h27F.tr (h30E.wk (W' := [17, 18, 22, 23]) (by first | rfl | simp))
                  show pw X d h30 172 62 [some (.ref 16), some (pw_i b), some (pw_i e), some (pw_i kt), some (pw_i wt), none] [pw_i x32] _
                  have hx32r : (x32 = 0 ∧ ¬ pv_OK (pw_g h27 17)) ∨ (x32 = 1 ∧ pv_OK (pw_g h27 17) ∧ pw_gm h30 22 0 = Int.tdiv (pv_U (pw_g h27 17) (pw_g h27 18)) (pw_gd (pv_U (pw_g h27 17) (pw_g h27 18)) (pv_D (pw_g h27 17))) ∧ pw_gm h30 22 1 = Int.tdiv (pv_D (pw_g h27 17)) (pw_gd (pv_U (pw_g h27 17) (pw_g h27 18)) (pv_D (pw_g h27 17)))) := hx32r
                  refine pw_ist E (pc' := 64) (ls' := [some (.ref 16), some (pw_i b), some (pw_i e), some (pw_i kt), some (pw_i wt), some (pw_i x32)]) rfl rfl rfl rfl ?_
                  refine pw_ld E (pc' := 65) (st' := [.ref 16]) rfl (fun _ => rfl) ?_
                  refine pw_getR (b := 32) h30I E (c := 0) (k := 7) (pc' := 68) rfl rfl rfl rfl rfl rfl rfl ?_
                  refine pw_ld E (pc' := 69) (st' := [pw_i kt, .ref 32]) rfl (fun _ => rfl) ?_
                  obtain ⟨f33l, f33h, -⟩ := pw_obj (c := 16) h30I rfl
                  refine pw_call (m' := 93) (As := [.ref 32, pw_i kt]) (rest := []) (ls'' := [some (.ref 32), some (pw_i kt)]) (by omega) E rfl (fun _ => pw_iV rfl rfl rfl rfl (pw_cellI f33h rfl)) (rfl : pm_ent 93 = some (2, 2, 8, 4, pmc_93)) rfl rfl (cm_93_s (by omega) h30I (kt) (by omega) (by omega)) ?_
                  rintro h34 v35 ⟨h34I, h34E, hqleave, rfl⟩
                  refine ⟨_, rfl, ?_⟩
                  have h34F := h30F.tr (h34E.wk (W' := [17, 18, 22, 23]) (by first | rfl | simp))
                  show pw X d h34 172 72 [some (.ref 16), some (pw_i b), some (pw_i e), some (pw_i kt), some (pw_i wt), some (pw_i x32)] [] _
                  refine pw_ld E (pc' := 74) (st' := [pw_i x32]) rfl (fun _ => rfl) ?_
                  refine pw_if E (pc' := 91) rfl (by decide) (by omega) (by omega) ?_ ?_
                  · intro hc36
                    have hc36 : x32 = (0 : Int) := hc36
                    refine pw_thr E rfl rfl h34I.2 ?_
                    exact ⟨h34I, h34F, Or.inl ⟨rfl, Or.inr (fun q => (hx32r.resolve_right (fun q => by have := q.1; omega)).2 (hFL.eq.2.2.1.mpr q.1))⟩⟩
                  · intro hc37
                    have hc37 : ¬ (x32 = (0 : Int)) := hc37
                    obtain ⟨-, hok0, hm0, hm1⟩ := hx32r.resolve_left (fun q => by have := q.1; omega)
                    have hok : pv_OK (pv_sdc h b e) := hFL.eq.2.2.1.mp hok0
                    rw [hFL.eq.1, hFL.eq.2.1] at hm0 hm1
                    have htd := pv_tdUB (sd := pv_sdc h b e) (ch := pv_chc h b e) (pv_chcB I (by omega) (by omega) (by omega) (by omega)) hok
                    have htd1 := pv_tdUB1 (sd := pv_sdc h b e) (ch := pv_chc h b e) (pv_chcB I (by omega) (by omega) (by omega) (by omega)) hok
                    have hl38 : ∀ j : Nat, pw_g h34 18 j = pw_g h27 18 j := fun j => ((pw_Eg (c := 18) h30I h34E rfl rfl j : pw_g h34 18 j = pw_g h30 18 j)).trans (pw_Eg (c := 18) h27I h30E rfl rfl j : pw_g h30 18 j = pw_g h27 18 j)
                    have hl39 : ∀ j : Nat, pw_g h30 17 j = pw_g h27 17 j := fun j => (pw_Eg (c := 17) h27I h30E rfl rfl j : pw_g h30 17 j = pw_g h27 17 j)
                    have hup : pw_up h27 h34 17 kt (-1) := ⟨hqleave.1, fun j hj => (hqleave.2 j hj).trans (hl39 j)⟩
                    have hFL1 : pv_FL h34 (pv_lo (pv_sdc h b e) kt) (pv_chc h b e) 24 := pv_FL.lo hFL (by omega) hup hl38
                    have hB : pv_Bd h34 := hFL1.bd (pv_chcB I (by omega) (by omega) (by omega) (by omega))
                    refine pw_ld E (pc' := 78) (st' := [.ref 16]) rfl (fun _ => rfl) ?_
                    refine pw_getR (b := 32) h34I E (c := 0) (k := 7) (pc' := 81) rfl rfl rfl rfl rfl rfl rfl ?_
                    refine pw_ld E (pc' := 82) (st' := [.ref 16, .ref 32]) rfl (fun _ => rfl) ?_
                    refine pw_getR (b := 39) h34I E (c := 0) (k := 9) (pc' := 85) rfl rfl rfl rfl rfl rfl rfl ?_
                    obtain ⟨f40l, f40h, -⟩ := pw_obj (c := 16) h34I rfl
                    refine pw_call (m' := 83) (As := [.ref 32, .ref 39]) (rest := []) (ls'' := [some (.ref 32), some (.ref 39), none, none, none, none]) (by omega) E rfl (fun _ => pw_iV rfl rfl rfl rfl (pw_cellI f40h rfl)) (rfl : pm_ent 83 = some (2, 6, 8, 1, pmc_83)) rfl rfl (cm_83_23s (by omega) h34I hB) ?_
                    rintro h41 v42 ⟨h41I, h41E, x43, rfl, hx43a, hx43b, hx43r⟩
                    refine ⟨_, rfl, ?_⟩
                    have h41F := h34F.tr (h41E.wk (W' := [17, 18, 22, 23]) (by first | rfl | simp))
                    show pw X d h41 172 88 [some (.ref 16), some (pw_i b), some (pw_i e), some (pw_i kt), some (pw_i wt), some (pw_i x32)] [pw_i x43] _
                    have hx43r : (x43 = 0 ∧ ¬ pv_OK (pw_g h34 17)) ∨ (x43 = 1 ∧ pv_OK (pw_g h34 17) ∧ pw_gm h41 23 0 = Int.tdiv (pv_U (pw_g h34 17) (pw_g h34 18)) (pw_gd (pv_U (pw_g h34 17) (pw_g h34 18)) (pv_D (pw_g h34 17))) ∧ pw_gm h41 23 1 = Int.tdiv (pv_D (pw_g h34 17)) (pw_gd (pv_U (pw_g h34 17) (pw_g h34 18)) (pv_D (pw_g h34 17)))) := hx43r
                    rcases (by omega : x43 = 1 ∨ x43 = 0) with hb44 | hb44
                    · have hb44 : x43 = 1 := by omega
                      refine pw_if E (pc' := 99) rfl (by decide) (by omega) (by omega) ?_ ?_
                      · intro hc45
                        have hc45 : x43 ≠ (0 : Int) := hc45
                        obtain ⟨-, hokb, hn0, hn1⟩ := hx43r.resolve_left (fun q => by have := q.1; omega)
                        have hok2 : pv_OK (pv_lo (pv_sdc h b e) kt) := hFL1.eq.2.2.1.mp hokb
                        rw [hFL1.eq.1, hFL1.eq.2.1] at hn0 hn1
                        have htdb := pv_tdUB (sd := pv_lo (pv_sdc h b e) kt) (ch := pv_chc h b e) (pv_chcB I (by omega) (by omega) (by omega) (by omega)) hok2
                        have htdb1 := pv_tdUB1 (sd := pv_lo (pv_sdc h b e) kt) (ch := pv_chc h b e) (pv_chcB I (by omega) (by omega) (by omega) (by omega)) hok2
                        refine pw_ld E (pc' := 100) (st' := [.ref 16]) rfl (fun _ => rfl) ?_
                        refine pw_getR (b := 38) h41I E (c := 0) (k := 8) (pc' := 103) rfl rfl rfl rfl rfl rfl rfl ?_
                        refine pw_ld E (pc' := 104) (st' := [.ref 16, .ref 38]) rfl (fun _ => rfl) ?_
                        refine pw_getR (b := 39) h41I E (c := 0) (k := 9) (pc' := 107) rfl rfl rfl rfl rfl rfl rfl ?_
                        have he46 : pw_gm h41 22 0 = pw_gm h34 22 0 := pw_Egm (c := 22) h34I h41E rfl rfl 0
                        have he47 : pw_gm h34 22 0 = pw_gm h30 22 0 := pw_Egm (c := 22) h30I h34E rfl rfl 0
                        have he48 : pw_gm h41 22 1 = pw_gm h34 22 1 := pw_Egm (c := 22) h34I h41E rfl rfl 1
                        have he49 : pw_gm h34 22 1 = pw_gm h30 22 1 := pw_Egm (c := 22) h30I h34E rfl rfl 1
                        obtain ⟨f50l, f50h, -⟩ := pw_obj (c := 22) h41I rfl
                        refine pw_call (m' := 14) (As := [.ref 38, .ref 39]) (rest := []) (ls'' := [some (.ref 38), some (.ref 39)]) (by omega) E rfl (fun _ => pw_iV rfl rfl rfl rfl (pw_cellI f50h rfl)) (rfl : pm_ent 14 = some (2, 2, 1, 4, pmc_14)) rfl rfl (cm_14_22g (by omega) h41I (by omega) (by omega) (by omega) (by omega) (by omega) (by omega) (by omega) (by omega)) ?_
                        rintro h51 v52 ⟨h51I, h51E, hqsub, rfl⟩
                        refine ⟨_, rfl, ?_⟩
                        have h51F := h41F.tr (h51E.wk (W' := [17, 18, 22, 23]) (by first | rfl | simp))
                        show pw X d h51 172 110 [some (.ref 16), some (pw_i b), some (pw_i e), some (pw_i kt), some (pw_i wt), some (pw_i x32)] [] _
                        have ms1 := pw_mulB (a := pw_gm h41 22 1) (b := pw_gm h41 23 1) (A := 576) (B := 576) (by omega) (by omega) (by omega) (by omega)
                        have ms2 := pw_mulS (a := pw_gm h41 22 0) (b := pw_gm h41 23 1) (A := 2304000) (B := 576) (by omega) (by omega) (by omega) (by omega)
                        have ms3 := pw_mulS (a := pw_gm h41 23 0) (b := pw_gm h41 22 1) (A := 2304000) (B := 576) (by omega) (by omega) (by omega) (by omega)
                        have ms4 := pw_gd_pos (x := pw_gm h41 22 0 * pw_gm h41 23 1 - pw_gm h41 23 0 * pw_gm h41 22 1) (y := pw_gm h41 22 1 * pw_gm h41 23 1) (by omega)
                        have ms5 := pw_tdB (a := pw_gm h41 22 0 * pw_gm h41 23 1 - pw_gm h41 23 0 * pw_gm h41 22 1) (b := pw_gd (pw_gm h41 22 0 * pw_gm h41 23 1 - pw_gm h41 23 0 * pw_gm h41 22 1) (pw_gm h41 22 1 * pw_gm h41 23 1)) (A := 2654208000) (by omega) (by omega) (by omega)
                        have ms6 := pw_tdB (a := pw_gm h41 22 1 * pw_gm h41 23 1) (b := pw_gd (pw_gm h41 22 0 * pw_gm h41 23 1 - pw_gm h41 23 0 * pw_gm h41 22 1) (pw_gm h41 22 1 * pw_gm h41 23 1)) (A := 331776) (by omega) (by omega) (by omega)
                        have ms7 := hqsub.1
                        have ms8 := hqsub.2
                        refine pw_ld E (pc' := 111) (st' := [.ref 16]) rfl (fun _ => rfl) ?_
                        refine pw_getR (b := 38) h51I E (c := 0) (k := 8) (pc' := 114) rfl rfl rfl rfl rfl rfl rfl ?_
                        refine pw_ld E (pc' := 116) (st' := [pw_i wt, .ref 38]) rfl (fun _ => rfl) ?_
                        obtain ⟨f53l, f53h, -⟩ := pw_obj (c := 22) h51I rfl
                        refine pw_call (m' := 9) (As := [.ref 38, pw_i wt]) (rest := []) (ls'' := [some (.ref 38), some (pw_i wt)]) (by omega) E rfl (fun _ => pw_iV rfl rfl rfl rfl (pw_cellI f53h rfl)) (rfl : pm_ent 9 = some (2, 2, 1, 2, pmc_9)) rfl rfl (cm_9_22g (by omega) h51I (wt) (by omega) (by omega) (by omega) (by omega) (by omega) (by omega)) ?_
                        rintro u55 v54 ⟨rfl, x56, rfl, hx56a, hx56b, hx56r⟩
                        refine ⟨_, rfl, ?_⟩
                        show pw X d h51 172 119 [some (.ref 16), some (pw_i b), some (pw_i e), some (pw_i kt), some (pw_i wt), some (pw_i x32)] [.long (Int64.ofInt x56)] _
                        have hx56r : (wt = 0 → x56 = pw_gm h51 22 0) ∧ (wt ≠ 0 → x56 = pw_gm h51 22 1) := hx56r
                        refine pw_lret E rfl ?_
                        have k0 : pw_gm h41 22 0 = Int.tdiv (pv_U (pv_sdc h b e) (pv_chc h b e)) (pw_gd (pv_U (pv_sdc h b e) (pv_chc h b e)) (pv_D (pv_sdc h b e))) := by omega
                        have k1 : pw_gm h41 22 1 = Int.tdiv (pv_D (pv_sdc h b e)) (pw_gd (pv_U (pv_sdc h b e) (pv_chc h b e)) (pv_D (pv_sdc h b e))) := by omega
                        have k2 : pw_gm h41 23 0 = Int.tdiv (pv_U (pv_lo (pv_sdc h b e) kt) (pv_chc h b e)) (pw_gd (pv_U (pv_lo (pv_sdc h b e) kt) (pv_chc h b e)) (pv_D (pv_lo (pv_sdc h b e) kt))) := by omega
                        have k3 : pw_gm h41 23 1 = Int.tdiv (pv_D (pv_lo (pv_sdc h b e) kt)) (pw_gd (pv_U (pv_lo (pv_sdc h b e) kt) (pv_chc h b e)) (pv_D (pv_lo (pv_sdc h b e) kt))) := by omega
                        have hs := hqsub
                        rw [k0, k1, k2, k3] at hs
                        have hp9 := pv_pick hs.1 hs.2 hx56r
                        rw [pv_less htd1.2 htdb1.2] at hp9
                        exact ⟨h51I, h51F, Or.inr ⟨_, rfl, by omega, by omega, by omega, ⟨hok, hok2⟩, hp9⟩⟩
                      · intro hc57
                        have hc57 : ¬ (x43 ≠ (0 : Int)) := hc57
                        exfalso; omega
                    · have hb58 : x43 = 0 := by omega
                      refine pw_if E (pc' := 99) rfl (by decide) (by omega) (by omega) ?_ ?_
                      · intro hc59
                        have hc59 : x43 ≠ (0 : Int) := hc59
                        exfalso; omega
                      · intro hc60
                        have hc60 : ¬ (x43 ≠ (0 : Int)) := hc60
                        refine pw_thr E rfl rfl h41I.2 ?_
                        exact ⟨h41I, h41F, Or.inl ⟨rfl, Or.inr (fun q => (hx43r.resolve_right (fun q => by have := q.1; omega)).2 (hFL1.eq.2.2.1.mpr q.2))⟩⟩
                · intro hc61
                  have hc61 : ¬ (x23 ≠ (0 : Int)) := hc61
                  exfalso; omega
              · have hb62 : x23 = 0 := by omega
                refine pw_if E (pc' := 45) rfl (by decide) (by omega) (by omega) ?_ ?_
                · intro hc63
                  have hc63 : x23 ≠ (0 : Int) := hc63
                  exfalso; omega
                · intro hc64
                  have hc64 : ¬ (x23 ≠ (0 : Int)) := hc64
                  refine pw_thr E rfl rfl I.2 ?_
                  exact ⟨I, E0, Or.inl ⟨rfl, Or.inl (by omega)⟩⟩
          · have hb65 : x16 = 0 := by omega
            refine pw_if E (pc' := 37) rfl (by decide) (by omega) (by omega) ?_ ?_
            · intro hc66
              have hc66 : x16 = (0 : Int) := hc66
              refine pw_thr E rfl rfl I.2 ?_
              exact ⟨I, E0, Or.inl ⟨rfl, Or.inl (by omega)⟩⟩
            · intro hc67
              have hc67 : ¬ (x16 = (0 : Int)) := hc67
              exfalso; omega
      · have hb68 : x10 = 0 := by omega
        refine pw_if E (pc' := 37) rfl (by decide) (by omega) (by omega) ?_ ?_
        · intro hc69
          have hc69 : x10 = (0 : Int) := hc69
          refine pw_thr E rfl rfl I.2 ?_
          exact ⟨I, E0, Or.inl ⟨rfl, Or.inl (by omega)⟩⟩
        · intro hc70
          have hc70 : ¬ (x10 = (0 : Int)) := hc70
          exfalso; omega
  · have hb71 : x3 = 0 := by omega
    refine pw_if E (pc' := 37) rfl (by decide) (by omega) (by omega) ?_ ?_
    · intro hc72
      have hc72 : x3 = (0 : Int) := hc72
      refine pw_thr E rfl rfl I.2 ?_
      exact ⟨I, E0, Or.inl ⟨rfl, Or.inl (by omega)⟩⟩
    · intro hc73
      have hc73 : ¬ (x3 = (0 : Int)) := hc73
      exfalso; omega
set_option maxHeartbeats 4000000 in
theorem cm_224_s {X : List (Nat × List Value)} {d : Nat} {h : pm_H} (hd : 5 ≤ d) (I : pw_I h) (b : Int) (hb1 : (-2147483648) ≤ b) (hb2 : b ≤ 2147483647) (e : Int) (he1 : (-2147483648) ≤ e) (he2 : e ≤ 2147483647) (kt : Int) (hkt1 : (-2147483648) ≤ kt) (hkt2 : kt ≤ 2147483647) (wt : Int) (hwt1 : (-2147483648) ≤ wt) (hwt2 : wt ≤ 2147483647) : pw X d h 224 0 [some (.ref 141), some (pw_i b), some (pw_i e), some (pw_i kt), some (pw_i wt), none, none, none, none] [] (fun h' v => pw_I h' ∧ pw_E [125] h h' ∧ ∃ a : Int, v = .inl (some (.long (Int64.ofInt a))) ∧ (-1099511627776) ≤ a ∧ a ≤ 1099511627776 ∧ ((pw_g h' 125 0 = 1 ∧ (¬ (0 ≤ b ∧ b ≤ 11 ∧ 0 ≤ e ∧ e ≤ 11 ∧ b ≠ e ∧ 0 ≤ kt ∧ kt ≤ 23 ∧ pw_g h 131 kt.toNat = 1 ∧ 0 ≤ wt ∧ wt ≤ 1 ∧ pw_g h 138 (12 * kt + b).toNat ≠ 0 ∧ pw_g h 138 (12 * kt + e).toNat ≠ 0) ∨ ¬ (pv_OK (pv_sdm h b e) ∧ pv_OK (pv_lo (pv_sdm h b e) kt)))) ∨ (pw_g h' 125 0 = 0 ∧ (0 ≤ b ∧ b ≤ 11 ∧ 0 ≤ e ∧ e ≤ 11 ∧ b ≠ e ∧ 0 ≤ kt ∧ kt ≤ 23 ∧ pw_g h 131 kt.toNat = 1 ∧ 0 ≤ wt ∧ wt ≤ 1 ∧ pw_g h 138 (12 * kt + b).toNat ≠ 0 ∧ pw_g h 138 (12 * kt + e).toNat ≠ 0) ∧ (pv_OK (pv_sdm h b e) ∧ pv_OK (pv_lo (pv_sdm h b e) kt)) ∧ a = pv_LW (pv_U (pv_sdm h b e) (pv_chm h b e) * pv_D (pv_lo (pv_sdm h b e) kt) - pv_U (pv_lo (pv_sdm h b e) kt) (pv_chm h b e) * pv_D (pv_sdm h b e)) (pv_D (pv_sdm h b e) * pv_D (pv_lo (pv_sdm h b e) kt)) wt))) := by
  have E : pm_ent 224 = some (5, 9, 12, 2, pmc_224) := rfl
  have E0 : pw_E [125] h h := pw_E.rf _ _
  refine pw_ld E (pc' := 1) (st' := [.ref 141]) rfl (fun _ => rfl) ?_
  refine pw_ld E (pc' := 2) (st' := [pw_i b, .ref 141]) rfl (fun _ => rfl) ?_
  refine pw_ld E (pc' := 3) (st' := [pw_i e, pw_i b, .ref 141]) rfl (fun _ => rfl) ?_
  refine pw_call (m' := 213) (As := [pw_i b, pw_i e]) (rest := [.ref 141]) (ls'' := [some (pw_i b), some (pw_i e)]) (by omega) E rfl (fun _ => pw_iS rfl rfl rfl) (rfl : pm_ent 213 = some (2, 2, 12, 1, pmc_213)) rfl rfl (cm_213_s (by omega) I (b) (by omega) (by omega) (e) (by omega) (by omega)) ?_
  rintro u2 v1 ⟨rfl, x3, rfl, hx3a, hx3b, hx3r⟩
  refine ⟨_, rfl, ?_⟩
  show pw X d h 224 6 [some (.ref 141), some (pw_i b), some (pw_i e), some (pw_i kt), some (pw_i wt), none, none, none, none] [pw_i x3, .ref 141] _
  have hx3r : (x3 = 1 ∧ 0 ≤ b ∧ b ≤ 11 ∧ 0 ≤ e ∧ e ≤ 11 ∧ b ≠ e) ∨ (x3 = 0 ∧ ¬ (0 ≤ b ∧ b ≤ 11 ∧ 0 ≤ e ∧ e ≤ 11 ∧ b ≠ e)) := hx3r
  rcases (by omega : x3 = 1 ∨ x3 = 0) with hb4 | hb4
  · have hb4 : x3 = 1 := by omega
    refine pw_if E (pc' := 49) rfl (by decide) (by omega) (by omega) ?_ ?_
    · intro hc5
      have hc5 : x3 = (0 : Int) := hc5
      exfalso; omega
    · intro hc6
      have hc6 : ¬ (x3 = (0 : Int)) := hc6
      refine pw_ld E (pc' := 10) (st' := [.ref 141, .ref 141]) rfl (fun _ => rfl) ?_
      refine pw_ld E (pc' := 11) (st' := [pw_i kt, .ref 141, .ref 141]) rfl (fun _ => rfl) ?_
      obtain ⟨f7l, f7h, -⟩ := pw_obj (c := 125) I rfl
      refine pw_call (m' := 204) (As := [.ref 141, pw_i kt]) (rest := [.ref 141]) (ls'' := [some (.ref 141), some (pw_i kt)]) (by omega) E rfl (fun _ => pw_iV rfl rfl rfl rfl (pw_cellI f7h rfl)) (rfl : pm_ent 204 = some (2, 2, 12, 1, pmc_204)) rfl rfl (cm_204_t (by omega) I (kt) (by omega) (by omega)) ?_
      rintro u9 v8 ⟨rfl, x10, rfl, hx10a, hx10b, hx10r⟩
      refine ⟨_, rfl, ?_⟩
      show pw X d h 224 14 [some (.ref 141), some (pw_i b), some (pw_i e), some (pw_i kt), some (pw_i wt), none, none, none, none] [pw_i x10, .ref 141] _
      have hx10r : (x10 = 1 ∧ 0 ≤ kt ∧ kt ≤ 23 ∧ pw_g h 131 kt.toNat = 1) ∨ (x10 = 0 ∧ ¬ (0 ≤ kt ∧ kt ≤ 23 ∧ pw_g h 131 kt.toNat = 1)) := hx10r
      rcases (by omega : x10 = 1 ∨ x10 = 0) with hb11 | hb11
      · have hb11 : x10 = 1 := by omega
        refine pw_if E (pc' := 49) rfl (by decide) (by omega) (by omega) ?_ ?_
        · intro hc12
          have hc12 : x10 = (0 : Int) := hc12
          exfalso; omega
        · intro hc13
          have hc13 : ¬ (x10 = (0 : Int)) := hc13
          refine pw_ld E (pc' := 18) (st' := [.ref 141, .ref 141]) rfl (fun _ => rfl) ?_
          refine pw_ld E (pc' := 19) (st' := [pw_i kt, .ref 141, .ref 141]) rfl (fun _ => rfl) ?_
          refine pw_ld E (pc' := 20) (st' := [pw_i b, pw_i kt, .ref 141, .ref 141]) rfl (fun _ => rfl) ?_
          refine pw_ld E (pc' := 21) (st' := [pw_i e, pw_i b, pw_i kt, .ref 141, .ref 141]) rfl (fun _ => rfl) ?_
          obtain ⟨f14l, f14h, -⟩ := pw_obj (c := 125) I rfl
          refine pw_call (m' := 214) (As := [.ref 141, pw_i kt, pw_i b, pw_i e]) (rest := [.ref 141]) (ls'' := [some (.ref 141), some (pw_i kt), some (pw_i b), some (pw_i e)]) (by omega) E rfl (fun _ => pw_iV rfl rfl rfl rfl (pw_cellI f14h rfl)) (rfl : pm_ent 214 = some (4, 4, 12, 1, pmc_214)) rfl rfl (cm_214_s (by omega) I (kt) (by omega) (by omega) (b) (by omega) (by omega) (e) (by omega) (by omega)) ?_
          rintro u16 v15 ⟨rfl, x17, rfl, hx17a, hx17b, hx17r⟩
          refine ⟨_, rfl, ?_⟩
          show pw X d h 224 24 [some (.ref 141), some (pw_i b), some (pw_i e), some (pw_i kt), some (pw_i wt), none, none, none, none] [pw_i x17, .ref 141] _
          have hx17r : (x17 = 1 ∧ pw_g h 131 kt.toNat ≠ 0 ∧ pw_g h 138 (12 * kt + b).toNat ≠ 0 ∧ pw_g h 138 (12 * kt + e).toNat ≠ 0) ∨ (x17 = 0 ∧ ¬ (pw_g h 131 kt.toNat ≠ 0 ∧ pw_g h 138 (12 * kt + b).toNat ≠ 0 ∧ pw_g h 138 (12 * kt + e).toNat ≠ 0)) := hx17r
          rcases (by omega : x17 = 1 ∨ x17 = 0) with hb18 | hb18
          · have hb18 : x17 = 1 := by omega
            refine pw_if E (pc' := 49) rfl (by decide) (by omega) (by omega) ?_ ?_
            · intro hc19
              have hc19 : x17 = (0 : Int) := hc19
              exfalso; omega
            · intro hc20
              have hc20 : ¬ (x17 = (0 : Int)) := hc20
              refine pw_ld E (pc' := 29) (st' := [pw_i wt, .ref 141]) rfl (fun _ => rfl) ?_
              refine pw_call (m' := 217) (As := [pw_i wt]) (rest := [.ref 141]) (ls'' := [some (pw_i wt)]) (by omega) E rfl (fun _ => pw_iS rfl rfl rfl) (rfl : pm_ent 217 = some (1, 1, 12, 1, pmc_217)) rfl rfl (cm_217 (by omega) I (wt) (by omega) (by omega)) ?_
              rintro u22 v21 ⟨rfl, x23, rfl, hx23a, hx23b, hx23r⟩
              refine ⟨_, rfl, ?_⟩
              show pw X d h 224 32 [some (.ref 141), some (pw_i b), some (pw_i e), some (pw_i kt), some (pw_i wt), none, none, none, none] [pw_i x23, .ref 141] _
              have hx23r : (x23 = 1 ∧ 0 ≤ wt ∧ wt ≤ 1) ∨ (x23 = 0 ∧ ¬ (0 ≤ wt ∧ wt ≤ 1)) := hx23r
              rcases (by omega : x23 = 1 ∨ x23 = 0) with hb24 | hb24
              · have hb24 : x23 = 1 := by omega
                refine pw_if E (pc' := 49) rfl (by decide) (by omega) (by omega) ?_ ?_
                · intro hc25
                  have hc25 : x23 = (0 : Int) := hc25
                  exfalso; omega
                · intro hc26
                  have hc26 : ¬ (x23 = (0 : Int)) := hc26
                  refine pw_ld E (pc' := 36) (st' := [.ref 141, .ref 141]) rfl (fun _ => rfl) ?_
                  refine pw_ld E (pc' := 37) (st' := [pw_i b, .ref 141, .ref 141]) rfl (fun _ => rfl) ?_
                  refine pw_ld E (pc' := 38) (st' := [pw_i e, pw_i b, .ref 141, .ref 141]) rfl (fun _ => rfl) ?_
                  refine pw_ld E (pc' := 39) (st' := [pw_i ((-1)), pw_i e, pw_i b, .ref 141, .ref 141]) rfl (fun _ => rfl) ?_
                  obtain ⟨f27l, f27h, -⟩ := pw_obj (c := 125) I rfl
                  refine pw_call (m' := 218) (As := [.ref 141, pw_i b, pw_i e, pw_i ((-1))]) (rest := [.ref 141]) (ls'' := [some (.ref 141), some (pw_i b), some (pw_i e), some (pw_i ((-1))), none]) (by omega) E rfl (fun _ => pw_iV rfl rfl rfl rfl (pw_cellI f27h rfl)) (rfl : pm_ent 218 = some (4, 5, 12, 1, pmc_218)) rfl rfl (cm_218_s (by omega) I (b) (by omega) (by omega) (e) (by omega) (by omega) ((-1)) (by omega) (by omega)) ?_
                  rintro h28 v29 ⟨h28I, h28E, x30, rfl, hx30a, hx30b, hx30r⟩
                  refine ⟨_, rfl, ?_⟩
                  have h28F := E0.tr (h28E.wk (W' := [125]) (by first | rfl | simp))
                  show pw X d h28 224 42 [some (.ref 141), some (pw_i b), some (pw_i e), some (pw_i kt), some (pw_i wt), none, none, none, none] [pw_i x30, .ref 141] _
                  have hx30r : ((x30 = 1 ∧ pv_OK (pv_lo (pv_sdm h b e) (-1))) ∨ (x30 = 0 ∧ ¬ pv_OK (pv_lo (pv_sdm h b e) (-1)))) ∧ pw_gm h28 125 24 = pv_U (pv_lo (pv_sdm h b e) (-1)) (pv_chm h b e) ∧ pw_gm h28 125 25 = pv_D (pv_lo (pv_sdm h b e) (-1)) ∧ pw_gm h28 125 26 = pv_S (pv_lo (pv_sdm h b e) (-1)) (pv_chm h b e) 0 24 ∧ pw_gm h28 125 27 = pv_N (pv_lo (pv_sdm h b e) (-1)) 0 24 ∧ pw_gm h28 125 28 = pv_S (pv_lo (pv_sdm h b e) (-1)) (pv_chm h b e) 1 24 ∧ pw_gm h28 125 29 = pv_N (pv_lo (pv_sdm h b e) (-1)) 1 24 := hx30r
                  rcases (by omega : x30 = 1 ∨ x30 = 0) with hb31 | hb31
                  · have hb31 : x30 = 1 := by omega
                    refine pw_if E (pc' := 49) rfl (by decide) (by omega) (by omega) ?_ ?_
                    · intro hc32
                      have hc32 : x30 = (0 : Int) := hc32
                      exfalso; omega
                    · intro hc33
                      have hc33 : ¬ (x30 = (0 : Int)) := hc33
                      rw [pv_lo_no] at hx30r
                      obtain ⟨r1, r4, r5, -⟩ := hx30r
                      have hok := (r1.resolve_right (fun q => by have := q.1; omega)).2
                      have hUB := pv_UB (sd := pv_sdm h b e) (ch := pv_chm h b e) (pv_chmB I (by omega) (by omega) (by omega) (by omega))
                      have hD1 := hUB.2.2.2.2 hok
                      refine pw_ld E (pc' := 46) (st' := [pw_i 0, .ref 141]) rfl (fun _ => rfl) ?_
                      refine pw_goto E (pc' := 50) rfl (by decide) ?_
                      refine pw_putI h28I E (c := 125) (k := 0) (pc' := 53) rfl rfl rfl rfl (by omega) (by omega) (by omega) (by omega) rfl rfl ?_
                      intro h34I h34E
                      generalize h34w : pw_w h28 125 0 (pw_i 0) = h34 at h34I h34E ⊢
                      have h34F := h28F.tr (h34E.wk (W' := [125]) (by first | rfl | simp))
                      refine pw_ld E (pc' := 54) (st' := [.ref 141]) rfl (fun _ => rfl) ?_
                      have he35 : pw_gm h34 125 24 = pw_gm h28 125 24 := by rw [← h34w]; exact pw_gm_ne (by omega)
                      refine pw_getLM h34I E (c := 125) (k := 24) (pc' := 57) rfl rfl rfl rfl rfl rfl ?_
                      refine pw_lst E (pc' := 59) (ls' := [some (.ref 141), some (pw_i b), some (pw_i e), some (pw_i kt), some (pw_i wt), some (.long (Int64.ofInt (pw_gm h34 125 24))), none, none, none]) rfl rfl rfl rfl ?_
                      refine pw_ld E (pc' := 60) (st' := [.ref 141]) rfl (fun _ => rfl) ?_
                      have he37 : pw_gm h34 125 25 = pw_gm h28 125 25 := by rw [← h34w]; exact pw_gm_ne (by omega)
                      refine pw_getM h34I E (c := 125) (k := 25) (pc' := 63) rfl rfl rfl rfl rfl rfl (fun hf36a hf36b => ?_)
                      refine pw_lst E (pc' := 65) (ls' := [some (.ref 141), some (pw_i b), some (pw_i e), some (pw_i kt), some (pw_i wt), some (.long (Int64.ofInt (pw_gm h34 125 24))), none, some (.long (Int64.ofInt (pw_gm h34 125 25))), none]) rfl rfl rfl rfl ?_
                      refine pw_ld E (pc' := 66) (st' := [.ref 141]) rfl (fun _ => rfl) ?_
                      refine pw_ld E (pc' := 67) (st' := [.ref 141, .ref 141]) rfl (fun _ => rfl) ?_
                      have he39 : pw_g h34 125 0 = 0 := by rw [← h34w]; exact pw_g_eq (c := 125) (k := 0) h28I rfl rfl (by omega) (by omega)
                      refine pw_getI h34I E (c := 125) (k := 0) (pc' := 70) rfl rfl rfl rfl rfl rfl (fun hf38a hf38b hf38c hf38d => ?_)
                      refine pw_if E (pc' := 83) rfl (by decide) (by omega) (by omega) ?_ ?_
                      · intro hc40
                        have hc40 : (0 : Int) < pw_g h34 125 0 := hc40
                        exfalso; omega
                      · intro hc41
                        have hc41 : ¬ ((0 : Int) < pw_g h34 125 0) := hc41
                        refine pw_ld E (pc' := 74) (st' := [.ref 141, .ref 141]) rfl (fun _ => rfl) ?_
                        refine pw_ld E (pc' := 75) (st' := [pw_i b, .ref 141, .ref 141]) rfl (fun _ => rfl) ?_
                        refine pw_ld E (pc' := 76) (st' := [pw_i e, pw_i b, .ref 141, .ref 141]) rfl (fun _ => rfl) ?_
                        refine pw_ld E (pc' := 77) (st' := [pw_i kt, pw_i e, pw_i b, .ref 141, .ref 141]) rfl (fun _ => rfl) ?_
                        obtain ⟨f42l, f42h, -⟩ := pw_obj (c := 125) h34I rfl
                        refine pw_call (m' := 218) (As := [.ref 141, pw_i b, pw_i e, pw_i kt]) (rest := [.ref 141]) (ls'' := [some (.ref 141), some (pw_i b), some (pw_i e), some (pw_i kt), none]) (by omega) E rfl (fun _ => pw_iV rfl rfl rfl rfl (pw_cellI f42h rfl)) (rfl : pm_ent 218 = some (4, 5, 12, 1, pmc_218)) rfl rfl (cm_218_s (by omega) h34I (b) (by omega) (by omega) (e) (by omega) (by omega) (kt) (by omega) (by omega)) ?_
                        rintro h43 v44 ⟨h43I, h43E, x45, rfl, hx45a, hx45b, hx45r⟩
                        refine ⟨_, rfl, ?_⟩
                        have h43F := h34F.tr (h43E.wk (W' := [125]) (by first | rfl | simp))
                        show pw X d h43 224 80 [some (.ref 141), some (pw_i b), some (pw_i e), some (pw_i kt), some (pw_i wt), some (.long (Int64.ofInt (pw_gm h34 125 24))), none, some (.long (Int64.ofInt (pw_gm h34 125 25))), none] [pw_i x45, .ref 141] _
                        have hx45r : ((x45 = 1 ∧ pv_OK (pv_lo (pv_sdm h34 b e) kt)) ∨ (x45 = 0 ∧ ¬ pv_OK (pv_lo (pv_sdm h34 b e) kt))) ∧ pw_gm h43 125 24 = pv_U (pv_lo (pv_sdm h34 b e) kt) (pv_chm h34 b e) ∧ pw_gm h43 125 25 = pv_D (pv_lo (pv_sdm h34 b e) kt) ∧ pw_gm h43 125 26 = pv_S (pv_lo (pv_sdm h34 b e) kt) (pv_chm h34 b e) 0 24 ∧ pw_gm h43 125 27 = pv_N (pv_lo (pv_sdm h34 b e) kt) 0 24 ∧ pw_gm h43 125 28 = pv_S (pv_lo (pv_sdm h34 b e) kt) (pv_chm h34 b e) 1 24 ∧ pw_gm h43 125 29 = pv_N (pv_lo (pv_sdm h34 b e) kt) 1 24 := hx45r
                        rcases (by omega : x45 = 1 ∨ x45 = 0) with hb46 | hb46
                        · have hb46 : x45 = 1 := by omega
                          refine pw_if E (pc' := 87) rfl (by decide) (by omega) (by omega) ?_ ?_
                          · intro hc47
                            have hc47 : x45 ≠ (0 : Int) := hc47
                            obtain ⟨t1, t2⟩ := pv_sdmE (b := b) (e := e) I h34F rfl
                            rw [t1, t2] at hx45r
                            obtain ⟨u1, u4, u5, -⟩ := hx45r
                            have hok2 := (u1.resolve_right (fun q => by have := q.1; omega)).2
                            have hUB2 := pv_UB (sd := pv_lo (pv_sdm h b e) kt) (ch := pv_chm h b e) (pv_chmB I (by omega) (by omega) (by omega) (by omega))
                            have hD2 := hUB2.2.2.2.2 hok2
                            refine pw_ld E (pc' := 88) (st' := [pw_i 0, .ref 141]) rfl (fun _ => rfl) ?_
                            refine pw_putI h43I E (c := 125) (k := 0) (pc' := 91) rfl rfl rfl rfl (by omega) (by omega) (by omega) (by omega) rfl rfl ?_
                            intro h48I h48E
                            generalize h48w : pw_w h43 125 0 (pw_i 0) = h48 at h48I h48E ⊢
                            have h48F := h43F.tr (h48E.wk (W' := [125]) (by first | rfl | simp))
                            refine pw_ld E (pc' := 92) (st' := [.ref 141]) rfl (fun _ => rfl) ?_
                            have he50 : pw_g h48 125 0 = 0 := by rw [← h48w]; exact pw_g_eq (c := 125) (k := 0) h43I rfl rfl (by omega) (by omega)
                            refine pw_getI h48I E (c := 125) (k := 0) (pc' := 95) rfl rfl rfl rfl rfl rfl (fun hf49a hf49b hf49c hf49d => ?_)
                            refine pw_if E (pc' := 100) rfl (by decide) (by omega) (by omega) ?_ ?_
                            · intro hc51
                              have hc51 : pw_g h48 125 0 ≤ (0 : Int) := hc51
                              have he52 : pw_gm h48 125 24 = pw_gm h43 125 24 := by rw [← h48w]; exact pw_gm_ne (by omega)
                              have he53 : pw_gm h48 125 25 = pw_gm h43 125 25 := by rw [← h48w]; exact pw_gm_ne (by omega)
                              have a4 : pw_gm h34 125 24 = pv_U (pv_sdm h b e) (pv_chm h b e) := by omega
                              have a5 : pw_gm h34 125 25 = pv_D (pv_sdm h b e) := by omega
                              have b4 : pw_gm h48 125 24 = pv_U (pv_lo (pv_sdm h b e) kt) (pv_chm h b e) := by omega
                              have b5 : pw_gm h48 125 25 = pv_D (pv_lo (pv_sdm h b e) kt) := by omega
                              refine pw_ld E (pc' := 101) (st' := [.ref 141]) rfl (fun _ => rfl) ?_
                              refine pw_ld E (pc' := 103) (st' := [.long (Int64.ofInt (pw_gm h34 125 24)), .ref 141]) rfl (fun _ => rfl) ?_
                              refine pw_ld E (pc' := 104) (st' := [.ref 141, .long (Int64.ofInt (pw_gm h34 125 24)), .ref 141]) rfl (fun _ => rfl) ?_
                              refine pw_getM h48I E (c := 125) (k := 25) (pc' := 107) rfl rfl rfl rfl rfl rfl (fun hf54a hf54b => ?_)
                              have hm55 := pw_mulS (a := pw_gm h34 125 24) (b := pw_gm h48 125 25) (A := 2304000) (B := 576) (by omega) (by omega) (by omega) (by omega)
                              refine pw_lmul E (pc' := 108) rfl rfl ?_
                              refine pw_ld E (pc' := 109) (st' := [.ref 141, .long (Int64.ofInt ((pw_gm h34 125 24) * (pw_gm h48 125 25))), .ref 141]) rfl (fun _ => rfl) ?_
                              refine pw_getLM h48I E (c := 125) (k := 24) (pc' := 112) rfl rfl rfl rfl rfl rfl ?_
                              refine pw_ld E (pc' := 114) (st' := [.long (Int64.ofInt (pw_gm h34 125 25)), .long (Int64.ofInt (pw_gm h48 125 24)), .long (Int64.ofInt ((pw_gm h34 125 24) * (pw_gm h48 125 25))), .ref 141]) rfl (fun _ => rfl) ?_
                              have hm56 := pw_mulS (a := pw_gm h48 125 24) (b := pw_gm h34 125 25) (A := 2304000) (B := 576) (by omega) (by omega) (by omega) (by omega)
                              refine pw_lmul E (pc' := 115) rfl rfl ?_
                              refine pw_lsub E (pc' := 116) rfl rfl ?_
                              refine pw_putL h48I E (c := 125) (k := 24) (pc' := 119) rfl rfl rfl rfl rfl rfl ?_
                              intro h57I h57E
                              generalize h57w : pw_w h48 125 24 (.long (Int64.ofInt (((pw_gm h34 125 24) * (pw_gm h48 125 25)) - ((pw_gm h48 125 24) * (pw_gm h34 125 25))))) = h57 at h57I h57E ⊢
                              have h57F := h48F.tr (h57E.wk (W' := [125]) (by first | rfl | simp))
                              have he58 : pw_gm h57 125 25 = pw_gm h48 125 25 := by rw [← h57w]; exact pw_gm_ne (by omega)
                              refine pw_ld E (pc' := 120) (st' := [.ref 141]) rfl (fun _ => rfl) ?_
                              refine pw_ld E (pc' := 122) (st' := [.long (Int64.ofInt (pw_gm h34 125 25)), .ref 141]) rfl (fun _ => rfl) ?_
                              refine pw_ld E (pc' := 123) (st' := [.ref 141, .long (Int64.ofInt (pw_gm h34 125 25)), .ref 141]) rfl (fun _ => rfl) ?_
                              refine pw_getM h57I E (c := 125) (k := 25) (pc' := 126) rfl rfl rfl rfl rfl rfl (fun hf59a hf59b => ?_)
                              have hm60 := pw_mulB (a := pw_gm h34 125 25) (b := pw_gm h57 125 25) (A := 576) (B := 576) (by omega) (by omega) (by omega) (by omega)
                              refine pw_lmul E (pc' := 127) rfl rfl ?_
                              have eY : (pw_gm h34 125 25) * (pw_gm h57 125 25) = pv_D (pv_sdm h b e) * pv_D (pv_lo (pv_sdm h b e) kt) := by rw [a5, show pw_gm h57 125 25 = pv_D (pv_lo (pv_sdm h b e) kt) by omega]
                              refine pw_putM h57I E (c := 125) (k := 25) (pc' := 130) rfl rfl rfl rfl (by omega) (by omega) (by omega) (by omega) rfl rfl ?_
                              intro h61I h61E
                              generalize h61w : pw_w h57 125 25 (.long (Int64.ofInt ((pw_gm h34 125 25) * (pw_gm h57 125 25)))) = h61 at h61I h61E ⊢
                              have h61F := h57F.tr (h61E.wk (W' := [125]) (by first | rfl | simp))
                              have he62 : pw_gm h61 125 24 = pw_gm h57 125 24 := by rw [← h61w]; exact pw_gm_ne (by omega)
                              have he63 : pw_gm h57 125 24 = ((pw_gm h34 125 24) * (pw_gm h48 125 25)) - ((pw_gm h48 125 24) * (pw_gm h34 125 25)) := by rw [← h57w]; exact pw_gm_eq (c := 125) (k := 24) h48I rfl rfl (by omega) (by omega)
                              have he64 : pw_gm h61 125 25 = (pw_gm h34 125 25) * (pw_gm h57 125 25) := by rw [← h61w]; exact pw_gm_eq (c := 125) (k := 25) h57I rfl rfl (by omega) (by omega)
                              have e4 : pw_gm h61 125 24 = pv_U (pv_sdm h b e) (pv_chm h b e) * pv_D (pv_lo (pv_sdm h b e) kt) - pv_U (pv_lo (pv_sdm h b e) kt) (pv_chm h b e) * pv_D (pv_sdm h b e) := by rw [← a4, ← a5, ← b4, ← b5]; omega
                              have e5 : pw_gm h61 125 25 = pv_D (pv_sdm h b e) * pv_D (pv_lo (pv_sdm h b e) kt) := by omega
                              have mb1 := pw_mulB (a := pv_D (pv_sdm h b e)) (b := pv_D (pv_lo (pv_sdm h b e) kt)) (A := 576) (B := 576) (by omega) (by omega) (by omega) (by omega)
                              refine pw_ld E (pc' := 131) (st' := [.ref 141]) rfl (fun _ => rfl) ?_
                              refine pw_ld E (pc' := 133) (st' := [pw_i wt, .ref 141]) rfl (fun _ => rfl) ?_
                              obtain ⟨f65l, f65h, -⟩ := pw_obj (c := 125) h61I rfl
                              refine pw_call (m' := 222) (As := [.ref 141, pw_i wt]) (rest := []) (ls'' := [some (.ref 141), some (pw_i wt), none, none]) (by omega) E rfl (fun _ => pw_iV rfl rfl rfl rfl (pw_cellI f65h rfl)) (rfl : pm_ent 222 = some (2, 4, 12, 2, pmc_222)) rfl rfl (cm_222_g (by omega) h61I (wt) (by omega) (by omega) (by omega) (by omega) (by omega) (by omega)) ?_
                              rintro u67 v66 ⟨rfl, x68, rfl, hx68a, hx68b, hx68r⟩
                              refine ⟨_, rfl, ?_⟩
                              show pw X d h61 224 136 [some (.ref 141), some (pw_i b), some (pw_i e), some (pw_i kt), some (pw_i wt), some (.long (Int64.ofInt (pw_gm h34 125 24))), none, some (.long (Int64.ofInt (pw_gm h34 125 25))), none] [.long (Int64.ofInt x68)] _
                              have hx68r : (wt = 0 → x68 = Int.tdiv (pw_gm h61 125 24) (pw_gd (pw_gm h61 125 24) (pw_gm h61 125 25))) ∧ (wt ≠ 0 → x68 = Int.tdiv (pw_gm h61 125 25) (pw_gd (pw_gm h61 125 24) (pw_gm h61 125 25))) := hx68r
                              have he69 : pw_g h61 125 0 = pw_g h57 125 0 := by rw [← h61w]; exact pw_g_ne (by omega)
                              have he70 : pw_g h57 125 0 = pw_g h48 125 0 := by rw [← h57w]; exact pw_g_ne (by omega)
                              refine pw_lret E rfl ?_
                              rw [e4, e5] at hx68r
                              exact ⟨h61I, h61F, ⟨_, rfl, by omega, by omega, Or.inr ⟨by omega, by omega, ⟨hok, hok2⟩, pv_low hx68r⟩⟩⟩
                            · intro hc71
                              have hc71 : ¬ (pw_g h48 125 0 ≤ (0 : Int)) := hc71
                              exfalso; omega
                          · intro hc72
                            have hc72 : ¬ (x45 ≠ (0 : Int)) := hc72
                            exfalso; omega
                        · have hb73 : x45 = 0 := by omega
                          refine pw_if E (pc' := 87) rfl (by decide) (by omega) (by omega) ?_ ?_
                          · intro hc74
                            have hc74 : x45 ≠ (0 : Int) := hc74
                            exfalso; omega
                          · intro hc75
                            have hc75 : ¬ (x45 ≠ (0 : Int)) := hc75
                            obtain ⟨t1, t2⟩ := pv_sdmE (b := b) (e := e) I h34F rfl
                            rw [t1, t2] at hx45r
                            refine pw_ld E (pc' := 84) (st' := [pw_i 1, .ref 141]) rfl (fun _ => rfl) ?_
                            refine pw_goto E (pc' := 88) rfl (by decide) ?_
                            refine pw_putI h43I E (c := 125) (k := 0) (pc' := 91) rfl rfl rfl rfl (by omega) (by omega) (by omega) (by omega) rfl rfl ?_
                            intro h76I h76E
                            generalize h76w : pw_w h43 125 0 (pw_i 1) = h76 at h76I h76E ⊢
                            have h76F := h43F.tr (h76E.wk (W' := [125]) (by first | rfl | simp))
                            refine pw_ld E (pc' := 92) (st' := [.ref 141]) rfl (fun _ => rfl) ?_
                            have he78 : pw_g h76 125 0 = 1 := by rw [← h76w]; exact pw_g_eq (c := 125) (k := 0) h43I rfl rfl (by omega) (by omega)
                            refine pw_getI h76I E (c := 125) (k := 0) (pc' := 95) rfl rfl rfl rfl rfl rfl (fun hf77a hf77b hf77c hf77d => ?_)
                            refine pw_if E (pc' := 100) rfl (by decide) (by omega) (by omega) ?_ ?_
                            · intro hc79
                              have hc79 : pw_g h76 125 0 ≤ (0 : Int) := hc79
                              exfalso; omega
                            · intro hc80
                              have hc80 : ¬ (pw_g h76 125 0 ≤ (0 : Int)) := hc80
                              refine pw_ld E (pc' := 99) (st' := [.long (Int64.ofInt 0)]) rfl (fun _ => rfl) ?_
                              refine pw_lret E rfl ?_
                              exact ⟨h76I, h76F, ⟨_, rfl, by omega, by omega, Or.inl ⟨by omega, Or.inr (fun q => (hx45r.1.resolve_left (fun q => by have := q.1; omega)).2 q.2)⟩⟩⟩
                  · have hb81 : x30 = 0 := by omega
                    refine pw_if E (pc' := 49) rfl (by decide) (by omega) (by omega) ?_ ?_
                    · intro hc82
                      have hc82 : x30 = (0 : Int) := hc82
                      rw [pv_lo_no] at hx30r
                      refine pw_ld E (pc' := 50) (st' := [pw_i 1, .ref 141]) rfl (fun _ => rfl) ?_
                      refine pw_putI h28I E (c := 125) (k := 0) (pc' := 53) rfl rfl rfl rfl (by omega) (by omega) (by omega) (by omega) rfl rfl ?_
                      intro h83I h83E
                      generalize h83w : pw_w h28 125 0 (pw_i 1) = h83 at h83I h83E ⊢
                      have h83F := h28F.tr (h83E.wk (W' := [125]) (by first | rfl | simp))
                      refine pw_ld E (pc' := 54) (st' := [.ref 141]) rfl (fun _ => rfl) ?_
                      have he84 : pw_gm h83 125 24 = pw_gm h28 125 24 := by rw [← h83w]; exact pw_gm_ne (by omega)
                      refine pw_getLM h83I E (c := 125) (k := 24) (pc' := 57) rfl rfl rfl rfl rfl rfl ?_
                      refine pw_lst E (pc' := 59) (ls' := [some (.ref 141), some (pw_i b), some (pw_i e), some (pw_i kt), some (pw_i wt), some (.long (Int64.ofInt (pw_gm h83 125 24))), none, none, none]) rfl rfl rfl rfl ?_
                      refine pw_ld E (pc' := 60) (st' := [.ref 141]) rfl (fun _ => rfl) ?_
                      have he86 : pw_gm h83 125 25 = pw_gm h28 125 25 := by rw [← h83w]; exact pw_gm_ne (by omega)
                      refine pw_getM h83I E (c := 125) (k := 25) (pc' := 63) rfl rfl rfl rfl rfl rfl (fun hf85a hf85b => ?_)
                      refine pw_lst E (pc' := 65) (ls' := [some (.ref 141), some (pw_i b), some (pw_i e), some (pw_i kt), some (pw_i wt), some (.long (Int64.ofInt (pw_gm h83 125 24))), none, some (.long (Int64.ofInt (pw_gm h83 125 25))), none]) rfl rfl rfl rfl ?_
                      refine pw_ld E (pc' := 66) (st' := [.ref 141]) rfl (fun _ => rfl) ?_
                      refine pw_ld E (pc' := 67) (st' := [.ref 141, .ref 141]) rfl (fun _ => rfl) ?_
                      have he88 : pw_g h83 125 0 = 1 := by rw [← h83w]; exact pw_g_eq (c := 125) (k := 0) h28I rfl rfl (by omega) (by omega)
                      refine pw_getI h83I E (c := 125) (k := 0) (pc' := 70) rfl rfl rfl rfl rfl rfl (fun hf87a hf87b hf87c hf87d => ?_)
                      refine pw_if E (pc' := 83) rfl (by decide) (by omega) (by omega) ?_ ?_
                      · intro hc89
                        have hc89 : (0 : Int) < pw_g h83 125 0 := hc89
                        refine pw_ld E (pc' := 84) (st' := [pw_i 1, .ref 141]) rfl (fun _ => rfl) ?_
                        refine pw_goto E (pc' := 88) rfl (by decide) ?_
                        refine pw_putI h83I E (c := 125) (k := 0) (pc' := 91) rfl rfl rfl rfl (by omega) (by omega) (by omega) (by omega) rfl rfl ?_
                        intro h90I h90E
                        generalize h90w : pw_w h83 125 0 (pw_i 1) = h90 at h90I h90E ⊢
                        have h90F := h83F.tr (h90E.wk (W' := [125]) (by first | rfl | simp))
                        refine pw_ld E (pc' := 92) (st' := [.ref 141]) rfl (fun _ => rfl) ?_
                        have he92 : pw_g h90 125 0 = 1 := by rw [← h90w]; exact pw_g_eq (c := 125) (k := 0) h83I rfl rfl (by omega) (by omega)
                        refine pw_getI h90I E (c := 125) (k := 0) (pc' := 95) rfl rfl rfl rfl rfl rfl (fun hf91a hf91b hf91c hf91d => ?_)
                        refine pw_if E (pc' := 100) rfl (by decide) (by omega) (by omega) ?_ ?_
                        · intro hc93
                          have hc93 : pw_g h90 125 0 ≤ (0 : Int) := hc93
                          exfalso; omega
                        · intro hc94
                          have hc94 : ¬ (pw_g h90 125 0 ≤ (0 : Int)) := hc94
                          refine pw_ld E (pc' := 99) (st' := [.long (Int64.ofInt 0)]) rfl (fun _ => rfl) ?_
                          refine pw_lret E rfl ?_
                          exact ⟨h90I, h90F, ⟨_, rfl, by omega, by omega, Or.inl ⟨by omega, Or.inr (fun q => (hx30r.1.resolve_left (fun q => by have := q.1; omega)).2 q.1)⟩⟩⟩
                      · intro hc95
                        have hc95 : ¬ ((0 : Int) < pw_g h83 125 0) := hc95
                        exfalso; omega
                    · intro hc96
                      have hc96 : ¬ (x30 = (0 : Int)) := hc96
                      exfalso; omega
              · have hb97 : x23 = 0 := by omega
                refine pw_if E (pc' := 49) rfl (by decide) (by omega) (by omega) ?_ ?_
                · intro hc98
                  have hc98 : x23 = (0 : Int) := hc98
                  refine pw_ld E (pc' := 50) (st' := [pw_i 1, .ref 141]) rfl (fun _ => rfl) ?_
                  refine pw_putI I E (c := 125) (k := 0) (pc' := 53) rfl rfl rfl rfl (by omega) (by omega) (by omega) (by omega) rfl rfl ?_
                  intro h99I h99E
                  generalize h99w : pw_w h 125 0 (pw_i 1) = h99 at h99I h99E ⊢
                  have h99F := E0.tr (h99E.wk (W' := [125]) (by first | rfl | simp))
                  refine pw_ld E (pc' := 54) (st' := [.ref 141]) rfl (fun _ => rfl) ?_
                  refine pw_getLM h99I E (c := 125) (k := 24) (pc' := 57) rfl rfl rfl rfl rfl rfl ?_
                  refine pw_lst E (pc' := 59) (ls' := [some (.ref 141), some (pw_i b), some (pw_i e), some (pw_i kt), some (pw_i wt), some (.long (Int64.ofInt (pw_gm h99 125 24))), none, none, none]) rfl rfl rfl rfl ?_
                  refine pw_ld E (pc' := 60) (st' := [.ref 141]) rfl (fun _ => rfl) ?_
                  refine pw_getM h99I E (c := 125) (k := 25) (pc' := 63) rfl rfl rfl rfl rfl rfl (fun hf100a hf100b => ?_)
                  refine pw_lst E (pc' := 65) (ls' := [some (.ref 141), some (pw_i b), some (pw_i e), some (pw_i kt), some (pw_i wt), some (.long (Int64.ofInt (pw_gm h99 125 24))), none, some (.long (Int64.ofInt (pw_gm h99 125 25))), none]) rfl rfl rfl rfl ?_
                  refine pw_ld E (pc' := 66) (st' := [.ref 141]) rfl (fun _ => rfl) ?_
                  refine pw_ld E (pc' := 67) (st' := [.ref 141, .ref 141]) rfl (fun _ => rfl) ?_
                  have he102 : pw_g h99 125 0 = 1 := by rw [← h99w]; exact pw_g_eq (c := 125) (k := 0) I rfl rfl (by omega) (by omega)
                  refine pw_getI h99I E (c := 125) (k := 0) (pc' := 70) rfl rfl rfl rfl rfl rfl (fun hf101a hf101b hf101c hf101d => ?_)
                  refine pw_if E (pc' := 83) rfl (by decide) (by omega) (by omega) ?_ ?_
                  · intro hc103
                    have hc103 : (0 : Int) < pw_g h99 125 0 := hc103
                    refine pw_ld E (pc' := 84) (st' := [pw_i 1, .ref 141]) rfl (fun _ => rfl) ?_
                    refine pw_goto E (pc' := 88) rfl (by decide) ?_
                    refine pw_putI h99I E (c := 125) (k := 0) (pc' := 91) rfl rfl rfl rfl (by omega) (by omega) (by omega) (by omega) rfl rfl ?_
                    intro h104I h104E
                    generalize h104w : pw_w h99 125 0 (pw_i 1) = h104 at h104I h104E ⊢
                    have h104F := h99F.tr (h104E.wk (W' := [125]) (by first | rfl | simp))
                    refine pw_ld E (pc' := 92) (st' := [.ref 141]) rfl (fun _ => rfl) ?_
                    have he106 : pw_g h104 125 0 = 1 := by rw [← h104w]; exact pw_g_eq (c := 125) (k := 0) h99I rfl rfl (by omega) (by omega)
                    refine pw_getI h104I E (c := 125) (k := 0) (pc' := 95) rfl rfl rfl rfl rfl rfl (fun hf105a hf105b hf105c hf105d => ?_)
                    refine pw_if E (pc' := 100) rfl (by decide) (by omega) (by omega) ?_ ?_
                    · intro hc107
                      have hc107 : pw_g h104 125 0 ≤ (0 : Int) := hc107
                      exfalso; omega
                    · intro hc108
                      have hc108 : ¬ (pw_g h104 125 0 ≤ (0 : Int)) := hc108
                      refine pw_ld E (pc' := 99) (st' := [.long (Int64.ofInt 0)]) rfl (fun _ => rfl) ?_
                      refine pw_lret E rfl ?_
                      exact ⟨h104I, h104F, ⟨_, rfl, by omega, by omega, Or.inl ⟨by omega, Or.inl (by omega)⟩⟩⟩
                  · intro hc109
                    have hc109 : ¬ ((0 : Int) < pw_g h99 125 0) := hc109
                    exfalso; omega
                · intro hc110
                  have hc110 : ¬ (x23 = (0 : Int)) := hc110
                  exfalso; omega
          · have hb111 : x17 = 0 := by omega
            refine pw_if E (pc' := 49) rfl (by decide) (by omega) (by omega) ?_ ?_
            · intro hc112
              have hc112 : x17 = (0 : Int) := hc112
              refine pw_ld E (pc' := 50) (st' := [pw_i 1, .ref 141]) rfl (fun _ => rfl) ?_
              refine pw_putI I E (c := 125) (k := 0) (pc' := 53) rfl rfl rfl rfl (by omega) (by omega) (by omega) (by omega) rfl rfl ?_
              intro h113I h113E
              generalize h113w : pw_w h 125 0 (pw_i 1) = h113 at h113I h113E ⊢
              have h113F := E0.tr (h113E.wk (W' := [125]) (by first | rfl | simp))
              refine pw_ld E (pc' := 54) (st' := [.ref 141]) rfl (fun _ => rfl) ?_
              refine pw_getLM h113I E (c := 125) (k := 24) (pc' := 57) rfl rfl rfl rfl rfl rfl ?_
              refine pw_lst E (pc' := 59) (ls' := [some (.ref 141), some (pw_i b), some (pw_i e), some (pw_i kt), some (pw_i wt), some (.long (Int64.ofInt (pw_gm h113 125 24))), none, none, none]) rfl rfl rfl rfl ?_
              refine pw_ld E (pc' := 60) (st' := [.ref 141]) rfl (fun _ => rfl) ?_
              refine pw_getM h113I E (c := 125) (k := 25) (pc' := 63) rfl rfl rfl rfl rfl rfl (fun hf114a hf114b => ?_)
              refine pw_lst E (pc' := 65) (ls' := [some (.ref 141), some (pw_i b), some (pw_i e), some (pw_i kt), some (pw_i wt), some (.long (Int64.ofInt (pw_gm h113 125 24))), none, some (.long (Int64.ofInt (pw_gm h113 125 25))), none]) rfl rfl rfl rfl ?_
              refine pw_ld E (pc' := 66) (st' := [.ref 141]) rfl (fun _ => rfl) ?_
              refine pw_ld E (pc' := 67) (st' := [.ref 141, .ref 141]) rfl (fun _ => rfl) ?_
              have he116 : pw_g h113 125 0 = 1 := by rw [← h113w]; exact pw_g_eq (c := 125) (k := 0) I rfl rfl (by omega) (by omega)
              refine pw_getI h113I E (c := 125) (k := 0) (pc' := 70) rfl rfl rfl rfl rfl rfl (fun hf115a hf115b hf115c hf115d => ?_)
              refine pw_if E (pc' := 83) rfl (by decide) (by omega) (by omega) ?_ ?_
              · intro hc117
                have hc117 : (0 : Int) < pw_g h113 125 0 := hc117
                refine pw_ld E (pc' := 84) (st' := [pw_i 1, .ref 141]) rfl (fun _ => rfl) ?_
                refine pw_goto E (pc' := 88) rfl (by decide) ?_
                refine pw_putI h113I E (c := 125) (k := 0) (pc' := 91) rfl rfl rfl rfl (by omega) (by omega) (by omega) (by omega) rfl rfl ?_
                intro h118I h118E
                generalize h118w : pw_w h113 125 0 (pw_i 1) = h118 at h118I h118E ⊢
                have h118F := h113F.tr (h118E.wk (W' := [125]) (by first | rfl | simp))
                refine pw_ld E (pc' := 92) (st' := [.ref 141]) rfl (fun _ => rfl) ?_
                have he120 : pw_g h118 125 0 = 1 := by rw [← h118w]; exact pw_g_eq (c := 125) (k := 0) h113I rfl rfl (by omega) (by omega)
                refine pw_getI h118I E (c := 125) (k := 0) (pc' := 95) rfl rfl rfl rfl rfl rfl (fun hf119a hf119b hf119c hf119d => ?_)
                refine pw_if E (pc' := 100) rfl (by decide) (by omega) (by omega) ?_ ?_
                · intro hc121
                  have hc121 : pw_g h118 125 0 ≤ (0 : Int) := hc121
                  exfalso; omega
                · intro hc122
                  have hc122 : ¬ (pw_g h118 125 0 ≤ (0 : Int)) := hc122
                  refine pw_ld E (pc' := 99) (st' := [.long (Int64.ofInt 0)]) rfl (fun _ => rfl) ?_
                  refine pw_lret E rfl ?_
                  exact ⟨h118I, h118F, ⟨_, rfl, by omega, by omega, Or.inl ⟨by omega, Or.inl (by omega)⟩⟩⟩
              · intro hc123
                have hc123 : ¬ ((0 : Int) < pw_g h113 125 0) := hc123
                exfalso; omega
            · intro hc124
              have hc124 : ¬ (x17 = (0 : Int)) := hc124
              exfalso; omega
      · have hb125 : x10 = 0 := by omega
        refine pw_if E (pc' := 49) rfl (by decide) (by omega) (by omega) ?_ ?_
        · intro hc126
          have hc126 : x10 = (0 : Int) := hc126
          refine pw_ld E (pc' := 50) (st' := [pw_i 1, .ref 141]) rfl (fun _ => rfl) ?_
          refine pw_putI I E (c := 125) (k := 0) (pc' := 53) rfl rfl rfl rfl (by omega) (by omega) (by omega) (by omega) rfl rfl ?_
          intro h127I h127E
          generalize h127w : pw_w h 125 0 (pw_i 1) = h127 at h127I h127E ⊢
          have h127F := E0.tr (h127E.wk (W' := [125]) (by first | rfl | simp))
          refine pw_ld E (pc' := 54) (st' := [.ref 141]) rfl (fun _ => rfl) ?_
          refine pw_getLM h127I E (c := 125) (k := 24) (pc' := 57) rfl rfl rfl rfl rfl rfl ?_
          refine pw_lst E (pc' := 59) (ls' := [some (.ref 141), some (pw_i b), some (pw_i e), some (pw_i kt), some (pw_i wt), some (.long (Int64.ofInt (pw_gm h127 125 24))), none, none, none]) rfl rfl rfl rfl ?_
          refine pw_ld E (pc' := 60) (st' := [.ref 141]) rfl (fun _ => rfl) ?_
          refine pw_getM h127I E (c := 125) (k := 25) (pc' := 63) rfl rfl rfl rfl rfl rfl (fun hf128a hf128b => ?_)
          refine pw_lst E (pc' := 65) (ls' := [some (.ref 141), some (pw_i b), some (pw_i e), some (pw_i kt), some (pw_i wt), some (.long (Int64.ofInt (pw_gm h127 125 24))), none, some (.long (Int64.ofInt (pw_gm h127 125 25))), none]) rfl rfl rfl rfl ?_
          refine pw_ld E (pc' := 66) (st' := [.ref 141]) rfl (fun _ => rfl) ?_
          refine pw_ld E (pc' := 67) (st' := [.ref 141, .ref 141]) rfl (fun _ => rfl) ?_
          have he130 : pw_g h127 125 0 = 1 := by rw [← h127w]; exact pw_g_eq (c := 125) (k := 0) I rfl rfl (by omega) (by omega)
          refine pw_getI h127I E (c := 125) (k := 0) (pc' := 70) rfl rfl rfl rfl rfl rfl (fun hf129a hf129b hf129c hf129d => ?_)
          refine pw_if E (pc' := 83) rfl (by decide) (by omega) (by omega) ?_ ?_
          · intro hc131
            have hc131 : (0 : Int) < pw_g h127 125 0 := hc131
            refine pw_ld E (pc' := 84) (st' := [pw_i 1, .ref 141]) rfl (fun _ => rfl) ?_
            refine pw_goto E (pc' := 88) rfl (by decide) ?_
            refine pw_putI h127I E (c := 125) (k := 0) (pc' := 91) rfl rfl rfl rfl (by omega) (by omega) (by omega) (by omega) rfl rfl ?_
            intro h132I h132E
            generalize h132w : pw_w h127 125 0 (pw_i 1) = h132 at h132I h132E ⊢
            have h132F := h127F.tr (h132E.wk (W' := [125]) (by first | rfl | simp))
            refine pw_ld E (pc' := 92) (st' := [.ref 141]) rfl (fun _ => rfl) ?_
            have he134 : pw_g h132 125 0 = 1 := by rw [← h132w]; exact pw_g_eq (c := 125) (k := 0) h127I rfl rfl (by omega) (by omega)
            refine pw_getI h132I E (c := 125) (k := 0) (pc' := 95) rfl rfl rfl rfl rfl rfl (fun hf133a hf133b hf133c hf133d => ?_)
            refine pw_if E (pc' := 100) rfl (by decide) (by omega) (by omega) ?_ ?_
            · intro hc135
              have hc135 : pw_g h132 125 0 ≤ (0 : Int) := hc135
              exfalso; omega
            · intro hc136
              have hc136 : ¬ (pw_g h132 125 0 ≤ (0 : Int)) := hc136
              refine pw_ld E (pc' := 99) (st' := [.long (Int64.ofInt 0)]) rfl (fun _ => rfl) ?_
              refine pw_lret E rfl ?_
              exact ⟨h132I, h132F, ⟨_, rfl, by omega, by omega, Or.inl ⟨by omega, Or.inl (by omega)⟩⟩⟩
          · intro hc137
            have hc137 : ¬ ((0 : Int) < pw_g h127 125 0) := hc137
            exfalso; omega
        · intro hc138
          have hc138 : ¬ (x10 = (0 : Int)) := hc138
          exfalso; omega
  · have hb139 : x3 = 0 := by omega
    refine pw_if E (pc' := 49) rfl (by decide) (by omega) (by omega) ?_ ?_
    · intro hc140
      have hc140 : x3 = (0 : Int) := hc140
      refine pw_ld E (pc' := 50) (st' := [pw_i 1, .ref 141]) rfl (fun _ => rfl) ?_
      refine pw_putI I E (c := 125) (k := 0) (pc' := 53) rfl rfl rfl rfl (by omega) (by omega) (by omega) (by omega) rfl rfl ?_
      intro h141I h141E
      generalize h141w : pw_w h 125 0 (pw_i 1) = h141 at h141I h141E ⊢
      have h141F := E0.tr (h141E.wk (W' := [125]) (by first | rfl | simp))
      refine pw_ld E (pc' := 54) (st' := [.ref 141]) rfl (fun _ => rfl) ?_
      refine pw_getLM h141I E (c := 125) (k := 24) (pc' := 57) rfl rfl rfl rfl rfl rfl ?_
      refine pw_lst E (pc' := 59) (ls' := [some (.ref 141), some (pw_i b), some (pw_i e), some (pw_i kt), some (pw_i wt), some (.long (Int64.ofInt (pw_gm h141 125 24))), none, none, none]) rfl rfl rfl rfl ?_
      refine pw_ld E (pc' := 60) (st' := [.ref 141]) rfl (fun _ => rfl) ?_
      refine pw_getM h141I E (c := 125) (k := 25) (pc' := 63) rfl rfl rfl rfl rfl rfl (fun hf142a hf142b => ?_)
      refine pw_lst E (pc' := 65) (ls' := [some (.ref 141), some (pw_i b), some (pw_i e), some (pw_i kt), some (pw_i wt), some (.long (Int64.ofInt (pw_gm h141 125 24))), none, some (.long (Int64.ofInt (pw_gm h141 125 25))), none]) rfl rfl rfl rfl ?_
      refine pw_ld E (pc' := 66) (st' := [.ref 141]) rfl (fun _ => rfl) ?_
      refine pw_ld E (pc' := 67) (st' := [.ref 141, .ref 141]) rfl (fun _ => rfl) ?_
      have he144 : pw_g h141 125 0 = 1 := by rw [← h141w]; exact pw_g_eq (c := 125) (k := 0) I rfl rfl (by omega) (by omega)
      refine pw_getI h141I E (c := 125) (k := 0) (pc' := 70) rfl rfl rfl rfl rfl rfl (fun hf143a hf143b hf143c hf143d => ?_)
      refine pw_if E (pc' := 83) rfl (by decide) (by omega) (by omega) ?_ ?_
      · intro hc145
        have hc145 : (0 : Int) < pw_g h141 125 0 := hc145
        refine pw_ld E (pc' := 84) (st' := [pw_i 1, .ref 141]) rfl (fun _ => rfl) ?_
        refine pw_goto E (pc' := 88) rfl (by decide) ?_
        refine pw_putI h141I E (c := 125) (k := 0) (pc' := 91) rfl rfl rfl rfl (by omega) (by omega) (by omega) (by omega) rfl rfl ?_
        intro h146I h146E
        generalize h146w : pw_w h141 125 0 (pw_i 1) = h146 at h146I h146E ⊢
        have h146F := h141F.tr (h146E.wk (W' := [125]) (by first | rfl | simp))
        refine pw_ld E (pc' := 92) (st' := [.ref 141]) rfl (fun _ => rfl) ?_
        have he148 : pw_g h146 125 0 = 1 := by rw [← h146w]; exact pw_g_eq (c := 125) (k := 0) h141I rfl rfl (by omega) (by omega)
        refine pw_getI h146I E (c := 125) (k := 0) (pc' := 95) rfl rfl rfl rfl rfl rfl (fun hf147a hf147b hf147c hf147d => ?_)
        refine pw_if E (pc' := 100) rfl (by decide) (by omega) (by omega) ?_ ?_
        · intro hc149
          have hc149 : pw_g h146 125 0 ≤ (0 : Int) := hc149
          exfalso; omega
        · intro hc150
          have hc150 : ¬ (pw_g h146 125 0 ≤ (0 : Int)) := hc150
          refine pw_ld E (pc' := 99) (st' := [.long (Int64.ofInt 0)]) rfl (fun _ => rfl) ?_
          refine pw_lret E rfl ?_
          exact ⟨h146I, h146F, ⟨_, rfl, by omega, by omega, Or.inl ⟨by omega, Or.inl (by omega)⟩⟩⟩
      · intro hc151
        have hc151 : ¬ ((0 : Int) < pw_g h141 125 0) := hc151
        exfalso; omega
    · intro hc152
      have hc152 : ¬ (x3 = (0 : Int)) := hc152
      exfalso; omega
