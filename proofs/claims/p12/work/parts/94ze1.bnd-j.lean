section
/-! bounds, exactly -/
set_option maxHeartbeats 4000000 in
theorem cm_133_s {X : List (Nat × List Value)} {d : Nat} {h : pm_H} (hd : 3 ≤ d) (I : pw_I h) (k : Int) (hk1 : 0 ≤ k) (hk2 : k ≤ 23) (mo : Int) (hmo1 : 0 ≤ mo) (hmo2 : mo ≤ 11) (z : Int) (hz1 : 0 ≤ z) (hz2 : z ≤ 1) : pw X d h 133 0 [some (.ref 16), some (pw_i k), some (pw_i mo), some (pw_i z)] [] (fun h' v => h = h' ∧ ∃ a : Int, v = .inl (some (pw_i a)) ∧ 0 ≤ a ∧ a ≤ 2000 ∧ (a = pv_bh h k mo z)) := by
  have E : pm_ent 133 = some (4, 4, 11, 0, pmc_133) := rfl
  refine pw_ld E (pc' := 1) (st' := [.ref 16]) rfl (fun _ => rfl) ?_
  refine pw_getR (b := 26) I E (c := 0) (k := 2) (pc' := 4) rfl rfl rfl rfl rfl rfl rfl ?_
  refine pw_ld E (pc' := 5) (st' := [pw_i k, .ref 26]) rfl (fun _ => rfl) ?_
  refine pw_ld E (pc' := 6) (st' := [pw_i mo, pw_i k, .ref 26]) rfl (fun _ => rfl) ?_
  obtain ⟨f1l, f1h, -⟩ := pw_obj (c := 10) I rfl
  refine pw_call (m' := 19) (As := [.ref 26, pw_i k, pw_i mo]) (rest := []) (ls'' := [some (.ref 26), some (pw_i k), some (pw_i mo)]) (Nat.le_trans (by decide) hd) E rfl (fun _ => pw_iV rfl rfl rfl rfl (pw_cellI f1h rfl)) (rfl : pm_ent 19 = some (3, 3, 2, 1, pmc_19)) rfl rfl (cm_19_10h (pw_dp hd (by decide)) I (k) (by omega) (by omega) (mo) (by omega) (by omega)) ?_
  rintro u3 v2 ⟨rfl, x4, rfl, hx4a, hx4b, hx4r⟩
  refine ⟨_, rfl, ?_⟩
  show pw X d h 133 9 [some (.ref 16), some (pw_i k), some (pw_i mo), some (pw_i z)] [pw_i x4] _
  change (x4 = 1 ∧ pw_g h 11 (k * 12 + mo).toNat = -2) ∨ (x4 = 0 ∧ pw_g h 11 (k * 12 + mo).toNat ≠ -2) at hx4r
  rcases (by omega : x4 = 1 ∨ x4 = 0) with hb5 | hb5
  · skip
    refine pw_if E (pc' := 26) rfl (by decide) (by omega) (by omega) ?_ ?_
    · intro hc6
      change x4 ≠ (0 : Int) at hc6
      refine pw_ld E (pc' := 27) (st' := [pw_i z]) rfl (fun _ => rfl) ?_
      refine pw_if E (pc' := 44) rfl (by decide) (by omega) (by omega) ?_ ?_
      · intro hc7
        change z = (0 : Int) at hc7
        refine pw_ld E (pc' := 45) (st' := [pw_i 0]) rfl (fun _ => rfl) ?_
        refine pw_iret E rfl ?_
        have ob := pv_bhI (h := h) (k := k) (mo := mo) (z := z)
        exact ⟨rfl, ⟨_, rfl, by omega, by omega, by omega⟩⟩
      · intro hc8
        change ¬ (z = (0 : Int)) at hc8
        refine pw_bip E (pc' := 32) rfl rfl (by decide) ?_
        refine pw_ld E (pc' := 33) (st' := [.ref 16, pw_i 10]) rfl (fun _ => rfl) ?_
        refine pw_getR (b := 17) I E (c := 0) (k := 0) (pc' := 36) rfl rfl rfl rfl rfl rfl rfl ?_
        refine pw_ld E (pc' := 37) (st' := [pw_i k, .ref 17, pw_i 10]) rfl (fun _ => rfl) ?_
        obtain ⟨f9l, f9h, -⟩ := pw_obj (c := 1) I rfl
        refine pw_call (m' := 61) (As := [.ref 17, pw_i k]) (rest := [pw_i 10]) (ls'' := [some (.ref 17), some (pw_i k)]) (Nat.le_trans (by decide) hd) E rfl (fun _ => pw_iV rfl rfl rfl rfl (pw_cellI f9h rfl)) (rfl : pm_ent 61 = some (2, 2, 6, 0, pmc_61)) rfl rfl (cm_61 (pw_dp hd (by decide)) I (k) (by omega) (by omega)) ?_
        rintro u11 v10 ⟨rfl, x12, rfl, hx12a, hx12b, hx12r⟩
        refine ⟨_, rfl, ?_⟩
        show pw X d h 133 40 [some (.ref 16), some (pw_i k), some (pw_i mo), some (pw_i z)] [pw_i x12, pw_i 10] _
        change x12 = pw_g h 6 k.toNat at hx12r
        refine pw_mul E (pc' := 41) rfl rfl ?_
        refine pw_goto E (pc' := 45) rfl (by decide) ?_
        refine pw_iret E rfl ?_
        have ob := pv_bhI (h := h) (k := k) (mo := mo) (z := z)
        exact ⟨rfl, ⟨_, rfl, by omega, by omega, by omega⟩⟩
    · intro hc13
      change ¬ (x4 ≠ (0 : Int)) at hc13
      exfalso; omega
  · skip
    refine pw_if E (pc' := 26) rfl (by decide) (by omega) (by omega) ?_ ?_
    · intro hc15
      change x4 ≠ (0 : Int) at hc15
      exfalso; omega
    · intro hc16
      change ¬ (x4 ≠ (0 : Int)) at hc16
      refine pw_ld E (pc' := 13) (st' := [.ref 16]) rfl (fun _ => rfl) ?_
      refine pw_getR (b := 26) I E (c := 0) (k := 2) (pc' := 16) rfl rfl rfl rfl rfl rfl rfl ?_
      refine pw_ld E (pc' := 17) (st' := [pw_i k, .ref 26]) rfl (fun _ => rfl) ?_
      refine pw_ld E (pc' := 18) (st' := [pw_i mo, pw_i k, .ref 26]) rfl (fun _ => rfl) ?_
      refine pw_ld E (pc' := 19) (st' := [.ref 16, pw_i mo, pw_i k, .ref 26]) rfl (fun _ => rfl) ?_
      refine pw_getI2 I E (c := 0) (k := 6) (pc' := 22) rfl rfl rfl rfl rfl rfl (fun hf17a hf17b => ?_)
      obtain ⟨f18l, f18h, -⟩ := pw_obj (c := 10) I rfl
      refine pw_call (m' := 20) (As := [.ref 26, pw_i k, pw_i mo, pw_i (pw_g h 0 6)]) (rest := []) (ls'' := [some (.ref 26), some (pw_i k), some (pw_i mo), some (pw_i (pw_g h 0 6))]) (Nat.le_trans (by decide) hd) E rfl (fun _ => pw_iV rfl rfl rfl rfl (pw_cellI f18h rfl)) (rfl : pm_ent 20 = some (4, 4, 2, 0, pmc_20)) rfl rfl (cm_20_10h (pw_dp hd (by decide)) I (k) (by omega) (by omega) (mo) (by omega) (by omega) (pw_g h 0 6) (by omega) (by omega)) ?_
      rintro u20 v19 ⟨rfl, x21, rfl, hx21a, hx21b, hx21r⟩
      refine ⟨_, rfl, ?_⟩
      show pw X d h 133 25 [some (.ref 16), some (pw_i k), some (pw_i mo), some (pw_i z)] [pw_i x21] _
      change x21 = (max 0 (pw_g h 11 (k * 12 + mo).toNat) / 100) * 10 + (max 0 (pw_g h 11 (k * 12 + mo).toNat) % 100) * (pw_g h 0 6) at hx21r
      refine pw_iret E rfl ?_
      have ob := pv_bhI (h := h) (k := k) (mo := mo) (z := z)
      have hy : x21 = pw_hc (pw_g h 11 (k * 12 + mo).toNat) (pw_g h 0 6) := hx21r
      exact ⟨rfl, ⟨_, rfl, by omega, by omega, by omega⟩⟩
set_option maxHeartbeats 4000000 in
theorem cm_132_s {X : List (Nat × List Value)} {d : Nat} {h : pm_H} (hd : 4 ≤ d) (I : pw_I h) (b : Int) (hb1 : 0 ≤ b) (hb2 : b ≤ 11) (e : Int) (he1 : 0 ≤ e) (he2 : e ≤ 11) (z : Int) (hz1 : 0 ≤ z) (hz2 : z ≤ 1) : pw X d h 132 0 [some (.ref 16), some (pw_i b), some (pw_i e), some (pw_i z), none, none, none] [] (fun h' v => pw_I h' ∧ pw_E [17, 18] h h' ∧ (pv_FL h' (pv_sdb h) (pv_chb h z b e) 24) ∧ (v = .inl none)) := by
  have E : pm_ent 132 = some (4, 7, 11, 4, pmc_132) := rfl
  have E0 : pw_E [17, 18] h h := pw_E.rf _ _
  refine pw_ld E (pc' := 1) (st' := [.ref 16]) rfl (fun _ => rfl) ?_
  refine pw_getR (b := 32) I E (c := 0) (k := 7) (pc' := 4) rfl rfl rfl rfl rfl rfl rfl ?_
  obtain ⟨f1l, f1h, -⟩ := pw_obj (c := 16) I rfl
  refine pw_call (m' := 81) (As := [.ref 32]) (rest := []) (ls'' := [some (.ref 32)]) (Nat.le_trans (by decide) hd) E rfl (fun _ => pw_iV rfl rfl rfl rfl (pw_cellI f1h rfl)) (rfl : pm_ent 81 = some (1, 1, 8, 4, pmc_81)) rfl rfl (cm_81_s (pw_dp hd (by decide)) I ) ?_
  rintro h2 v3 ⟨h2I, h2E, hqclear, rfl⟩
  refine ⟨_, rfl, ?_⟩
  have h2F := E0.tr (h2E.wk (W' := [17, 18]) (by first | rfl | simp))
  show pw X d h2 132 7 [some (.ref 16), some (pw_i b), some (pw_i e), some (pw_i z), none, none, none] [] _
  refine pw_ld E (pc' := 8) (st' := [pw_i 0]) rfl (fun _ => rfl) ?_
  refine pw_ist E (pc' := 10) (ls' := [some (.ref 16), some (pw_i b), some (pw_i e), some (pw_i z), some (pw_i 0), none, none]) rfl rfl rfl rfl ?_
  have L10 : ∀ (n10 : Nat) (k10_4 : Int) (k10_5 : Option Value) (k10_6 : Option Value) (gh10 : pm_H), pw_I gh10 → pw_E [17, 18] h gh10 → 0 ≤ k10_4 → k10_4 ≤ 24 → pv_FL gh10 (pv_sdb h) (pv_chb h z b e) k10_4 → (24 - k10_4).toNat = n10 → pw X d gh10 132 10 [some (.ref 16), some (pw_i b), some (pw_i e), some (pw_i z), some (pw_i k10_4), k10_5, k10_6] [] (fun h' v => pw_I h' ∧ pw_E [17, 18] h h' ∧ (pv_FL h' (pv_sdb h) (pv_chb h z b e) 24) ∧ (v = .inl none)) := by
    intro n10
    induction n10 using Nat.strongRecOn with
    | ind n10 ih10 =>
      intro k10_4 k10_5 k10_6 gh10 I10 E10 k10_4a k10_4b hx10_0 hm10
      refine pw_ld E (pc' := 12) (st' := [pw_i k10_4]) rfl (fun _ => rfl) ?_
      refine pw_bip E (pc' := 14) rfl rfl (by decide) ?_
      refine pw_if2 E (pc' := 112) rfl (by decide) (by omega) (by omega) (by decide) (by decide) ?_ ?_
      · intro hc4
        change (24 : Int) ≤ k10_4 at hc4
        refine pw_vret E rfl ?_
        exact ⟨I10, E10, ⟨(by rw [show (24 : Int) = k10_4 by omega]; exact hx10_0), rfl⟩⟩
      · intro hc5
        change ¬ ((24 : Int) ≤ k10_4) at hc5
        have o1 := pv_sdb_I (h := h) (k := k10_4) (by omega)
        have oc := pv_chb_I (h := h) (z := z) (b := b) (e := e) (k := k10_4) (by omega)
        have q2 : pw_g gh10 2 (k10_4).toNat = pw_g h 2 (k10_4).toNat := pw_Eg (c := 2) I E10 rfl rfl _
        have q4 : pw_g gh10 4 (k10_4).toNat = pw_g h 4 (k10_4).toNat := pw_Eg (c := 4) I E10 rfl rfl _
        have rb0 : pv_bh gh10 k10_4 b 0 = pv_bh h k10_4 b 0 := pv_bhE I E10 rfl
        have rb1 : pv_bh gh10 k10_4 b 1 = pv_bh h k10_4 b 1 := pv_bhE I E10 rfl
        have re0 : pv_bh gh10 k10_4 e 0 = pv_bh h k10_4 e 0 := pv_bhE I E10 rfl
        have re1 : pv_bh gh10 k10_4 e 1 = pv_bh h k10_4 e 1 := pv_bhE I E10 rfl
        refine pw_ld E (pc' := 18) (st' := [.ref 16]) rfl (fun _ => rfl) ?_
        refine pw_getR (b := 17) I10 E (c := 0) (k := 0) (pc' := 21) rfl rfl rfl rfl rfl rfl rfl ?_
        refine pw_ld E (pc' := 23) (st' := [pw_i k10_4, .ref 17]) rfl (fun _ => rfl) ?_
        obtain ⟨f6l, f6h, -⟩ := pw_obj (c := 1) I10 rfl
        refine pw_call (m' := 59) (As := [.ref 17, pw_i k10_4]) (rest := []) (ls'' := [some (.ref 17), some (pw_i k10_4)]) (Nat.le_trans (by decide) hd) E rfl (fun _ => pw_iV rfl rfl rfl rfl (pw_cellI f6h rfl)) (rfl : pm_ent 59 = some (2, 2, 6, 1, pmc_59)) rfl rfl (cm_59 (pw_dp hd (by decide)) I10 (k10_4) (by omega) (by omega)) ?_
        rintro u8 v7 ⟨rfl, x9, rfl, hx9a, hx9b, hx9r⟩
        refine ⟨_, rfl, ?_⟩
        show pw X d gh10 132 26 [some (.ref 16), some (pw_i b), some (pw_i e), some (pw_i z), some (pw_i k10_4), k10_5, k10_6] [pw_i x9] _
        change x9 = pw_g gh10 2 k10_4.toNat at hx9r
        rcases (by omega : x9 = 1 ∨ x9 = 0) with hb10 | hb10
        · skip
          refine pw_if E (pc' := 106) rfl (by decide) (by omega) (by omega) ?_ ?_
          · intro hc11
            change x9 = (0 : Int) at hc11
            exfalso; omega
          · intro hc12
            change ¬ (x9 = (0 : Int)) at hc12
            refine pw_ld E (pc' := 30) (st' := [.ref 16]) rfl (fun _ => rfl) ?_
            refine pw_getR (b := 17) I10 E (c := 0) (k := 0) (pc' := 33) rfl rfl rfl rfl rfl rfl rfl ?_
            refine pw_ld E (pc' := 35) (st' := [pw_i k10_4, .ref 17]) rfl (fun _ => rfl) ?_
            obtain ⟨f13l, f13h, -⟩ := pw_obj (c := 1) I10 rfl
            refine pw_call (m' := 60) (As := [.ref 17, pw_i k10_4]) (rest := []) (ls'' := [some (.ref 17), some (pw_i k10_4)]) (Nat.le_trans (by decide) hd) E rfl (fun _ => pw_iV rfl rfl rfl rfl (pw_cellI f13h rfl)) (rfl : pm_ent 60 = some (2, 2, 6, 0, pmc_60)) rfl rfl (cm_60 (pw_dp hd (by decide)) I10 (k10_4) (by omega) (by omega)) ?_
            rintro u15 v14 ⟨rfl, x16, rfl, hx16a, hx16b, hx16r⟩
            refine ⟨_, rfl, ?_⟩
            show pw X d gh10 132 38 [some (.ref 16), some (pw_i b), some (pw_i e), some (pw_i z), some (pw_i k10_4), k10_5, k10_6] [pw_i x16] _
            change x16 = pw_g gh10 4 k10_4.toNat at hx16r
            refine pw_if E (pc' := 45) rfl (by decide) (by omega) (by omega) ?_ ?_
            · intro hc17
              change x16 ≠ (0 : Int) at hc17
              refine pw_ld E (pc' := 46) (st' := [pw_i 0]) rfl (fun _ => rfl) ?_
              refine pw_ld E (pc' := 47) (st' := [pw_i z, pw_i 0]) rfl (fun _ => rfl) ?_
              refine pw_if2 E (pc' := 54) rfl (by decide) (by decide) (by decide) (by omega) (by omega) ?_ ?_
              · intro hc18
                change (0 : Int) ≠ z at hc18
                refine pw_ld E (pc' := 55) (st' := [pw_i 0]) rfl (fun _ => rfl) ?_
                refine pw_ist E (pc' := 57) (ls' := [some (.ref 16), some (pw_i b), some (pw_i e), some (pw_i z), some (pw_i k10_4), some (pw_i 0), k10_6]) rfl rfl rfl rfl ?_
                refine pw_ld E (pc' := 58) (st' := [.ref 16]) rfl (fun _ => rfl) ?_
                refine pw_ld E (pc' := 60) (st' := [pw_i k10_4, .ref 16]) rfl (fun _ => rfl) ?_
                refine pw_ld E (pc' := 61) (st' := [pw_i e, pw_i k10_4, .ref 16]) rfl (fun _ => rfl) ?_
                refine pw_ld E (pc' := 63) (st' := [pw_i 0, pw_i e, pw_i k10_4, .ref 16]) rfl (fun _ => rfl) ?_
                obtain ⟨f19l, f19h, -⟩ := pw_obj (c := 0) I10 rfl
                refine pw_call (m' := 133) (As := [.ref 16, pw_i k10_4, pw_i e, pw_i 0]) (rest := []) (ls'' := [some (.ref 16), some (pw_i k10_4), some (pw_i e), some (pw_i 0)]) (Nat.le_trans (by decide) hd) E rfl (fun _ => pw_iV rfl rfl rfl rfl (pw_cellI f19h rfl)) (rfl : pm_ent 133 = some (4, 4, 11, 0, pmc_133)) rfl rfl (cm_133_s (pw_dp hd (by decide)) I10 (k10_4) (by omega) (by omega) (e) (by omega) (by omega) (0) (by omega) (by omega)) ?_
                rintro u21 v20 ⟨rfl, x22, rfl, hx22a, hx22b, hx22r⟩
                refine ⟨_, rfl, ?_⟩
                show pw X d gh10 132 66 [some (.ref 16), some (pw_i b), some (pw_i e), some (pw_i z), some (pw_i k10_4), some (pw_i 0), k10_6] [pw_i x22] _
                change x22 = pv_bh gh10 k10_4 e 0 at hx22r
                refine pw_ld E (pc' := 67) (st' := [.ref 16, pw_i x22]) rfl (fun _ => rfl) ?_
                refine pw_ld E (pc' := 69) (st' := [pw_i k10_4, .ref 16, pw_i x22]) rfl (fun _ => rfl) ?_
                refine pw_ld E (pc' := 70) (st' := [pw_i b, pw_i k10_4, .ref 16, pw_i x22]) rfl (fun _ => rfl) ?_
                refine pw_ld E (pc' := 72) (st' := [pw_i 0, pw_i b, pw_i k10_4, .ref 16, pw_i x22]) rfl (fun _ => rfl) ?_
                refine pw_if E (pc' := 79) rfl (by decide) (by decide) (by decide) ?_ ?_
                · intro hc23
                  change (0 : Int) ≠ (0 : Int) at hc23
                  exfalso; omega
                · intro hc24
                  change ¬ ((0 : Int) ≠ (0 : Int)) at hc24
                  refine pw_ld E (pc' := 76) (st' := [pw_i 1, pw_i b, pw_i k10_4, .ref 16, pw_i x22]) rfl (fun _ => rfl) ?_
                  refine pw_goto E (pc' := 80) rfl (by decide) ?_
                  obtain ⟨f25l, f25h, -⟩ := pw_obj (c := 0) I10 rfl
                  refine pw_call (m' := 133) (As := [.ref 16, pw_i k10_4, pw_i b, pw_i 1]) (rest := [pw_i x22]) (ls'' := [some (.ref 16), some (pw_i k10_4), some (pw_i b), some (pw_i 1)]) (Nat.le_trans (by decide) hd) E rfl (fun _ => pw_iV rfl rfl rfl rfl (pw_cellI f25h rfl)) (rfl : pm_ent 133 = some (4, 4, 11, 0, pmc_133)) rfl rfl (cm_133_s (pw_dp hd (by decide)) I10 (k10_4) (by omega) (by omega) (b) (by omega) (by omega) (1) (by omega) (by omega)) ?_
                  rintro u27 v26 ⟨rfl, x28, rfl, hx28a, hx28b, hx28r⟩
                  refine ⟨_, rfl, ?_⟩
                  show pw X d gh10 132 83 [some (.ref 16), some (pw_i b), some (pw_i e), some (pw_i z), some (pw_i k10_4), some (pw_i 0), k10_6] [pw_i x28, pw_i x22] _
                  change x28 = pv_bh gh10 k10_4 b 1 at hx28r
                  refine pw_sub E (pc' := 84) rfl rfl ?_
                  refine pw_ist E (pc' := 86) (ls' := [some (.ref 16), some (pw_i b), some (pw_i e), some (pw_i z), some (pw_i k10_4), some (pw_i 0), some (pw_i (x22 - x28))]) rfl rfl rfl rfl ?_
                  refine pw_ld E (pc' := 87) (st' := [.ref 16]) rfl (fun _ => rfl) ?_
                  refine pw_getR (b := 32) I10 E (c := 0) (k := 7) (pc' := 90) rfl rfl rfl rfl rfl rfl rfl ?_
                  refine pw_ld E (pc' := 92) (st' := [pw_i k10_4, .ref 32]) rfl (fun _ => rfl) ?_
                  refine pw_ld E (pc' := 93) (st' := [.ref 16, pw_i k10_4, .ref 32]) rfl (fun _ => rfl) ?_
                  refine pw_getR (b := 17) I10 E (c := 0) (k := 0) (pc' := 96) rfl rfl rfl rfl rfl rfl rfl ?_
                  refine pw_ld E (pc' := 98) (st' := [pw_i k10_4, .ref 17, pw_i k10_4, .ref 32]) rfl (fun _ => rfl) ?_
                  obtain ⟨f29l, f29h, -⟩ := pw_obj (c := 1) I10 rfl
                  refine pw_call (m' := 60) (As := [.ref 17, pw_i k10_4]) (rest := [pw_i k10_4, .ref 32]) (ls'' := [some (.ref 17), some (pw_i k10_4)]) (Nat.le_trans (by decide) hd) E rfl (fun _ => pw_iV rfl rfl rfl rfl (pw_cellI f29h rfl)) (rfl : pm_ent 60 = some (2, 2, 6, 0, pmc_60)) rfl rfl (cm_60 (pw_dp hd (by decide)) I10 (k10_4) (by omega) (by omega)) ?_
                  rintro u31 v30 ⟨rfl, x32, rfl, hx32a, hx32b, hx32r⟩
                  refine ⟨_, rfl, ?_⟩
                  show pw X d gh10 132 101 [some (.ref 16), some (pw_i b), some (pw_i e), some (pw_i z), some (pw_i k10_4), some (pw_i 0), some (pw_i (x22 - x28))] [pw_i x32, pw_i k10_4, .ref 32] _
                  change x32 = pw_g gh10 4 k10_4.toNat at hx32r
                  refine pw_ld E (pc' := 103) (st' := [pw_i (x22 - x28), pw_i x32, pw_i k10_4, .ref 32]) rfl (fun _ => rfl) ?_
                  have hch : pv_chb h z b e (k10_4).toNat = x22 - x28 := by omega
                  obtain ⟨f33l, f33h, -⟩ := pw_obj (c := 16) I10 rfl
                  refine pw_call (m' := 82) (As := [.ref 32, pw_i k10_4, pw_i x32, pw_i (x22 - x28)]) (rest := []) (ls'' := [some (.ref 32), some (pw_i k10_4), some (pw_i x32), some (pw_i (x22 - x28))]) (Nat.le_trans (by decide) hd) E rfl (fun _ => pw_iV rfl rfl rfl rfl (pw_cellI f33h rfl)) (rfl : pm_ent 82 = some (4, 4, 8, 4, pmc_82)) rfl rfl (cm_82_s (pw_dp hd (by decide)) I10 (k10_4) (by omega) (by omega) (x32) (by omega) (by omega) (x22 - x28) (by omega) (by omega)) ?_
                  rintro h34 v35 ⟨h34I, h34E, hqput, rfl⟩
                  refine ⟨_, rfl, ?_⟩
                  have h34F := E10.tr (h34E.wk (W' := [17, 18]) (by first | rfl | simp))
                  show pw X d h34 132 106 [some (.ref 16), some (pw_i b), some (pw_i e), some (pw_i z), some (pw_i k10_4), some (pw_i 0), some (pw_i (x22 - x28))] [] _
                  refine pw_inc E (pc' := 109) (ls' := [some (.ref 16), some (pw_i b), some (pw_i e), some (pw_i z), some (pw_i (k10_4 + 1)), some (pw_i 0), some (pw_i (x22 - x28))]) rfl rfl rfl rfl ?_
                  refine pw_goto E (pc' := 10) rfl (by decide) ?_
                  exact ih10 _ (by omega) (k10_4 + 1) (some (pw_i 0)) (some (pw_i (x22 - x28))) h34 h34I h34F (by omega) (by omega) (by first | exact pv_FL.yes hx10_0 (by omega) hqput.1 hqput.2 (by omega) hch | exact pv_FL.no hx10_0 (by omega) (by omega)) rfl
              · intro hc36
                change ¬ ((0 : Int) ≠ z) at hc36
                refine pw_ld E (pc' := 51) (st' := [pw_i 1]) rfl (fun _ => rfl) ?_
                refine pw_goto E (pc' := 55) rfl (by decide) ?_
                refine pw_ist E (pc' := 57) (ls' := [some (.ref 16), some (pw_i b), some (pw_i e), some (pw_i z), some (pw_i k10_4), some (pw_i 1), k10_6]) rfl rfl rfl rfl ?_
                refine pw_ld E (pc' := 58) (st' := [.ref 16]) rfl (fun _ => rfl) ?_
                refine pw_ld E (pc' := 60) (st' := [pw_i k10_4, .ref 16]) rfl (fun _ => rfl) ?_
                refine pw_ld E (pc' := 61) (st' := [pw_i e, pw_i k10_4, .ref 16]) rfl (fun _ => rfl) ?_
                refine pw_ld E (pc' := 63) (st' := [pw_i 1, pw_i e, pw_i k10_4, .ref 16]) rfl (fun _ => rfl) ?_
                obtain ⟨f37l, f37h, -⟩ := pw_obj (c := 0) I10 rfl
                refine pw_call (m' := 133) (As := [.ref 16, pw_i k10_4, pw_i e, pw_i 1]) (rest := []) (ls'' := [some (.ref 16), some (pw_i k10_4), some (pw_i e), some (pw_i 1)]) (Nat.le_trans (by decide) hd) E rfl (fun _ => pw_iV rfl rfl rfl rfl (pw_cellI f37h rfl)) (rfl : pm_ent 133 = some (4, 4, 11, 0, pmc_133)) rfl rfl (cm_133_s (pw_dp hd (by decide)) I10 (k10_4) (by omega) (by omega) (e) (by omega) (by omega) (1) (by omega) (by omega)) ?_
                rintro u39 v38 ⟨rfl, x40, rfl, hx40a, hx40b, hx40r⟩
                refine ⟨_, rfl, ?_⟩
                show pw X d gh10 132 66 [some (.ref 16), some (pw_i b), some (pw_i e), some (pw_i z), some (pw_i k10_4), some (pw_i 1), k10_6] [pw_i x40] _
                change x40 = pv_bh gh10 k10_4 e 1 at hx40r
                refine pw_ld E (pc' := 67) (st' := [.ref 16, pw_i x40]) rfl (fun _ => rfl) ?_
                refine pw_ld E (pc' := 69) (st' := [pw_i k10_4, .ref 16, pw_i x40]) rfl (fun _ => rfl) ?_
                refine pw_ld E (pc' := 70) (st' := [pw_i b, pw_i k10_4, .ref 16, pw_i x40]) rfl (fun _ => rfl) ?_
                refine pw_ld E (pc' := 72) (st' := [pw_i 1, pw_i b, pw_i k10_4, .ref 16, pw_i x40]) rfl (fun _ => rfl) ?_
                refine pw_if E (pc' := 79) rfl (by decide) (by decide) (by decide) ?_ ?_
                · intro hc41
                  change (1 : Int) ≠ (0 : Int) at hc41
                  refine pw_ld E (pc' := 80) (st' := [pw_i 0, pw_i b, pw_i k10_4, .ref 16, pw_i x40]) rfl (fun _ => rfl) ?_
                  obtain ⟨f42l, f42h, -⟩ := pw_obj (c := 0) I10 rfl
                  refine pw_call (m' := 133) (As := [.ref 16, pw_i k10_4, pw_i b, pw_i 0]) (rest := [pw_i x40]) (ls'' := [some (.ref 16), some (pw_i k10_4), some (pw_i b), some (pw_i 0)]) (Nat.le_trans (by decide) hd) E rfl (fun _ => pw_iV rfl rfl rfl rfl (pw_cellI f42h rfl)) (rfl : pm_ent 133 = some (4, 4, 11, 0, pmc_133)) rfl rfl (cm_133_s (pw_dp hd (by decide)) I10 (k10_4) (by omega) (by omega) (b) (by omega) (by omega) (0) (by omega) (by omega)) ?_
                  rintro u44 v43 ⟨rfl, x45, rfl, hx45a, hx45b, hx45r⟩
                  refine ⟨_, rfl, ?_⟩
                  show pw X d gh10 132 83 [some (.ref 16), some (pw_i b), some (pw_i e), some (pw_i z), some (pw_i k10_4), some (pw_i 1), k10_6] [pw_i x45, pw_i x40] _
                  change x45 = pv_bh gh10 k10_4 b 0 at hx45r
                  refine pw_sub E (pc' := 84) rfl rfl ?_
                  refine pw_ist E (pc' := 86) (ls' := [some (.ref 16), some (pw_i b), some (pw_i e), some (pw_i z), some (pw_i k10_4), some (pw_i 1), some (pw_i (x40 - x45))]) rfl rfl rfl rfl ?_
                  refine pw_ld E (pc' := 87) (st' := [.ref 16]) rfl (fun _ => rfl) ?_
                  refine pw_getR (b := 32) I10 E (c := 0) (k := 7) (pc' := 90) rfl rfl rfl rfl rfl rfl rfl ?_
                  refine pw_ld E (pc' := 92) (st' := [pw_i k10_4, .ref 32]) rfl (fun _ => rfl) ?_
                  refine pw_ld E (pc' := 93) (st' := [.ref 16, pw_i k10_4, .ref 32]) rfl (fun _ => rfl) ?_
                  refine pw_getR (b := 17) I10 E (c := 0) (k := 0) (pc' := 96) rfl rfl rfl rfl rfl rfl rfl ?_
                  refine pw_ld E (pc' := 98) (st' := [pw_i k10_4, .ref 17, pw_i k10_4, .ref 32]) rfl (fun _ => rfl) ?_
                  obtain ⟨f46l, f46h, -⟩ := pw_obj (c := 1) I10 rfl
                  refine pw_call (m' := 60) (As := [.ref 17, pw_i k10_4]) (rest := [pw_i k10_4, .ref 32]) (ls'' := [some (.ref 17), some (pw_i k10_4)]) (Nat.le_trans (by decide) hd) E rfl (fun _ => pw_iV rfl rfl rfl rfl (pw_cellI f46h rfl)) (rfl : pm_ent 60 = some (2, 2, 6, 0, pmc_60)) rfl rfl (cm_60 (pw_dp hd (by decide)) I10 (k10_4) (by omega) (by omega)) ?_
                  rintro u48 v47 ⟨rfl, x49, rfl, hx49a, hx49b, hx49r⟩
                  refine ⟨_, rfl, ?_⟩
                  show pw X d gh10 132 101 [some (.ref 16), some (pw_i b), some (pw_i e), some (pw_i z), some (pw_i k10_4), some (pw_i 1), some (pw_i (x40 - x45))] [pw_i x49, pw_i k10_4, .ref 32] _
                  change x49 = pw_g gh10 4 k10_4.toNat at hx49r
                  refine pw_ld E (pc' := 103) (st' := [pw_i (x40 - x45), pw_i x49, pw_i k10_4, .ref 32]) rfl (fun _ => rfl) ?_
                  have hch : pv_chb h z b e (k10_4).toNat = x40 - x45 := by omega
                  obtain ⟨f50l, f50h, -⟩ := pw_obj (c := 16) I10 rfl
                  refine pw_call (m' := 82) (As := [.ref 32, pw_i k10_4, pw_i x49, pw_i (x40 - x45)]) (rest := []) (ls'' := [some (.ref 32), some (pw_i k10_4), some (pw_i x49), some (pw_i (x40 - x45))]) (Nat.le_trans (by decide) hd) E rfl (fun _ => pw_iV rfl rfl rfl rfl (pw_cellI f50h rfl)) (rfl : pm_ent 82 = some (4, 4, 8, 4, pmc_82)) rfl rfl (cm_82_s (pw_dp hd (by decide)) I10 (k10_4) (by omega) (by omega) (x49) (by omega) (by omega) (x40 - x45) (by omega) (by omega)) ?_
                  rintro h51 v52 ⟨h51I, h51E, hqput, rfl⟩
                  refine ⟨_, rfl, ?_⟩
                  have h51F := E10.tr (h51E.wk (W' := [17, 18]) (by first | rfl | simp))
                  show pw X d h51 132 106 [some (.ref 16), some (pw_i b), some (pw_i e), some (pw_i z), some (pw_i k10_4), some (pw_i 1), some (pw_i (x40 - x45))] [] _
                  refine pw_inc E (pc' := 109) (ls' := [some (.ref 16), some (pw_i b), some (pw_i e), some (pw_i z), some (pw_i (k10_4 + 1)), some (pw_i 1), some (pw_i (x40 - x45))]) rfl rfl rfl rfl ?_
                  refine pw_goto E (pc' := 10) rfl (by decide) ?_
                  exact ih10 _ (by omega) (k10_4 + 1) (some (pw_i 1)) (some (pw_i (x40 - x45))) h51 h51I h51F (by omega) (by omega) (by first | exact pv_FL.yes hx10_0 (by omega) hqput.1 hqput.2 (by omega) hch | exact pv_FL.no hx10_0 (by omega) (by omega)) rfl
                · intro hc53
                  change ¬ ((1 : Int) ≠ (0 : Int)) at hc53
                  exfalso; omega
            · intro hc54
              change ¬ (x16 ≠ (0 : Int)) at hc54
              refine pw_ld E (pc' := 42) (st' := [pw_i 1]) rfl (fun _ => rfl) ?_
              refine pw_goto E (pc' := 46) rfl (by decide) ?_
              refine pw_ld E (pc' := 47) (st' := [pw_i z, pw_i 1]) rfl (fun _ => rfl) ?_
              refine pw_if2 E (pc' := 54) rfl (by decide) (by decide) (by decide) (by omega) (by omega) ?_ ?_
              · intro hc55
                change (1 : Int) ≠ z at hc55
                refine pw_ld E (pc' := 55) (st' := [pw_i 0]) rfl (fun _ => rfl) ?_
                refine pw_ist E (pc' := 57) (ls' := [some (.ref 16), some (pw_i b), some (pw_i e), some (pw_i z), some (pw_i k10_4), some (pw_i 0), k10_6]) rfl rfl rfl rfl ?_
                refine pw_ld E (pc' := 58) (st' := [.ref 16]) rfl (fun _ => rfl) ?_
                refine pw_ld E (pc' := 60) (st' := [pw_i k10_4, .ref 16]) rfl (fun _ => rfl) ?_
                refine pw_ld E (pc' := 61) (st' := [pw_i e, pw_i k10_4, .ref 16]) rfl (fun _ => rfl) ?_
                refine pw_ld E (pc' := 63) (st' := [pw_i 0, pw_i e, pw_i k10_4, .ref 16]) rfl (fun _ => rfl) ?_
                obtain ⟨f56l, f56h, -⟩ := pw_obj (c := 0) I10 rfl
                refine pw_call (m' := 133) (As := [.ref 16, pw_i k10_4, pw_i e, pw_i 0]) (rest := []) (ls'' := [some (.ref 16), some (pw_i k10_4), some (pw_i e), some (pw_i 0)]) (Nat.le_trans (by decide) hd) E rfl (fun _ => pw_iV rfl rfl rfl rfl (pw_cellI f56h rfl)) (rfl : pm_ent 133 = some (4, 4, 11, 0, pmc_133)) rfl rfl (cm_133_s (pw_dp hd (by decide)) I10 (k10_4) (by omega) (by omega) (e) (by omega) (by omega) (0) (by omega) (by omega)) ?_
                rintro u58 v57 ⟨rfl, x59, rfl, hx59a, hx59b, hx59r⟩
                refine ⟨_, rfl, ?_⟩
                show pw X d gh10 132 66 [some (.ref 16), some (pw_i b), some (pw_i e), some (pw_i z), some (pw_i k10_4), some (pw_i 0), k10_6] [pw_i x59] _
                change x59 = pv_bh gh10 k10_4 e 0 at hx59r
                refine pw_ld E (pc' := 67) (st' := [.ref 16, pw_i x59]) rfl (fun _ => rfl) ?_
                refine pw_ld E (pc' := 69) (st' := [pw_i k10_4, .ref 16, pw_i x59]) rfl (fun _ => rfl) ?_
                refine pw_ld E (pc' := 70) (st' := [pw_i b, pw_i k10_4, .ref 16, pw_i x59]) rfl (fun _ => rfl) ?_
                refine pw_ld E (pc' := 72) (st' := [pw_i 0, pw_i b, pw_i k10_4, .ref 16, pw_i x59]) rfl (fun _ => rfl) ?_
                refine pw_if E (pc' := 79) rfl (by decide) (by decide) (by decide) ?_ ?_
                · intro hc60
                  change (0 : Int) ≠ (0 : Int) at hc60
                  exfalso; omega
                · intro hc61
                  change ¬ ((0 : Int) ≠ (0 : Int)) at hc61
                  refine pw_ld E (pc' := 76) (st' := [pw_i 1, pw_i b, pw_i k10_4, .ref 16, pw_i x59]) rfl (fun _ => rfl) ?_
                  refine pw_goto E (pc' := 80) rfl (by decide) ?_
                  obtain ⟨f62l, f62h, -⟩ := pw_obj (c := 0) I10 rfl
                  refine pw_call (m' := 133) (As := [.ref 16, pw_i k10_4, pw_i b, pw_i 1]) (rest := [pw_i x59]) (ls'' := [some (.ref 16), some (pw_i k10_4), some (pw_i b), some (pw_i 1)]) (Nat.le_trans (by decide) hd) E rfl (fun _ => pw_iV rfl rfl rfl rfl (pw_cellI f62h rfl)) (rfl : pm_ent 133 = some (4, 4, 11, 0, pmc_133)) rfl rfl (cm_133_s (pw_dp hd (by decide)) I10 (k10_4) (by omega) (by omega) (b) (by omega) (by omega) (1) (by omega) (by omega)) ?_
                  rintro u64 v63 ⟨rfl, x65, rfl, hx65a, hx65b, hx65r⟩
                  refine ⟨_, rfl, ?_⟩
                  show pw X d gh10 132 83 [some (.ref 16), some (pw_i b), some (pw_i e), some (pw_i z), some (pw_i k10_4), some (pw_i 0), k10_6] [pw_i x65, pw_i x59] _
                  change x65 = pv_bh gh10 k10_4 b 1 at hx65r
                  refine pw_sub E (pc' := 84) rfl rfl ?_
                  refine pw_ist E (pc' := 86) (ls' := [some (.ref 16), some (pw_i b), some (pw_i e), some (pw_i z), some (pw_i k10_4), some (pw_i 0), some (pw_i (x59 - x65))]) rfl rfl rfl rfl ?_
                  refine pw_ld E (pc' := 87) (st' := [.ref 16]) rfl (fun _ => rfl) ?_
                  refine pw_getR (b := 32) I10 E (c := 0) (k := 7) (pc' := 90) rfl rfl rfl rfl rfl rfl rfl ?_
                  refine pw_ld E (pc' := 92) (st' := [pw_i k10_4, .ref 32]) rfl (fun _ => rfl) ?_
                  refine pw_ld E (pc' := 93) (st' := [.ref 16, pw_i k10_4, .ref 32]) rfl (fun _ => rfl) ?_
                  refine pw_getR (b := 17) I10 E (c := 0) (k := 0) (pc' := 96) rfl rfl rfl rfl rfl rfl rfl ?_
                  refine pw_ld E (pc' := 98) (st' := [pw_i k10_4, .ref 17, pw_i k10_4, .ref 32]) rfl (fun _ => rfl) ?_
                  obtain ⟨f66l, f66h, -⟩ := pw_obj (c := 1) I10 rfl
                  refine pw_call (m' := 60) (As := [.ref 17, pw_i k10_4]) (rest := [pw_i k10_4, .ref 32]) (ls'' := [some (.ref 17), some (pw_i k10_4)]) (Nat.le_trans (by decide) hd) E rfl (fun _ => pw_iV rfl rfl rfl rfl (pw_cellI f66h rfl)) (rfl : pm_ent 60 = some (2, 2, 6, 0, pmc_60)) rfl rfl (cm_60 (pw_dp hd (by decide)) I10 (k10_4) (by omega) (by omega)) ?_
                  rintro u68 v67 ⟨rfl, x69, rfl, hx69a, hx69b, hx69r⟩
                  refine ⟨_, rfl, ?_⟩
                  show pw X d gh10 132 101 [some (.ref 16), some (pw_i b), some (pw_i e), some (pw_i z), some (pw_i k10_4), some (pw_i 0), some (pw_i (x59 - x65))] [pw_i x69, pw_i k10_4, .ref 32] _
                  change x69 = pw_g gh10 4 k10_4.toNat at hx69r
                  refine pw_ld E (pc' := 103) (st' := [pw_i (x59 - x65), pw_i x69, pw_i k10_4, .ref 32]) rfl (fun _ => rfl) ?_
                  have hch : pv_chb h z b e (k10_4).toNat = x59 - x65 := by omega
                  obtain ⟨f70l, f70h, -⟩ := pw_obj (c := 16) I10 rfl
                  refine pw_call (m' := 82) (As := [.ref 32, pw_i k10_4, pw_i x69, pw_i (x59 - x65)]) (rest := []) (ls'' := [some (.ref 32), some (pw_i k10_4), some (pw_i x69), some (pw_i (x59 - x65))]) (Nat.le_trans (by decide) hd) E rfl (fun _ => pw_iV rfl rfl rfl rfl (pw_cellI f70h rfl)) (rfl : pm_ent 82 = some (4, 4, 8, 4, pmc_82)) rfl rfl (cm_82_s (pw_dp hd (by decide)) I10 (k10_4) (by omega) (by omega) (x69) (by omega) (by omega) (x59 - x65) (by omega) (by omega)) ?_
                  rintro h71 v72 ⟨h71I, h71E, hqput, rfl⟩
                  refine ⟨_, rfl, ?_⟩
                  have h71F := E10.tr (h71E.wk (W' := [17, 18]) (by first | rfl | simp))
                  show pw X d h71 132 106 [some (.ref 16), some (pw_i b), some (pw_i e), some (pw_i z), some (pw_i k10_4), some (pw_i 0), some (pw_i (x59 - x65))] [] _
                  refine pw_inc E (pc' := 109) (ls' := [some (.ref 16), some (pw_i b), some (pw_i e), some (pw_i z), some (pw_i (k10_4 + 1)), some (pw_i 0), some (pw_i (x59 - x65))]) rfl rfl rfl rfl ?_
                  refine pw_goto E (pc' := 10) rfl (by decide) ?_
                  exact ih10 _ (by omega) (k10_4 + 1) (some (pw_i 0)) (some (pw_i (x59 - x65))) h71 h71I h71F (by omega) (by omega) (by first | exact pv_FL.yes hx10_0 (by omega) hqput.1 hqput.2 (by omega) hch | exact pv_FL.no hx10_0 (by omega) (by omega)) rfl
              · intro hc73
                change ¬ ((1 : Int) ≠ z) at hc73
                refine pw_ld E (pc' := 51) (st' := [pw_i 1]) rfl (fun _ => rfl) ?_
                refine pw_goto E (pc' := 55) rfl (by decide) ?_
                refine pw_ist E (pc' := 57) (ls' := [some (.ref 16), some (pw_i b), some (pw_i e), some (pw_i z), some (pw_i k10_4), some (pw_i 1), k10_6]) rfl rfl rfl rfl ?_
                refine pw_ld E (pc' := 58) (st' := [.ref 16]) rfl (fun _ => rfl) ?_
                refine pw_ld E (pc' := 60) (st' := [pw_i k10_4, .ref 16]) rfl (fun _ => rfl) ?_
                refine pw_ld E (pc' := 61) (st' := [pw_i e, pw_i k10_4, .ref 16]) rfl (fun _ => rfl) ?_
                refine pw_ld E (pc' := 63) (st' := [pw_i 1, pw_i e, pw_i k10_4, .ref 16]) rfl (fun _ => rfl) ?_
                obtain ⟨f74l, f74h, -⟩ := pw_obj (c := 0) I10 rfl
                refine pw_call (m' := 133) (As := [.ref 16, pw_i k10_4, pw_i e, pw_i 1]) (rest := []) (ls'' := [some (.ref 16), some (pw_i k10_4), some (pw_i e), some (pw_i 1)]) (Nat.le_trans (by decide) hd) E rfl (fun _ => pw_iV rfl rfl rfl rfl (pw_cellI f74h rfl)) (rfl : pm_ent 133 = some (4, 4, 11, 0, pmc_133)) rfl rfl (cm_133_s (pw_dp hd (by decide)) I10 (k10_4) (by omega) (by omega) (e) (by omega) (by omega) (1) (by omega) (by omega)) ?_
                rintro u76 v75 ⟨rfl, x77, rfl, hx77a, hx77b, hx77r⟩
                refine ⟨_, rfl, ?_⟩
                show pw X d gh10 132 66 [some (.ref 16), some (pw_i b), some (pw_i e), some (pw_i z), some (pw_i k10_4), some (pw_i 1), k10_6] [pw_i x77] _
                change x77 = pv_bh gh10 k10_4 e 1 at hx77r
                refine pw_ld E (pc' := 67) (st' := [.ref 16, pw_i x77]) rfl (fun _ => rfl) ?_
                refine pw_ld E (pc' := 69) (st' := [pw_i k10_4, .ref 16, pw_i x77]) rfl (fun _ => rfl) ?_
                refine pw_ld E (pc' := 70) (st' := [pw_i b, pw_i k10_4, .ref 16, pw_i x77]) rfl (fun _ => rfl) ?_
                refine pw_ld E (pc' := 72) (st' := [pw_i 1, pw_i b, pw_i k10_4, .ref 16, pw_i x77]) rfl (fun _ => rfl) ?_
                refine pw_if E (pc' := 79) rfl (by decide) (by decide) (by decide) ?_ ?_
                · intro hc78
                  change (1 : Int) ≠ (0 : Int) at hc78
                  refine pw_ld E (pc' := 80) (st' := [pw_i 0, pw_i b, pw_i k10_4, .ref 16, pw_i x77]) rfl (fun _ => rfl) ?_
                  obtain ⟨f79l, f79h, -⟩ := pw_obj (c := 0) I10 rfl
                  refine pw_call (m' := 133) (As := [.ref 16, pw_i k10_4, pw_i b, pw_i 0]) (rest := [pw_i x77]) (ls'' := [some (.ref 16), some (pw_i k10_4), some (pw_i b), some (pw_i 0)]) (Nat.le_trans (by decide) hd) E rfl (fun _ => pw_iV rfl rfl rfl rfl (pw_cellI f79h rfl)) (rfl : pm_ent 133 = some (4, 4, 11, 0, pmc_133)) rfl rfl (cm_133_s (pw_dp hd (by decide)) I10 (k10_4) (by omega) (by omega) (b) (by omega) (by omega) (0) (by omega) (by omega)) ?_
                  rintro u81 v80 ⟨rfl, x82, rfl, hx82a, hx82b, hx82r⟩
                  refine ⟨_, rfl, ?_⟩
                  show pw X d gh10 132 83 [some (.ref 16), some (pw_i b), some (pw_i e), some (pw_i z), some (pw_i k10_4), some (pw_i 1), k10_6] [pw_i x82, pw_i x77] _
                  change x82 = pv_bh gh10 k10_4 b 0 at hx82r
                  refine pw_sub E (pc' := 84) rfl rfl ?_
                  refine pw_ist E (pc' := 86) (ls' := [some (.ref 16), some (pw_i b), some (pw_i e), some (pw_i z), some (pw_i k10_4), some (pw_i 1), some (pw_i (x77 - x82))]) rfl rfl rfl rfl ?_
                  refine pw_ld E (pc' := 87) (st' := [.ref 16]) rfl (fun _ => rfl) ?_
                  refine pw_getR (b := 32) I10 E (c := 0) (k := 7) (pc' := 90) rfl rfl rfl rfl rfl rfl rfl ?_
                  refine pw_ld E (pc' := 92) (st' := [pw_i k10_4, .ref 32]) rfl (fun _ => rfl) ?_
                  refine pw_ld E (pc' := 93) (st' := [.ref 16, pw_i k10_4, .ref 32]) rfl (fun _ => rfl) ?_
                  refine pw_getR (b := 17) I10 E (c := 0) (k := 0) (pc' := 96) rfl rfl rfl rfl rfl rfl rfl ?_
                  refine pw_ld E (pc' := 98) (st' := [pw_i k10_4, .ref 17, pw_i k10_4, .ref 32]) rfl (fun _ => rfl) ?_
                  obtain ⟨f83l, f83h, -⟩ := pw_obj (c := 1) I10 rfl
                  refine pw_call (m' := 60) (As := [.ref 17, pw_i k10_4]) (rest := [pw_i k10_4, .ref 32]) (ls'' := [some (.ref 17), some (pw_i k10_4)]) (Nat.le_trans (by decide) hd) E rfl (fun _ => pw_iV rfl rfl rfl rfl (pw_cellI f83h rfl)) (rfl : pm_ent 60 = some (2, 2, 6, 0, pmc_60)) rfl rfl (cm_60 (pw_dp hd (by decide)) I10 (k10_4) (by omega) (by omega)) ?_
                  rintro u85 v84 ⟨rfl, x86, rfl, hx86a, hx86b, hx86r⟩
                  refine ⟨_, rfl, ?_⟩
                  show pw X d gh10 132 101 [some (.ref 16), some (pw_i b), some (pw_i e), some (pw_i z), some (pw_i k10_4), some (pw_i 1), some (pw_i (x77 - x82))] [pw_i x86, pw_i k10_4, .ref 32] _
                  change x86 = pw_g gh10 4 k10_4.toNat at hx86r
                  refine pw_ld E (pc' := 103) (st' := [pw_i (x77 - x82), pw_i x86, pw_i k10_4, .ref 32]) rfl (fun _ => rfl) ?_
                  have hch : pv_chb h z b e (k10_4).toNat = x77 - x82 := by omega
                  obtain ⟨f87l, f87h, -⟩ := pw_obj (c := 16) I10 rfl
                  refine pw_call (m' := 82) (As := [.ref 32, pw_i k10_4, pw_i x86, pw_i (x77 - x82)]) (rest := []) (ls'' := [some (.ref 32), some (pw_i k10_4), some (pw_i x86), some (pw_i (x77 - x82))]) (Nat.le_trans (by decide) hd) E rfl (fun _ => pw_iV rfl rfl rfl rfl (pw_cellI f87h rfl)) (rfl : pm_ent 82 = some (4, 4, 8, 4, pmc_82)) rfl rfl (cm_82_s (pw_dp hd (by decide)) I10 (k10_4) (by omega) (by omega) (x86) (by omega) (by omega) (x77 - x82) (by omega) (by omega)) ?_
                  rintro h88 v89 ⟨h88I, h88E, hqput, rfl⟩
                  refine ⟨_, rfl, ?_⟩
                  have h88F := E10.tr (h88E.wk (W' := [17, 18]) (by first | rfl | simp))
                  show pw X d h88 132 106 [some (.ref 16), some (pw_i b), some (pw_i e), some (pw_i z), some (pw_i k10_4), some (pw_i 1), some (pw_i (x77 - x82))] [] _
                  refine pw_inc E (pc' := 109) (ls' := [some (.ref 16), some (pw_i b), some (pw_i e), some (pw_i z), some (pw_i (k10_4 + 1)), some (pw_i 1), some (pw_i (x77 - x82))]) rfl rfl rfl rfl ?_
                  refine pw_goto E (pc' := 10) rfl (by decide) ?_
                  exact ih10 _ (by omega) (k10_4 + 1) (some (pw_i 1)) (some (pw_i (x77 - x82))) h88 h88I h88F (by omega) (by omega) (by first | exact pv_FL.yes hx10_0 (by omega) hqput.1 hqput.2 (by omega) hch | exact pv_FL.no hx10_0 (by omega) (by omega)) rfl
                · intro hc90
                  change ¬ ((1 : Int) ≠ (0 : Int)) at hc90
                  exfalso; omega
        · skip
          refine pw_if E (pc' := 106) rfl (by decide) (by omega) (by omega) ?_ ?_
          · intro hc92
            change x9 = (0 : Int) at hc92
            refine pw_inc E (pc' := 109) (ls' := [some (.ref 16), some (pw_i b), some (pw_i e), some (pw_i z), some (pw_i (k10_4 + 1)), k10_5, k10_6]) rfl rfl rfl rfl ?_
            refine pw_goto E (pc' := 10) rfl (by decide) ?_
            exact ih10 _ (by omega) (k10_4 + 1) k10_5 k10_6 gh10 I10 E10 (by omega) (by omega) (by first | exact pv_FL.yes hx10_0 (by omega) hqput.1 hqput.2 (by omega) hch | exact pv_FL.no hx10_0 (by omega) (by omega)) rfl
          · intro hc93
            change ¬ (x9 = (0 : Int)) at hc93
            exfalso; omega
  exact L10 _ (0) (none) (none) h2 h2I h2F (by omega) (by omega) (pv_FL.z hqclear) rfl
set_option maxHeartbeats 4000000 in
theorem cm_227_s {X : List (Nat × List Value)} {d : Nat} {h : pm_H} (hd : 3 ≤ d) (I : pw_I h) (k : Int) (hk1 : 0 ≤ k) (hk2 : k ≤ 23) (b : Int) (hb1 : 0 ≤ b) (hb2 : b ≤ 11) (e : Int) (he1 : 0 ≤ e) (he2 : e ≤ 11) (sg : Int) (hsg1 : (-1) ≤ sg) (hsg2 : sg ≤ 1) : pw X d h 227 0 [some (.ref 141), some (pw_i k), some (pw_i b), some (pw_i e), some (pw_i sg), none] [] (fun h' v => h = h' ∧ ∃ a : Int, v = .inl (some (pw_i a)) ∧ (-2000) ≤ a ∧ a ≤ 2000 ∧ ((0 < sg → a = pv_mh h k e 1 - pv_mh h k b 0) ∧ (¬ (0 < sg) → a = pv_mh h k e 0 - pv_mh h k b 1))) := by
  have E : pm_ent 227 = some (5, 6, 12, 0, pmc_227) := rfl
  refine pw_ld E (pc' := 1) (st' := [pw_i 0]) rfl (fun _ => rfl) ?_
  refine pw_ist E (pc' := 3) (ls' := [some (.ref 141), some (pw_i k), some (pw_i b), some (pw_i e), some (pw_i sg), some (pw_i 0)]) rfl rfl rfl rfl ?_
  refine pw_ld E (pc' := 4) (st' := [.ref 141]) rfl (fun _ => rfl) ?_
  refine pw_getR (b := 154) I E (c := 125) (k := 18) (pc' := 7) rfl rfl rfl rfl rfl rfl rfl ?_
  refine pw_bip E (pc' := 9) rfl rfl (by decide) ?_
  refine pw_ld E (pc' := 10) (st' := [pw_i k, pw_i 12, .ref 154]) rfl (fun _ => rfl) ?_
  refine pw_mul E (pc' := 11) rfl rfl ?_
  refine pw_ld E (pc' := 12) (st' := [pw_i e, pw_i (12 * k), .ref 154]) rfl (fun _ => rfl) ?_
  refine pw_add E (pc' := 13) rfl rfl ?_
  refine pw_ald2 I E (c := 138) (pc' := 14) rfl rfl rfl (by decide) rfl (by decide) (by omega) (by omega) rfl (fun hf1a hf1b => ?_)
  refine pw_if E (pc' := 43) rfl (by decide) (by omega) (by omega) ?_ ?_
  · intro hc2
    change pw_g h 138 (((12 * k) + e).toNat) ≠ (0 : Int) at hc2
    refine pw_ld E (pc' := 45) (st' := [pw_i 0]) rfl (fun _ => rfl) ?_
    refine pw_ld E (pc' := 46) (st' := [.ref 141, pw_i 0]) rfl (fun _ => rfl) ?_
    refine pw_ld E (pc' := 47) (st' := [pw_i k, .ref 141, pw_i 0]) rfl (fun _ => rfl) ?_
    refine pw_ld E (pc' := 48) (st' := [pw_i e, pw_i k, .ref 141, pw_i 0]) rfl (fun _ => rfl) ?_
    obtain ⟨f3l, f3h, -⟩ := pw_obj (c := 125) I rfl
    refine pw_call (m' := 210) (As := [.ref 141, pw_i k, pw_i e]) (rest := [pw_i 0]) (ls'' := [some (.ref 141), some (pw_i k), some (pw_i e)]) (Nat.le_trans (by decide) hd) E rfl (fun _ => pw_iV rfl rfl rfl rfl (pw_cellI f3h rfl)) (rfl : pm_ent 210 = some (3, 3, 12, 0, pmc_210)) rfl rfl (cm_210_h (pw_dp hd (by decide)) I (k) (by omega) (by omega) (e) (by omega) (by omega)) ?_
    rintro u5 v4 ⟨rfl, x6, rfl, hx6a, hx6b, hx6r⟩
    refine ⟨_, rfl, ?_⟩
    show pw X d h 227 51 [some (.ref 141), some (pw_i k), some (pw_i b), some (pw_i e), some (pw_i sg), some (pw_i 0)] [pw_i x6, pw_i 0] _
    change x6 = 10 * pw_g h 139 (12 * k + e).toNat + pw_g h 125 15 * pw_g h 140 (12 * k + e).toNat at hx6r
    refine pw_add E (pc' := 52) rfl rfl ?_
    refine pw_ist E (pc' := 54) (ls' := [some (.ref 141), some (pw_i k), some (pw_i b), some (pw_i e), some (pw_i sg), some (pw_i (0 + x6))]) rfl rfl rfl rfl ?_
    refine pw_ld E (pc' := 55) (st' := [.ref 141]) rfl (fun _ => rfl) ?_
    refine pw_getR (b := 154) I E (c := 125) (k := 18) (pc' := 58) rfl rfl rfl rfl rfl rfl rfl ?_
    refine pw_bip E (pc' := 60) rfl rfl (by decide) ?_
    refine pw_ld E (pc' := 61) (st' := [pw_i k, pw_i 12, .ref 154]) rfl (fun _ => rfl) ?_
    refine pw_mul E (pc' := 62) rfl rfl ?_
    refine pw_ld E (pc' := 63) (st' := [pw_i b, pw_i (12 * k), .ref 154]) rfl (fun _ => rfl) ?_
    refine pw_add E (pc' := 64) rfl rfl ?_
    refine pw_ald2 I E (c := 138) (pc' := 65) rfl rfl rfl (by decide) rfl (by decide) (by omega) (by omega) rfl (fun hf7a hf7b => ?_)
    refine pw_if E (pc' := 94) rfl (by decide) (by omega) (by omega) ?_ ?_
    · intro hc8
      change pw_g h 138 (((12 * k) + b).toNat) ≠ (0 : Int) at hc8
      refine pw_ld E (pc' := 96) (st' := [pw_i (0 + x6)]) rfl (fun _ => rfl) ?_
      refine pw_ld E (pc' := 97) (st' := [.ref 141, pw_i (0 + x6)]) rfl (fun _ => rfl) ?_
      refine pw_ld E (pc' := 98) (st' := [pw_i k, .ref 141, pw_i (0 + x6)]) rfl (fun _ => rfl) ?_
      refine pw_ld E (pc' := 99) (st' := [pw_i b, pw_i k, .ref 141, pw_i (0 + x6)]) rfl (fun _ => rfl) ?_
      obtain ⟨f9l, f9h, -⟩ := pw_obj (c := 125) I rfl
      refine pw_call (m' := 210) (As := [.ref 141, pw_i k, pw_i b]) (rest := [pw_i (0 + x6)]) (ls'' := [some (.ref 141), some (pw_i k), some (pw_i b)]) (Nat.le_trans (by decide) hd) E rfl (fun _ => pw_iV rfl rfl rfl rfl (pw_cellI f9h rfl)) (rfl : pm_ent 210 = some (3, 3, 12, 0, pmc_210)) rfl rfl (cm_210_h (pw_dp hd (by decide)) I (k) (by omega) (by omega) (b) (by omega) (by omega)) ?_
      rintro u11 v10 ⟨rfl, x12, rfl, hx12a, hx12b, hx12r⟩
      refine ⟨_, rfl, ?_⟩
      show pw X d h 227 102 [some (.ref 141), some (pw_i k), some (pw_i b), some (pw_i e), some (pw_i sg), some (pw_i (0 + x6))] [pw_i x12, pw_i (0 + x6)] _
      change x12 = 10 * pw_g h 139 (12 * k + b).toNat + pw_g h 125 15 * pw_g h 140 (12 * k + b).toNat at hx12r
      refine pw_sub E (pc' := 103) rfl rfl ?_
      refine pw_ist E (pc' := 105) (ls' := [some (.ref 141), some (pw_i k), some (pw_i b), some (pw_i e), some (pw_i sg), some (pw_i ((0 + x6) - x12))]) rfl rfl rfl rfl ?_
      refine pw_ld E (pc' := 107) (st' := [pw_i ((0 + x6) - x12)]) rfl (fun _ => rfl) ?_
      refine pw_iret E rfl ?_
      have hye : x6 = pv_hmk h e k := hx6r
      have me0 : pv_mh h k e 0 = pv_hmk h e k := pv_mhI.1 (by omega)
      have me1 : pv_mh h k e 1 = pv_hmk h e k := pv_mhI.1 (by omega)
      have hyb : x12 = pv_hmk h b k := hx12r
      have mb0 : pv_mh h k b 0 = pv_hmk h b k := pv_mhI.1 (by omega)
      have mb1 : pv_mh h k b 1 = pv_hmk h b k := pv_mhI.1 (by omega)
      exact ⟨rfl, ⟨_, rfl, by omega, by omega, ⟨fun _ => by omega, fun _ => by omega⟩⟩⟩
    · intro hc13
      change ¬ (pw_g h 138 (((12 * k) + b).toNat) ≠ (0 : Int)) at hc13
      refine pw_ld E (pc' := 70) (st' := [pw_i (0 + x6)]) rfl (fun _ => rfl) ?_
      refine pw_ld E (pc' := 72) (st' := [pw_i sg, pw_i (0 + x6)]) rfl (fun _ => rfl) ?_
      refine pw_if E (pc' := 79) rfl (by decide) (by omega) (by omega) ?_ ?_
      · intro hc14
        change sg ≤ (0 : Int) at hc14
        refine pw_bip E (pc' := 81) rfl rfl (by decide) ?_
        refine pw_ld E (pc' := 82) (st' := [.ref 141, pw_i 10, pw_i (0 + x6)]) rfl (fun _ => rfl) ?_
        refine pw_getR (b := 150) I E (c := 125) (k := 13) (pc' := 85) rfl rfl rfl rfl rfl rfl rfl ?_
        refine pw_ld E (pc' := 86) (st' := [pw_i k, .ref 150, pw_i 10, pw_i (0 + x6)]) rfl (fun _ => rfl) ?_
        refine pw_ald2 I E (c := 134) (pc' := 87) rfl rfl rfl (by decide) rfl (by decide) (by omega) (by omega) rfl (fun hf15a hf15b => ?_)
        refine pw_mul E (pc' := 88) rfl rfl ?_
        refine pw_sub E (pc' := 89) rfl rfl ?_
        refine pw_ist E (pc' := 91) (ls' := [some (.ref 141), some (pw_i k), some (pw_i b), some (pw_i e), some (pw_i sg), some (pw_i ((0 + x6) - (10 * (pw_g h 134 (k.toNat)))))]) rfl rfl rfl rfl ?_
        refine pw_goto E (pc' := 105) rfl (by decide) ?_
        refine pw_ld E (pc' := 107) (st' := [pw_i ((0 + x6) - (10 * (pw_g h 134 (k.toNat))))]) rfl (fun _ => rfl) ?_
        refine pw_iret E rfl ?_
        have hye : x6 = pv_hmk h e k := hx6r
        have me0 : pv_mh h k e 0 = pv_hmk h e k := pv_mhI.1 (by omega)
        have me1 : pv_mh h k e 1 = pv_hmk h e k := pv_mhI.1 (by omega)
        have mb0 : pv_mh h k b 0 = 0 := pv_mhI.2.2 (by omega) (by decide)
        have mb1 : pv_mh h k b 1 = 10 * pw_g h 134 k.toNat := pv_mhI.2.1 (by omega) rfl
        exact ⟨rfl, ⟨_, rfl, by omega, by omega, ⟨fun _ => by omega, fun _ => by omega⟩⟩⟩
      · intro hc16
        change ¬ (sg ≤ (0 : Int)) at hc16
        refine pw_ld E (pc' := 76) (st' := [pw_i 0, pw_i (0 + x6)]) rfl (fun _ => rfl) ?_
        refine pw_goto E (pc' := 88) rfl (by decide) ?_
        refine pw_sub E (pc' := 89) rfl rfl ?_
        refine pw_ist E (pc' := 91) (ls' := [some (.ref 141), some (pw_i k), some (pw_i b), some (pw_i e), some (pw_i sg), some (pw_i ((0 + x6) - 0))]) rfl rfl rfl rfl ?_
        refine pw_goto E (pc' := 105) rfl (by decide) ?_
        refine pw_ld E (pc' := 107) (st' := [pw_i ((0 + x6) - 0)]) rfl (fun _ => rfl) ?_
        refine pw_iret E rfl ?_
        have hye : x6 = pv_hmk h e k := hx6r
        have me0 : pv_mh h k e 0 = pv_hmk h e k := pv_mhI.1 (by omega)
        have me1 : pv_mh h k e 1 = pv_hmk h e k := pv_mhI.1 (by omega)
        have mb0 : pv_mh h k b 0 = 0 := pv_mhI.2.2 (by omega) (by decide)
        have mb1 : pv_mh h k b 1 = 10 * pw_g h 134 k.toNat := pv_mhI.2.1 (by omega) rfl
        exact ⟨rfl, ⟨_, rfl, by omega, by omega, ⟨fun _ => by omega, fun _ => by omega⟩⟩⟩
  · intro hc17
    change ¬ (pw_g h 138 (((12 * k) + e).toNat) ≠ (0 : Int)) at hc17
    refine pw_ld E (pc' := 19) (st' := [pw_i 0]) rfl (fun _ => rfl) ?_
    refine pw_ld E (pc' := 21) (st' := [pw_i sg, pw_i 0]) rfl (fun _ => rfl) ?_
    refine pw_if E (pc' := 36) rfl (by decide) (by omega) (by omega) ?_ ?_
    · intro hc18
      change sg ≤ (0 : Int) at hc18
      refine pw_ld E (pc' := 37) (st' := [pw_i 0, pw_i 0]) rfl (fun _ => rfl) ?_
      refine pw_add E (pc' := 38) rfl rfl ?_
      refine pw_ist E (pc' := 40) (ls' := [some (.ref 141), some (pw_i k), some (pw_i b), some (pw_i e), some (pw_i sg), some (pw_i (0 + 0))]) rfl rfl rfl rfl ?_
      refine pw_goto E (pc' := 54) rfl (by decide) ?_
      refine pw_ld E (pc' := 55) (st' := [.ref 141]) rfl (fun _ => rfl) ?_
      refine pw_getR (b := 154) I E (c := 125) (k := 18) (pc' := 58) rfl rfl rfl rfl rfl rfl rfl ?_
      refine pw_bip E (pc' := 60) rfl rfl (by decide) ?_
      refine pw_ld E (pc' := 61) (st' := [pw_i k, pw_i 12, .ref 154]) rfl (fun _ => rfl) ?_
      refine pw_mul E (pc' := 62) rfl rfl ?_
      refine pw_ld E (pc' := 63) (st' := [pw_i b, pw_i (12 * k), .ref 154]) rfl (fun _ => rfl) ?_
      refine pw_add E (pc' := 64) rfl rfl ?_
      refine pw_ald2 I E (c := 138) (pc' := 65) rfl rfl rfl (by decide) rfl (by decide) (by omega) (by omega) rfl (fun hf19a hf19b => ?_)
      refine pw_if E (pc' := 94) rfl (by decide) (by omega) (by omega) ?_ ?_
      · intro hc20
        change pw_g h 138 (((12 * k) + b).toNat) ≠ (0 : Int) at hc20
        refine pw_ld E (pc' := 96) (st' := [pw_i (0 + 0)]) rfl (fun _ => rfl) ?_
        refine pw_ld E (pc' := 97) (st' := [.ref 141, pw_i (0 + 0)]) rfl (fun _ => rfl) ?_
        refine pw_ld E (pc' := 98) (st' := [pw_i k, .ref 141, pw_i (0 + 0)]) rfl (fun _ => rfl) ?_
        refine pw_ld E (pc' := 99) (st' := [pw_i b, pw_i k, .ref 141, pw_i (0 + 0)]) rfl (fun _ => rfl) ?_
        obtain ⟨f21l, f21h, -⟩ := pw_obj (c := 125) I rfl
        refine pw_call (m' := 210) (As := [.ref 141, pw_i k, pw_i b]) (rest := [pw_i (0 + 0)]) (ls'' := [some (.ref 141), some (pw_i k), some (pw_i b)]) (Nat.le_trans (by decide) hd) E rfl (fun _ => pw_iV rfl rfl rfl rfl (pw_cellI f21h rfl)) (rfl : pm_ent 210 = some (3, 3, 12, 0, pmc_210)) rfl rfl (cm_210_h (pw_dp hd (by decide)) I (k) (by omega) (by omega) (b) (by omega) (by omega)) ?_
        rintro u23 v22 ⟨rfl, x24, rfl, hx24a, hx24b, hx24r⟩
        refine ⟨_, rfl, ?_⟩
        show pw X d h 227 102 [some (.ref 141), some (pw_i k), some (pw_i b), some (pw_i e), some (pw_i sg), some (pw_i (0 + 0))] [pw_i x24, pw_i (0 + 0)] _
        change x24 = 10 * pw_g h 139 (12 * k + b).toNat + pw_g h 125 15 * pw_g h 140 (12 * k + b).toNat at hx24r
        refine pw_sub E (pc' := 103) rfl rfl ?_
        refine pw_ist E (pc' := 105) (ls' := [some (.ref 141), some (pw_i k), some (pw_i b), some (pw_i e), some (pw_i sg), some (pw_i ((0 + 0) - x24))]) rfl rfl rfl rfl ?_
        refine pw_ld E (pc' := 107) (st' := [pw_i ((0 + 0) - x24)]) rfl (fun _ => rfl) ?_
        refine pw_iret E rfl ?_
        have me0 : pv_mh h k e 0 = 0 := pv_mhI.2.2 (by omega) (by decide)
        have me1 : pv_mh h k e 1 = 10 * pw_g h 134 k.toNat := pv_mhI.2.1 (by omega) rfl
        have hyb : x24 = pv_hmk h b k := hx24r
        have mb0 : pv_mh h k b 0 = pv_hmk h b k := pv_mhI.1 (by omega)
        have mb1 : pv_mh h k b 1 = pv_hmk h b k := pv_mhI.1 (by omega)
        exact ⟨rfl, ⟨_, rfl, by omega, by omega, ⟨fun _ => by omega, fun _ => by omega⟩⟩⟩
      · intro hc25
        change ¬ (pw_g h 138 (((12 * k) + b).toNat) ≠ (0 : Int)) at hc25
        refine pw_ld E (pc' := 70) (st' := [pw_i (0 + 0)]) rfl (fun _ => rfl) ?_
        refine pw_ld E (pc' := 72) (st' := [pw_i sg, pw_i (0 + 0)]) rfl (fun _ => rfl) ?_
        refine pw_if E (pc' := 79) rfl (by decide) (by omega) (by omega) ?_ ?_
        · intro hc26
          change sg ≤ (0 : Int) at hc26
          refine pw_bip E (pc' := 81) rfl rfl (by decide) ?_
          refine pw_ld E (pc' := 82) (st' := [.ref 141, pw_i 10, pw_i (0 + 0)]) rfl (fun _ => rfl) ?_
          refine pw_getR (b := 150) I E (c := 125) (k := 13) (pc' := 85) rfl rfl rfl rfl rfl rfl rfl ?_
          refine pw_ld E (pc' := 86) (st' := [pw_i k, .ref 150, pw_i 10, pw_i (0 + 0)]) rfl (fun _ => rfl) ?_
          refine pw_ald2 I E (c := 134) (pc' := 87) rfl rfl rfl (by decide) rfl (by decide) (by omega) (by omega) rfl (fun hf27a hf27b => ?_)
          refine pw_mul E (pc' := 88) rfl rfl ?_
          refine pw_sub E (pc' := 89) rfl rfl ?_
          refine pw_ist E (pc' := 91) (ls' := [some (.ref 141), some (pw_i k), some (pw_i b), some (pw_i e), some (pw_i sg), some (pw_i ((0 + 0) - (10 * (pw_g h 134 (k.toNat)))))]) rfl rfl rfl rfl ?_
          refine pw_goto E (pc' := 105) rfl (by decide) ?_
          refine pw_ld E (pc' := 107) (st' := [pw_i ((0 + 0) - (10 * (pw_g h 134 (k.toNat))))]) rfl (fun _ => rfl) ?_
          refine pw_iret E rfl ?_
          have me0 : pv_mh h k e 0 = 0 := pv_mhI.2.2 (by omega) (by decide)
          have me1 : pv_mh h k e 1 = 10 * pw_g h 134 k.toNat := pv_mhI.2.1 (by omega) rfl
          have mb0 : pv_mh h k b 0 = 0 := pv_mhI.2.2 (by omega) (by decide)
          have mb1 : pv_mh h k b 1 = 10 * pw_g h 134 k.toNat := pv_mhI.2.1 (by omega) rfl
          exact ⟨rfl, ⟨_, rfl, by omega, by omega, ⟨fun _ => by omega, fun _ => by omega⟩⟩⟩
        · intro hc28
          change ¬ (sg ≤ (0 : Int)) at hc28
          exfalso; omega
    · intro hc29
      change ¬ (sg ≤ (0 : Int)) at hc29
      refine pw_bip E (pc' := 26) rfl rfl (by decide) ?_
      refine pw_ld E (pc' := 27) (st' := [.ref 141, pw_i 10, pw_i 0]) rfl (fun _ => rfl) ?_
      refine pw_getR (b := 150) I E (c := 125) (k := 13) (pc' := 30) rfl rfl rfl rfl rfl rfl rfl ?_
      refine pw_ld E (pc' := 31) (st' := [pw_i k, .ref 150, pw_i 10, pw_i 0]) rfl (fun _ => rfl) ?_
      refine pw_ald2 I E (c := 134) (pc' := 32) rfl rfl rfl (by decide) rfl (by decide) (by omega) (by omega) rfl (fun hf30a hf30b => ?_)
      refine pw_mul E (pc' := 33) rfl rfl ?_
      refine pw_goto E (pc' := 37) rfl (by decide) ?_
      refine pw_add E (pc' := 38) rfl rfl ?_
      refine pw_ist E (pc' := 40) (ls' := [some (.ref 141), some (pw_i k), some (pw_i b), some (pw_i e), some (pw_i sg), some (pw_i (0 + (10 * (pw_g h 134 (k.toNat)))))]) rfl rfl rfl rfl ?_
      refine pw_goto E (pc' := 54) rfl (by decide) ?_
      refine pw_ld E (pc' := 55) (st' := [.ref 141]) rfl (fun _ => rfl) ?_
      refine pw_getR (b := 154) I E (c := 125) (k := 18) (pc' := 58) rfl rfl rfl rfl rfl rfl rfl ?_
      refine pw_bip E (pc' := 60) rfl rfl (by decide) ?_
      refine pw_ld E (pc' := 61) (st' := [pw_i k, pw_i 12, .ref 154]) rfl (fun _ => rfl) ?_
      refine pw_mul E (pc' := 62) rfl rfl ?_
      refine pw_ld E (pc' := 63) (st' := [pw_i b, pw_i (12 * k), .ref 154]) rfl (fun _ => rfl) ?_
      refine pw_add E (pc' := 64) rfl rfl ?_
      refine pw_ald2 I E (c := 138) (pc' := 65) rfl rfl rfl (by decide) rfl (by decide) (by omega) (by omega) rfl (fun hf31a hf31b => ?_)
      refine pw_if E (pc' := 94) rfl (by decide) (by omega) (by omega) ?_ ?_
      · intro hc32
        change pw_g h 138 (((12 * k) + b).toNat) ≠ (0 : Int) at hc32
        refine pw_ld E (pc' := 96) (st' := [pw_i (0 + (10 * (pw_g h 134 (k.toNat))))]) rfl (fun _ => rfl) ?_
        refine pw_ld E (pc' := 97) (st' := [.ref 141, pw_i (0 + (10 * (pw_g h 134 (k.toNat))))]) rfl (fun _ => rfl) ?_
        refine pw_ld E (pc' := 98) (st' := [pw_i k, .ref 141, pw_i (0 + (10 * (pw_g h 134 (k.toNat))))]) rfl (fun _ => rfl) ?_
        refine pw_ld E (pc' := 99) (st' := [pw_i b, pw_i k, .ref 141, pw_i (0 + (10 * (pw_g h 134 (k.toNat))))]) rfl (fun _ => rfl) ?_
        obtain ⟨f33l, f33h, -⟩ := pw_obj (c := 125) I rfl
        refine pw_call (m' := 210) (As := [.ref 141, pw_i k, pw_i b]) (rest := [pw_i (0 + (10 * (pw_g h 134 (k.toNat))))]) (ls'' := [some (.ref 141), some (pw_i k), some (pw_i b)]) (Nat.le_trans (by decide) hd) E rfl (fun _ => pw_iV rfl rfl rfl rfl (pw_cellI f33h rfl)) (rfl : pm_ent 210 = some (3, 3, 12, 0, pmc_210)) rfl rfl (cm_210_h (pw_dp hd (by decide)) I (k) (by omega) (by omega) (b) (by omega) (by omega)) ?_
        rintro u35 v34 ⟨rfl, x36, rfl, hx36a, hx36b, hx36r⟩
        refine ⟨_, rfl, ?_⟩
        show pw X d h 227 102 [some (.ref 141), some (pw_i k), some (pw_i b), some (pw_i e), some (pw_i sg), some (pw_i (0 + (10 * (pw_g h 134 (k.toNat)))))] [pw_i x36, pw_i (0 + (10 * (pw_g h 134 (k.toNat))))] _
        change x36 = 10 * pw_g h 139 (12 * k + b).toNat + pw_g h 125 15 * pw_g h 140 (12 * k + b).toNat at hx36r
        refine pw_sub E (pc' := 103) rfl rfl ?_
        refine pw_ist E (pc' := 105) (ls' := [some (.ref 141), some (pw_i k), some (pw_i b), some (pw_i e), some (pw_i sg), some (pw_i ((0 + (10 * (pw_g h 134 (k.toNat)))) - x36))]) rfl rfl rfl rfl ?_
        refine pw_ld E (pc' := 107) (st' := [pw_i ((0 + (10 * (pw_g h 134 (k.toNat)))) - x36)]) rfl (fun _ => rfl) ?_
        refine pw_iret E rfl ?_
        have me0 : pv_mh h k e 0 = 0 := pv_mhI.2.2 (by omega) (by decide)
        have me1 : pv_mh h k e 1 = 10 * pw_g h 134 k.toNat := pv_mhI.2.1 (by omega) rfl
        have hyb : x36 = pv_hmk h b k := hx36r
        have mb0 : pv_mh h k b 0 = pv_hmk h b k := pv_mhI.1 (by omega)
        have mb1 : pv_mh h k b 1 = pv_hmk h b k := pv_mhI.1 (by omega)
        exact ⟨rfl, ⟨_, rfl, by omega, by omega, ⟨fun _ => by omega, fun _ => by omega⟩⟩⟩
      · intro hc37
        change ¬ (pw_g h 138 (((12 * k) + b).toNat) ≠ (0 : Int)) at hc37
        refine pw_ld E (pc' := 70) (st' := [pw_i (0 + (10 * (pw_g h 134 (k.toNat))))]) rfl (fun _ => rfl) ?_
        refine pw_ld E (pc' := 72) (st' := [pw_i sg, pw_i (0 + (10 * (pw_g h 134 (k.toNat))))]) rfl (fun _ => rfl) ?_
        refine pw_if E (pc' := 79) rfl (by decide) (by omega) (by omega) ?_ ?_
        · intro hc38
          change sg ≤ (0 : Int) at hc38
          exfalso; omega
        · intro hc39
          change ¬ (sg ≤ (0 : Int)) at hc39
          refine pw_ld E (pc' := 76) (st' := [pw_i 0, pw_i (0 + (10 * (pw_g h 134 (k.toNat))))]) rfl (fun _ => rfl) ?_
          refine pw_goto E (pc' := 88) rfl (by decide) ?_
          refine pw_sub E (pc' := 89) rfl rfl ?_
          refine pw_ist E (pc' := 91) (ls' := [some (.ref 141), some (pw_i k), some (pw_i b), some (pw_i e), some (pw_i sg), some (pw_i ((0 + (10 * (pw_g h 134 (k.toNat)))) - 0))]) rfl rfl rfl rfl ?_
          refine pw_goto E (pc' := 105) rfl (by decide) ?_
          refine pw_ld E (pc' := 107) (st' := [pw_i ((0 + (10 * (pw_g h 134 (k.toNat)))) - 0)]) rfl (fun _ => rfl) ?_
          refine pw_iret E rfl ?_
          have me0 : pv_mh h k e 0 = 0 := pv_mhI.2.2 (by omega) (by decide)
          have me1 : pv_mh h k e 1 = 10 * pw_g h 134 k.toNat := pv_mhI.2.1 (by omega) rfl
          have mb0 : pv_mh h k b 0 = 0 := pv_mhI.2.2 (by omega) (by decide)
          have mb1 : pv_mh h k b 1 = 10 * pw_g h 134 k.toNat := pv_mhI.2.1 (by omega) rfl
          exact ⟨rfl, ⟨_, rfl, by omega, by omega, ⟨fun _ => by omega, fun _ => by omega⟩⟩⟩
set_option maxHeartbeats 4000000 in
theorem cm_226_s {X : List (Nat × List Value)} {d : Nat} {h : pm_H} (hd : 4 ≤ d) (I : pw_I h) (b : Int) (hb1 : 0 ≤ b) (hb2 : b ≤ 11) (e : Int) (he1 : 0 ≤ e) (he2 : e ≤ 11) (sg : Int) (hsg1 : (-1) ≤ sg) (hsg2 : sg ≤ 1) (hp0 : sg ≠ 0) : pw X d h 226 0 [some (.ref 141), some (pw_i b), some (pw_i e), some (pw_i sg), none] [] (fun h' v => pw_I h' ∧ pw_E [125] h h' ∧ ∃ a : Int, v = .inl (some (pw_i a)) ∧ 0 ≤ a ∧ a ≤ 1 ∧ (((a = 1 ∧ pv_OK (pv_sdbm h)) ∨ (a = 0 ∧ ¬ pv_OK (pv_sdbm h))) ∧ pw_gm h' 125 24 = pv_U (pv_sdbm h) (pv_chbm h sg b e) ∧ pw_gm h' 125 25 = pv_D (pv_sdbm h) ∧ pw_gm h' 125 26 = pv_S (pv_sdbm h) (pv_chbm h sg b e) 0 24 ∧ pw_gm h' 125 27 = pv_N (pv_sdbm h) 0 24 ∧ pw_gm h' 125 28 = pv_S (pv_sdbm h) (pv_chbm h sg b e) 1 24 ∧ pw_gm h' 125 29 = pv_N (pv_sdbm h) 1 24)) := by
  have E : pm_ent 226 = some (4, 5, 12, 1, pmc_226) := rfl
  have E0 : pw_E [125] h h := pw_E.rf _ _
  refine pw_ld E (pc' := 1) (st' := [.ref 141]) rfl (fun _ => rfl) ?_
  obtain ⟨f1l, f1h, -⟩ := pw_obj (c := 125) I rfl
  refine pw_call (m' := 219) (As := [.ref 141]) (rest := []) (ls'' := [some (.ref 141)]) (Nat.le_trans (by decide) hd) E rfl (fun _ => pw_iV rfl rfl rfl rfl (pw_cellI f1h rfl)) (rfl : pm_ent 219 = some (1, 1, 12, 4, pmc_219)) rfl rfl (cm_219_s (pw_dp hd (by decide)) I ) ?_
  rintro h2 v3 ⟨h2I, h2E, hqbeg, rfl⟩
  refine ⟨_, rfl, ?_⟩
  have h2F := E0.tr (h2E.wk (W' := [125]) (by first | rfl | simp))
  show pw X d h2 226 4 [some (.ref 141), some (pw_i b), some (pw_i e), some (pw_i sg), none] [] _
  refine pw_ld E (pc' := 5) (st' := [pw_i 0]) rfl (fun _ => rfl) ?_
  refine pw_ist E (pc' := 7) (ls' := [some (.ref 141), some (pw_i b), some (pw_i e), some (pw_i sg), some (pw_i 0)]) rfl rfl rfl rfl ?_
  have L7 : ∀ (n7 : Nat) (k7_4 : Int) (gh7 : pm_H), pw_I gh7 → pw_E [125] h gh7 → 0 ≤ k7_4 → k7_4 ≤ 24 → pw_gm gh7 125 26 = pv_S (pv_sdbm h) (pv_chbm h sg b e) 0 (k7_4).toNat → pw_gm gh7 125 27 = pv_N (pv_sdbm h) 0 (k7_4).toNat → pw_gm gh7 125 28 = pv_S (pv_sdbm h) (pv_chbm h sg b e) 1 (k7_4).toNat → pw_gm gh7 125 29 = pv_N (pv_sdbm h) 1 (k7_4).toNat → pw_gm gh7 125 27 + pw_gm gh7 125 29 ≤ k7_4 → 0 ≤ pw_gm gh7 125 27 → 0 ≤ pw_gm gh7 125 29 → (-2000) * k7_4 ≤ pw_gm gh7 125 26 → pw_gm gh7 125 26 ≤ 2000 * k7_4 → (-2000) * k7_4 ≤ pw_gm gh7 125 28 → pw_gm gh7 125 28 ≤ 2000 * k7_4 → (24 - k7_4).toNat = n7 → pw X d gh7 226 7 [some (.ref 141), some (pw_i b), some (pw_i e), some (pw_i sg), some (pw_i k7_4)] [] (fun h' v => pw_I h' ∧ pw_E [125] h h' ∧ ∃ a : Int, v = .inl (some (pw_i a)) ∧ 0 ≤ a ∧ a ≤ 1 ∧ (((a = 1 ∧ pv_OK (pv_sdbm h)) ∨ (a = 0 ∧ ¬ pv_OK (pv_sdbm h))) ∧ pw_gm h' 125 24 = pv_U (pv_sdbm h) (pv_chbm h sg b e) ∧ pw_gm h' 125 25 = pv_D (pv_sdbm h) ∧ pw_gm h' 125 26 = pv_S (pv_sdbm h) (pv_chbm h sg b e) 0 24 ∧ pw_gm h' 125 27 = pv_N (pv_sdbm h) 0 24 ∧ pw_gm h' 125 28 = pv_S (pv_sdbm h) (pv_chbm h sg b e) 1 24 ∧ pw_gm h' 125 29 = pv_N (pv_sdbm h) 1 24)) := by
    intro n7
    induction n7 using Nat.strongRecOn with
    | ind n7 ih7 =>
      intro k7_4 gh7 I7 E7 k7_4a k7_4b hx7_0 hx7_1 hx7_2 hx7_3 hx7_4 hx7_5 hx7_6 hx7_7 hx7_8 hx7_9 hx7_10 hm7
      refine pw_ld E (pc' := 9) (st' := [pw_i k7_4]) rfl (fun _ => rfl) ?_
      refine pw_bip E (pc' := 11) rfl rfl (by decide) ?_
      refine pw_if2 E (pc' := 74) rfl (by decide) (by omega) (by omega) (by decide) (by decide) ?_ ?_
      · intro hc4
        change (24 : Int) ≤ k7_4 at hc4
        rw [show (k7_4).toNat = 24 by omega] at hx7_0 hx7_1 hx7_2 hx7_3
        refine pw_ld E (pc' := 75) (st' := [.ref 141]) rfl (fun _ => rfl) ?_
        obtain ⟨f5l, f5h, -⟩ := pw_obj (c := 125) I7 rfl
        refine pw_call (m' := 221) (As := [.ref 141]) (rest := []) (ls'' := [some (.ref 141)]) (Nat.le_trans (by decide) hd) E rfl (fun _ => pw_iV rfl rfl rfl rfl (pw_cellI f5h rfl)) (rfl : pm_ent 221 = some (1, 1, 12, 1, pmc_221)) rfl rfl (cm_221_s (pw_dp hd (by decide)) I7 (by omega) (by omega) (by omega) (by omega) (by omega) (by omega) (by omega) (by omega)) ?_
        rintro h6 v7 ⟨h6I, h6E, x8, rfl, hx8a, hx8b, hx8r⟩
        refine ⟨_, rfl, ?_⟩
        have h6F := E7.tr (h6E.wk (W' := [125]) (by first | rfl | simp))
        show pw X d h6 226 78 [some (.ref 141), some (pw_i b), some (pw_i e), some (pw_i sg), some (pw_i k7_4)] [pw_i x8] _
        change ((x8 = 1 ∧ 0 < pw_gm gh7 125 27 * pw_gm gh7 125 29) ∨ (x8 = 0 ∧ pw_gm gh7 125 27 * pw_gm gh7 125 29 ≤ 0)) ∧ pw_gm h6 125 24 = pw_gm gh7 125 26 * pw_gm gh7 125 29 - pw_gm gh7 125 28 * pw_gm gh7 125 27 ∧ pw_gm h6 125 25 = pw_gm gh7 125 27 * pw_gm gh7 125 29 ∧ pw_gm h6 125 26 = pw_gm gh7 125 26 ∧ pw_gm h6 125 27 = pw_gm gh7 125 27 ∧ pw_gm h6 125 28 = pw_gm gh7 125 28 ∧ pw_gm h6 125 29 = pw_gm gh7 125 29 at hx8r
        refine pw_zret E rfl (by omega) ?_
        rw [hx7_0, hx7_1, hx7_2, hx7_3] at hx8r
        obtain ⟨r1, r2, r3, r4, r5, r6, r7⟩ := hx8r
        exact ⟨h6I, h6F, ⟨_, rfl, by omega, by omega, pv_okD (pv_NB 24).1 (pv_NB 24).1 r1, r2, r3, r4, r5, r6, r7⟩⟩
      · intro hc9
        change ¬ ((24 : Int) ≤ k7_4) at hc9
        have od := pv_sdbm_I (h := h) (k := k7_4) (by omega)
        have oc := pv_chbm_I (h := h) (sg := sg) (b := b) (e := e) (k := k7_4) (by omega)
        have q1 : pw_g gh7 131 (k7_4).toNat = pw_g h 131 (k7_4).toNat := pw_Eg (c := 131) I E7 rfl rfl _
        have q4 : pw_g gh7 132 (k7_4).toNat = pw_g h 132 (k7_4).toNat := pw_Eg (c := 132) I E7 rfl rfl _
        have hw4 := pw_gA (c := 132) (j := k7_4) I7 rfl (by decide) (by omega) (by omega)
        have rb0 : pv_mh gh7 k7_4 b 0 = pv_mh h k7_4 b 0 := pv_mhE I E7 rfl
        have rb1 : pv_mh gh7 k7_4 b 1 = pv_mh h k7_4 b 1 := pv_mhE I E7 rfl
        have re0 : pv_mh gh7 k7_4 e 0 = pv_mh h k7_4 e 0 := pv_mhE I E7 rfl
        have re1 : pv_mh gh7 k7_4 e 1 = pv_mh h k7_4 e 1 := pv_mhE I E7 rfl
        refine pw_ld E (pc' := 15) (st' := [.ref 141]) rfl (fun _ => rfl) ?_
        refine pw_getR (b := 147) I7 E (c := 125) (k := 10) (pc' := 18) rfl rfl rfl rfl rfl rfl rfl ?_
        refine pw_ld E (pc' := 20) (st' := [pw_i k7_4, .ref 147]) rfl (fun _ => rfl) ?_
        refine pw_ald2 I7 E (c := 131) (pc' := 21) rfl rfl rfl (by decide) rfl (by decide) (by omega) (by omega) rfl (fun hf10a hf10b => ?_)
        refine pw_if E (pc' := 68) rfl (by decide) (by omega) (by omega) ?_ ?_
        · intro hc11
          change pw_g gh7 131 (k7_4.toNat) = (0 : Int) at hc11
          have hsd : (pv_sdbm h) (k7_4).toNat = -1 := by omega
          clear oc od
          obtain ⟨e0, e1, e2, e3⟩ := pv_stpm (sd := pv_sdbm h) (ch := pv_chbm h sg b e) (k := k7_4) (by omega) hsd
          refine pw_inc E (pc' := 71) (ls' := [some (.ref 141), some (pw_i b), some (pw_i e), some (pw_i sg), some (pw_i (k7_4 + 1))]) rfl rfl rfl rfl ?_
          refine pw_goto E (pc' := 7) rfl (by decide) ?_
          exact ih7 _ (by omega) (k7_4 + 1) gh7 I7 E7 (by omega) (by omega) (by omega) (by omega) (by omega) (by omega) (by omega) (by omega) (by omega) (by omega) (by omega) (by omega) (by omega) rfl
        · intro hc12
          change ¬ (pw_g gh7 131 (k7_4.toNat) = (0 : Int)) at hc12
          refine pw_ld E (pc' := 25) (st' := [.ref 141]) rfl (fun _ => rfl) ?_
          refine pw_ld E (pc' := 26) (st' := [.ref 141, .ref 141]) rfl (fun _ => rfl) ?_
          refine pw_getR (b := 148) I7 E (c := 125) (k := 11) (pc' := 29) rfl rfl rfl rfl rfl rfl rfl ?_
          refine pw_ld E (pc' := 31) (st' := [pw_i k7_4, .ref 148, .ref 141]) rfl (fun _ => rfl) ?_
          refine pw_ald2 I7 E (c := 132) (pc' := 32) rfl rfl rfl (by decide) rfl (by decide) (by omega) (by omega) rfl (fun hf13a hf13b => ?_)
          refine pw_if E (pc' := 39) rfl (by decide) (by omega) (by omega) ?_ ?_
          · intro hc14
            change pw_g gh7 132 (k7_4.toNat) ≠ (0 : Int) at hc14
            refine pw_ld E (pc' := 40) (st' := [pw_i 0, .ref 141]) rfl (fun _ => rfl) ?_
            refine pw_ld E (pc' := 41) (st' := [.ref 141, pw_i 0, .ref 141]) rfl (fun _ => rfl) ?_
            refine pw_ld E (pc' := 43) (st' := [pw_i k7_4, .ref 141, pw_i 0, .ref 141]) rfl (fun _ => rfl) ?_
            refine pw_ld E (pc' := 44) (st' := [pw_i b, pw_i k7_4, .ref 141, pw_i 0, .ref 141]) rfl (fun _ => rfl) ?_
            refine pw_ld E (pc' := 45) (st' := [pw_i e, pw_i b, pw_i k7_4, .ref 141, pw_i 0, .ref 141]) rfl (fun _ => rfl) ?_
            refine pw_ld E (pc' := 46) (st' := [.ref 141, pw_i e, pw_i b, pw_i k7_4, .ref 141, pw_i 0, .ref 141]) rfl (fun _ => rfl) ?_
            refine pw_getR (b := 148) I7 E (c := 125) (k := 11) (pc' := 49) rfl rfl rfl rfl rfl rfl rfl ?_
            refine pw_ld E (pc' := 51) (st' := [pw_i k7_4, .ref 148, pw_i e, pw_i b, pw_i k7_4, .ref 141, pw_i 0, .ref 141]) rfl (fun _ => rfl) ?_
            refine pw_ald2 I7 E (c := 132) (pc' := 52) rfl rfl rfl (by decide) rfl (by decide) (by omega) (by omega) rfl (fun hf15a hf15b => ?_)
            refine pw_if E (pc' := 59) rfl (by decide) (by omega) (by omega) ?_ ?_
            · intro hc16
              change pw_g gh7 132 (k7_4.toNat) ≠ (0 : Int) at hc16
              refine pw_ld E (pc' := 60) (st' := [pw_i sg, pw_i e, pw_i b, pw_i k7_4, .ref 141, pw_i 0, .ref 141]) rfl (fun _ => rfl) ?_
              refine pw_ineg E (pc' := 61) rfl rfl ?_
              obtain ⟨f17l, f17h, -⟩ := pw_obj (c := 125) I7 rfl
              refine pw_call (m' := 227) (As := [.ref 141, pw_i k7_4, pw_i b, pw_i e, pw_i (-sg)]) (rest := [pw_i 0, .ref 141]) (ls'' := [some (.ref 141), some (pw_i k7_4), some (pw_i b), some (pw_i e), some (pw_i (-sg)), none]) (Nat.le_trans (by decide) hd) E rfl (fun _ => pw_iV rfl rfl rfl rfl (pw_cellI f17h rfl)) (rfl : pm_ent 227 = some (5, 6, 12, 0, pmc_227)) rfl rfl (cm_227_s (pw_dp hd (by decide)) I7 (k7_4) (by omega) (by omega) (b) (by omega) (by omega) (e) (by omega) (by omega) (-sg) (by omega) (by omega)) ?_
              rintro u19 v18 ⟨rfl, x20, rfl, hx20a, hx20b, hx20r⟩
              refine ⟨_, rfl, ?_⟩
              show pw X d gh7 226 64 [some (.ref 141), some (pw_i b), some (pw_i e), some (pw_i sg), some (pw_i k7_4)] [pw_i x20, pw_i 0, .ref 141] _
              change (0 < (-sg) → x20 = pv_mh gh7 k7_4 e 1 - pv_mh gh7 k7_4 b 0) ∧ (¬ (0 < (-sg)) → x20 = pv_mh gh7 k7_4 e 0 - pv_mh gh7 k7_4 b 1) at hx20r
              refine pw_i2l E (pc' := 65) rfl rfl (by omega) (by omega) ?_
              have hch : pv_chbm h sg b e (k7_4).toNat = x20 := by omega
              have hsd : (pv_sdbm h) (k7_4).toNat = 1 := by omega
              clear oc od
              obtain ⟨e0, e1, e2, e3⟩ := pv_stp1 (sd := pv_sdbm h) (ch := pv_chbm h sg b e) (k := k7_4) (by omega) hsd
              rw [hch] at e3
              obtain ⟨f21l, f21h, -⟩ := pw_obj (c := 125) I7 rfl
              refine pw_call (m' := 220) (As := [.ref 141, pw_i 0, .long (Int64.ofInt x20)]) (rest := []) (ls'' := [some (.ref 141), some (pw_i 0), some (.long (Int64.ofInt x20)), none]) (Nat.le_trans (by decide) hd) E rfl (fun _ => pw_iV rfl rfl rfl rfl (pw_cellI f21h rfl)) (rfl : pm_ent 220 = some (3, 4, 12, 4, pmc_220)) rfl rfl (cm_220_s (pw_dp hd (by decide)) I7 (0) (by omega) (by omega) (x20) (by omega) (by omega) (by omega) (by omega) (by omega) (by omega) (by omega) (by omega) (by omega)) ?_
              rintro h22 v23 ⟨h22I, h22E, hqadd, rfl⟩
              refine ⟨_, rfl, ?_⟩
              have h22F := E7.tr (h22E.wk (W' := [125]) (by first | rfl | simp))
              show pw X d h22 226 68 [some (.ref 141), some (pw_i b), some (pw_i e), some (pw_i sg), some (pw_i k7_4)] [] _
              have hqa := hqadd.2 rfl
              clear hqadd
              refine pw_inc E (pc' := 71) (ls' := [some (.ref 141), some (pw_i b), some (pw_i e), some (pw_i sg), some (pw_i (k7_4 + 1))]) rfl rfl rfl rfl ?_
              refine pw_goto E (pc' := 7) rfl (by decide) ?_
              exact ih7 _ (by omega) (k7_4 + 1) h22 h22I h22F (by omega) (by omega) (by omega) (by omega) (by omega) (by omega) (by omega) (by omega) (by omega) (by omega) (by omega) (by omega) (by omega) rfl
            · intro hc24
              change ¬ (pw_g gh7 132 (k7_4.toNat) ≠ (0 : Int)) at hc24
              exfalso; omega
          · intro hc25
            change ¬ (pw_g gh7 132 (k7_4.toNat) ≠ (0 : Int)) at hc25
            refine pw_ld E (pc' := 36) (st' := [pw_i 1, .ref 141]) rfl (fun _ => rfl) ?_
            refine pw_goto E (pc' := 40) rfl (by decide) ?_
            refine pw_ld E (pc' := 41) (st' := [.ref 141, pw_i 1, .ref 141]) rfl (fun _ => rfl) ?_
            refine pw_ld E (pc' := 43) (st' := [pw_i k7_4, .ref 141, pw_i 1, .ref 141]) rfl (fun _ => rfl) ?_
            refine pw_ld E (pc' := 44) (st' := [pw_i b, pw_i k7_4, .ref 141, pw_i 1, .ref 141]) rfl (fun _ => rfl) ?_
            refine pw_ld E (pc' := 45) (st' := [pw_i e, pw_i b, pw_i k7_4, .ref 141, pw_i 1, .ref 141]) rfl (fun _ => rfl) ?_
            refine pw_ld E (pc' := 46) (st' := [.ref 141, pw_i e, pw_i b, pw_i k7_4, .ref 141, pw_i 1, .ref 141]) rfl (fun _ => rfl) ?_
            refine pw_getR (b := 148) I7 E (c := 125) (k := 11) (pc' := 49) rfl rfl rfl rfl rfl rfl rfl ?_
            refine pw_ld E (pc' := 51) (st' := [pw_i k7_4, .ref 148, pw_i e, pw_i b, pw_i k7_4, .ref 141, pw_i 1, .ref 141]) rfl (fun _ => rfl) ?_
            refine pw_ald2 I7 E (c := 132) (pc' := 52) rfl rfl rfl (by decide) rfl (by decide) (by omega) (by omega) rfl (fun hf26a hf26b => ?_)
            refine pw_if E (pc' := 59) rfl (by decide) (by omega) (by omega) ?_ ?_
            · intro hc27
              change pw_g gh7 132 (k7_4.toNat) ≠ (0 : Int) at hc27
              exfalso; omega
            · intro hc28
              change ¬ (pw_g gh7 132 (k7_4.toNat) ≠ (0 : Int)) at hc28
              refine pw_ld E (pc' := 56) (st' := [pw_i sg, pw_i e, pw_i b, pw_i k7_4, .ref 141, pw_i 1, .ref 141]) rfl (fun _ => rfl) ?_
              refine pw_goto E (pc' := 61) rfl (by decide) ?_
              obtain ⟨f29l, f29h, -⟩ := pw_obj (c := 125) I7 rfl
              refine pw_call (m' := 227) (As := [.ref 141, pw_i k7_4, pw_i b, pw_i e, pw_i sg]) (rest := [pw_i 1, .ref 141]) (ls'' := [some (.ref 141), some (pw_i k7_4), some (pw_i b), some (pw_i e), some (pw_i sg), none]) (Nat.le_trans (by decide) hd) E rfl (fun _ => pw_iV rfl rfl rfl rfl (pw_cellI f29h rfl)) (rfl : pm_ent 227 = some (5, 6, 12, 0, pmc_227)) rfl rfl (cm_227_s (pw_dp hd (by decide)) I7 (k7_4) (by omega) (by omega) (b) (by omega) (by omega) (e) (by omega) (by omega) (sg) (by omega) (by omega)) ?_
              rintro u31 v30 ⟨rfl, x32, rfl, hx32a, hx32b, hx32r⟩
              refine ⟨_, rfl, ?_⟩
              show pw X d gh7 226 64 [some (.ref 141), some (pw_i b), some (pw_i e), some (pw_i sg), some (pw_i k7_4)] [pw_i x32, pw_i 1, .ref 141] _
              change (0 < sg → x32 = pv_mh gh7 k7_4 e 1 - pv_mh gh7 k7_4 b 0) ∧ (¬ (0 < sg) → x32 = pv_mh gh7 k7_4 e 0 - pv_mh gh7 k7_4 b 1) at hx32r
              refine pw_i2l E (pc' := 65) rfl rfl (by omega) (by omega) ?_
              have hch : pv_chbm h sg b e (k7_4).toNat = x32 := by omega
              have hsd : (pv_sdbm h) (k7_4).toNat = 0 := by omega
              clear oc od
              obtain ⟨e0, e1, e2, e3⟩ := pv_stp0 (sd := pv_sdbm h) (ch := pv_chbm h sg b e) (k := k7_4) (by omega) hsd
              rw [hch] at e2
              obtain ⟨f33l, f33h, -⟩ := pw_obj (c := 125) I7 rfl
              refine pw_call (m' := 220) (As := [.ref 141, pw_i 1, .long (Int64.ofInt x32)]) (rest := []) (ls'' := [some (.ref 141), some (pw_i 1), some (.long (Int64.ofInt x32)), none]) (Nat.le_trans (by decide) hd) E rfl (fun _ => pw_iV rfl rfl rfl rfl (pw_cellI f33h rfl)) (rfl : pm_ent 220 = some (3, 4, 12, 4, pmc_220)) rfl rfl (cm_220_s (pw_dp hd (by decide)) I7 (1) (by omega) (by omega) (x32) (by omega) (by omega) (by omega) (by omega) (by omega) (by omega) (by omega) (by omega) (by omega)) ?_
              rintro h34 v35 ⟨h34I, h34E, hqadd, rfl⟩
              refine ⟨_, rfl, ?_⟩
              have h34F := E7.tr (h34E.wk (W' := [125]) (by first | rfl | simp))
              show pw X d h34 226 68 [some (.ref 141), some (pw_i b), some (pw_i e), some (pw_i sg), some (pw_i k7_4)] [] _
              have hqa := hqadd.1 rfl
              clear hqadd
              refine pw_inc E (pc' := 71) (ls' := [some (.ref 141), some (pw_i b), some (pw_i e), some (pw_i sg), some (pw_i (k7_4 + 1))]) rfl rfl rfl rfl ?_
              refine pw_goto E (pc' := 7) rfl (by decide) ?_
              exact ih7 _ (by omega) (k7_4 + 1) h34 h34I h34F (by omega) (by omega) (by omega) (by omega) (by omega) (by omega) (by omega) (by omega) (by omega) (by omega) (by omega) (by omega) (by omega) rfl
  exact L7 _ (0) h2 h2I h2F (by omega) (by omega) (by show _ = (0 : Int); omega) (by show _ = (0 : Int); omega) (by show _ = (0 : Int); omega) (by show _ = (0 : Int); omega) (by omega) (by omega) (by omega) (by omega) (by omega) (by omega) (by omega) rfl
end
section
/-! differences of fractions (printed by wip/tool/mfrac.py) -/
theorem pv_tdsg {U D : Int} (hD : 1 ≤ D) : (Int.tdiv U (pw_gd U D) ≤ 0 ↔ U ≤ 0) ∧ (0 ≤ Int.tdiv U (pw_gd U D) ↔ 0 ≤ U) := by
  obtain ⟨e1, -, -⟩ := pw_lw (x := U) (y := D) (by omega)
  have gp := pw_gd_pos (x := U) (y := D) (by omega)
  generalize Int.tdiv U (pw_gd U D) = a at e1 ⊢
  generalize pw_gd U D = g at e1 gp
  constructor
  · constructor
    · intro h
      have := Int.mul_le_mul_of_nonneg_left (c := g) h (by omega)
      omega
    · intro h
      rcases (by omega : a ≤ 0 ∨ 1 ≤ a) with q | q
      · exact q
      · have := Int.mul_le_mul_of_nonneg_left (c := g) q (by omega)
        omega
  · constructor
    · intro h
      have := Int.mul_le_mul_of_nonneg_left (c := g) h (by omega)
      omega
    · intro h
      rcases (by omega : 0 ≤ a ∨ a ≤ -1) with q | q
      · exact q
      · have := Int.mul_le_mul_of_nonneg_left (c := g) q (by omega)
        omega
theorem pv_tdUB1 {sd ch : Nat → Int} (hb : ∀ k : Nat, k < 24 → -2000 ≤ ch k ∧ ch k ≤ 2000) (ok : pv_OK sd) : 1 ≤ Int.tdiv (pv_D sd) (pw_gd (pv_U sd ch) (pv_D sd)) ∧ 1 ≤ pv_D sd := by
  have d1 := (pv_UB (sd := sd) hb).2.2.2.2 ok
  exact ⟨(pw_lw (x := pv_U sd ch) (y := pv_D sd) (by omega)).2.2, d1⟩
def pv_sw (U V : Int) : Int := if U ≤ 0 ∧ 0 ≤ V then 1 else 0
theorem pv_swI {U V : Int} : ((U ≤ 0 ∧ 0 ≤ V) → pv_sw U V = 1) ∧ (¬ (U ≤ 0 ∧ 0 ≤ V) → pv_sw U V = 0) := ⟨fun q => if_pos q, fun q => if_neg q⟩
end
section
/-! swings, exactly -/
set_option maxHeartbeats 4000000 in
theorem cm_328_s {X : List (Nat × List Value)} {d : Nat} {h : pm_H} (hd : 1 ≤ d) (I : pw_I h) (x : Int) (hx1 : (-1099511627776) ≤ x) (hx2 : x ≤ 1099511627776) (y : Int) (hy1 : (-1099511627776) ≤ y) (hy2 : y ≤ 1099511627776) : pw X d h 328 0 [some (.long (Int64.ofInt x)), none, some (.long (Int64.ofInt y)), none] [] (fun h' v => h = h' ∧ ∃ a : Int, v = .inl (some (pw_i a)) ∧ (-1) ≤ a ∧ a ≤ 1 ∧ ((a = -1 ∧ x < y) ∨ (a = 0 ∧ x = y) ∨ (a = 1 ∧ y < x))) := by
  have E : pm_ent 328 = some (2, 4, 16, 0, pmc_328) := rfl
  refine pw_ld E (pc' := 1) (st' := [.long (Int64.ofInt x)]) rfl (fun _ => rfl) ?_
  refine pw_ld E (pc' := 2) (st' := [.long (Int64.ofInt y), .long (Int64.ofInt x)]) rfl (fun _ => rfl) ?_
  refine pw_lcmpC E (pc' := 3) rfl rfl (by omega) (by omega) (by omega) (by omega) (fun c1 hc1 => ?_)
  refine pw_if E (pc' := 10) rfl (by decide) (by omega) (by omega) ?_ ?_
  · intro hc2
    change (0 : Int) ≤ c1 at hc2
    refine pw_ld E (pc' := 11) (st' := [.long (Int64.ofInt x)]) rfl (fun _ => rfl) ?_
    refine pw_ld E (pc' := 12) (st' := [.long (Int64.ofInt y), .long (Int64.ofInt x)]) rfl (fun _ => rfl) ?_
    refine pw_lcmpC E (pc' := 13) rfl rfl (by omega) (by omega) (by omega) (by omega) (fun c3 hc3 => ?_)
    refine pw_if E (pc' := 20) rfl (by decide) (by omega) (by omega) ?_ ?_
    · intro hc4
      change c3 ≠ (0 : Int) at hc4
      refine pw_ld E (pc' := 21) (st' := [pw_i 1]) rfl (fun _ => rfl) ?_
      refine pw_iret E rfl ?_
      exact ⟨rfl, ⟨_, rfl, by omega, by omega, by omega⟩⟩
    · intro hc5
      change ¬ (c3 ≠ (0 : Int)) at hc5
      refine pw_ld E (pc' := 17) (st' := [pw_i 0]) rfl (fun _ => rfl) ?_
      refine pw_goto E (pc' := 21) rfl (by decide) ?_
      refine pw_iret E rfl ?_
      exact ⟨rfl, ⟨_, rfl, by omega, by omega, by omega⟩⟩
  · intro hc6
    change ¬ ((0 : Int) ≤ c1) at hc6
    refine pw_ld E (pc' := 7) (st' := [pw_i ((-1))]) rfl (fun _ => rfl) ?_
    refine pw_goto E (pc' := 21) rfl (by decide) ?_
    refine pw_iret E rfl ?_
    exact ⟨rfl, ⟨_, rfl, by omega, by omega, by omega⟩⟩
set_option maxHeartbeats 4000000 in
theorem cm_8_22g {X : List (Nat × List Value)} {d : Nat} {h : pm_H} (hd : 2 ≤ d) (I : pw_I h) (hp0 : (-1099511627776) ≤ pw_gm h 22 0) (hp1 : pw_gm h 22 0 ≤ 1099511627776) : pw X d h 8 0 [some (.ref 38)] [] (fun h' v => h = h' ∧ ∃ a : Int, v = .inl (some (pw_i a)) ∧ (-1) ≤ a ∧ a ≤ 1 ∧ ((a = -1 ∧ pw_gm h 22 0 < 0) ∨ (a = 0 ∧ pw_gm h 22 0 = 0) ∨ (a = 1 ∧ 0 < pw_gm h 22 0))) := by
  have E : pm_ent 8 = some (1, 1, 1, 0, pmc_8) := rfl
  refine pw_ld E (pc' := 1) (st' := [.ref 38]) rfl (fun _ => rfl) ?_
  refine pw_getLM I E (c := 22) (k := 0) (pc' := 4) rfl rfl rfl rfl rfl rfl ?_
  refine pw_ld E (pc' := 5) (st' := [.long (Int64.ofInt 0), .long (Int64.ofInt (pw_gm h 22 0))]) rfl (fun _ => rfl) ?_
  refine pw_call (m' := 328) (As := [.long (Int64.ofInt (pw_gm h 22 0)), .long (Int64.ofInt 0)]) (rest := []) (ls'' := [some (.long (Int64.ofInt (pw_gm h 22 0))), none, some (.long (Int64.ofInt 0)), none]) (Nat.le_trans (by decide) hd) E rfl (fun _ => pw_iS rfl rfl rfl) (rfl : pm_ent 328 = some (2, 4, 16, 0, pmc_328)) rfl rfl (cm_328_s (pw_dp hd (by decide)) I (pw_gm h 22 0) (by omega) (by omega) (0) (by omega) (by omega)) ?_
  rintro u2 v1 ⟨rfl, x3, rfl, hx3a, hx3b, hx3r⟩
  refine ⟨_, rfl, ?_⟩
  show pw X d h 8 8 [some (.ref 38)] [pw_i x3] _
  change (x3 = -1 ∧ (pw_gm h 22 0) < 0) ∨ (x3 = 0 ∧ (pw_gm h 22 0) = 0) ∨ (x3 = 1 ∧ 0 < (pw_gm h 22 0)) at hx3r
  refine pw_iret E rfl ?_
  exact ⟨rfl, ⟨_, rfl, by omega, by omega, by omega⟩⟩
set_option maxHeartbeats 4000000 in
theorem cm_8_23g {X : List (Nat × List Value)} {d : Nat} {h : pm_H} (hd : 2 ≤ d) (I : pw_I h) (hp0 : (-1099511627776) ≤ pw_gm h 23 0) (hp1 : pw_gm h 23 0 ≤ 1099511627776) : pw X d h 8 0 [some (.ref 39)] [] (fun h' v => h = h' ∧ ∃ a : Int, v = .inl (some (pw_i a)) ∧ (-1) ≤ a ∧ a ≤ 1 ∧ ((a = -1 ∧ pw_gm h 23 0 < 0) ∨ (a = 0 ∧ pw_gm h 23 0 = 0) ∨ (a = 1 ∧ 0 < pw_gm h 23 0))) := by
  have E : pm_ent 8 = some (1, 1, 1, 0, pmc_8) := rfl
  refine pw_ld E (pc' := 1) (st' := [.ref 39]) rfl (fun _ => rfl) ?_
  refine pw_getLM I E (c := 23) (k := 0) (pc' := 4) rfl rfl rfl rfl rfl rfl ?_
  refine pw_ld E (pc' := 5) (st' := [.long (Int64.ofInt 0), .long (Int64.ofInt (pw_gm h 23 0))]) rfl (fun _ => rfl) ?_
  refine pw_call (m' := 328) (As := [.long (Int64.ofInt (pw_gm h 23 0)), .long (Int64.ofInt 0)]) (rest := []) (ls'' := [some (.long (Int64.ofInt (pw_gm h 23 0))), none, some (.long (Int64.ofInt 0)), none]) (Nat.le_trans (by decide) hd) E rfl (fun _ => pw_iS rfl rfl rfl) (rfl : pm_ent 328 = some (2, 4, 16, 0, pmc_328)) rfl rfl (cm_328_s (pw_dp hd (by decide)) I (pw_gm h 23 0) (by omega) (by omega) (0) (by omega) (by omega)) ?_
  rintro u2 v1 ⟨rfl, x3, rfl, hx3a, hx3b, hx3r⟩
  refine ⟨_, rfl, ?_⟩
  show pw X d h 8 8 [some (.ref 39)] [pw_i x3] _
  change (x3 = -1 ∧ (pw_gm h 23 0) < 0) ∨ (x3 = 0 ∧ (pw_gm h 23 0) = 0) ∨ (x3 = 1 ∧ 0 < (pw_gm h 23 0)) at hx3r
  refine pw_iret E rfl ?_
  exact ⟨rfl, ⟨_, rfl, by omega, by omega, by omega⟩⟩
set_option maxHeartbeats 4000000 in
theorem cm_130_s {X : List (Nat × List Value)} {d : Nat} {h : pm_H} (hd : 5 ≤ d) (I : pw_I h) (b : Int) (hb1 : (-2147483648) ≤ b) (hb2 : b ≤ 2147483647) (e : Int) (he1 : (-2147483648) ≤ e) (he2 : e ≤ 2147483647) : pw X d h 130 0 [some (.ref 16), some (pw_i b), some (pw_i e)] [] (fun h' v => pw_I h' ∧ pw_E [17, 18, 22, 23] h h' ∧ ∃ a : Int, v = .inl (some (pw_i a)) ∧ (-2147483648) ≤ a ∧ a ≤ 2147483647 ∧ ((((0 ≤ b ∧ b ≤ 11 ∧ 0 ≤ e ∧ e ≤ 11 ∧ b ≠ e) ∧ pv_OK (pv_sdb h)) ∧ a = pv_sw (pv_U (pv_sdb h) (pv_chb h 0 b e)) (pv_U (pv_sdb h) (pv_chb h 1 b e))) ∨ ((¬ (0 ≤ b ∧ b ≤ 11 ∧ 0 ≤ e ∧ e ≤ 11 ∧ b ≠ e) ∨ ¬ pv_OK (pv_sdb h)) ∧ a = -1))) := by
  have E : pm_ent 130 = some (3, 3, 11, 0, pmc_130) := rfl
  have E0 : pw_E [17, 18, 22, 23] h h := pw_E.rf _ _
  refine pw_ld E (pc' := 1) (st' := [pw_i b]) rfl (fun _ => rfl) ?_
  refine pw_ld E (pc' := 2) (st' := [pw_i e, pw_i b]) rfl (fun _ => rfl) ?_
  refine pw_call (m' := 131) (As := [pw_i b, pw_i e]) (rest := []) (ls'' := [some (pw_i b), some (pw_i e)]) (Nat.le_trans (by decide) hd) E rfl (fun _ => pw_iS rfl rfl rfl) (rfl : pm_ent 131 = some (2, 2, 11, 1, pmc_131)) rfl rfl (cm_131_s (pw_dp hd (by decide)) I (b) (by omega) (by omega) (e) (by omega) (by omega)) ?_
  rintro u2 v1 ⟨rfl, x3, rfl, hx3a, hx3b, hx3r⟩
  refine ⟨_, rfl, ?_⟩
  show pw X d h 130 5 [some (.ref 16), some (pw_i b), some (pw_i e)] [pw_i x3] _
  change (x3 = 1 ∧ 0 ≤ b ∧ b ≤ 11 ∧ 0 ≤ e ∧ e ≤ 11 ∧ b ≠ e) ∨ (x3 = 0 ∧ ¬ (0 ≤ b ∧ b ≤ 11 ∧ 0 ≤ e ∧ e ≤ 11 ∧ b ≠ e)) at hx3r
  rcases (by omega : x3 = 1 ∨ x3 = 0) with hb4 | hb4
  · skip
    refine pw_if E (pc' := 10) rfl (by decide) (by omega) (by omega) ?_ ?_
    · intro hc5
      change x3 ≠ (0 : Int) at hc5
      refine pw_ld E (pc' := 11) (st' := [.ref 16]) rfl (fun _ => rfl) ?_
      refine pw_ld E (pc' := 12) (st' := [pw_i b, .ref 16]) rfl (fun _ => rfl) ?_
      refine pw_ld E (pc' := 13) (st' := [pw_i e, pw_i b, .ref 16]) rfl (fun _ => rfl) ?_
      refine pw_ld E (pc' := 14) (st' := [pw_i 0, pw_i e, pw_i b, .ref 16]) rfl (fun _ => rfl) ?_
      obtain ⟨f6l, f6h, -⟩ := pw_obj (c := 0) I rfl
      refine pw_call (m' := 132) (As := [.ref 16, pw_i b, pw_i e, pw_i 0]) (rest := []) (ls'' := [some (.ref 16), some (pw_i b), some (pw_i e), some (pw_i 0), none, none, none]) (Nat.le_trans (by decide) hd) E rfl (fun _ => pw_iV rfl rfl rfl rfl (pw_cellI f6h rfl)) (rfl : pm_ent 132 = some (4, 7, 11, 4, pmc_132)) rfl rfl (cm_132_s (pw_dp hd (by decide)) I (b) (by omega) (by omega) (e) (by omega) (by omega) (0) (by omega) (by omega)) ?_
      rintro h7 v8 ⟨h7I, h7E, hqfill, rfl⟩
      refine ⟨_, rfl, ?_⟩
      have h7F := E0.tr (h7E.wk (W' := [17, 18, 22, 23]) (by first | rfl | simp))
      show pw X d h7 130 17 [some (.ref 16), some (pw_i b), some (pw_i e)] [] _
      have hFL : pv_FL h7 (pv_sdb h) (pv_chb h 0 b e) 24 := hqfill
      have hB : pv_Bd h7 := hFL.bd (pv_chbB I (by omega) (by omega) (by omega) (by omega))
      refine pw_ld E (pc' := 18) (st' := [.ref 16]) rfl (fun _ => rfl) ?_
      refine pw_getR (b := 32) h7I E (c := 0) (k := 7) (pc' := 21) rfl rfl rfl rfl rfl rfl rfl ?_
      refine pw_ld E (pc' := 22) (st' := [.ref 16, .ref 32]) rfl (fun _ => rfl) ?_
      refine pw_getR (b := 38) h7I E (c := 0) (k := 8) (pc' := 25) rfl rfl rfl rfl rfl rfl rfl ?_
      obtain ⟨f9l, f9h, -⟩ := pw_obj (c := 16) h7I rfl
      refine pw_call (m' := 83) (As := [.ref 32, .ref 38]) (rest := []) (ls'' := [some (.ref 32), some (.ref 38), none, none, none, none]) (Nat.le_trans (by decide) hd) E rfl (fun _ => pw_iV rfl rfl rfl rfl (pw_cellI f9h rfl)) (rfl : pm_ent 83 = some (2, 6, 8, 1, pmc_83)) rfl rfl (cm_83_22s (pw_dp hd (by decide)) h7I hB) ?_
      rintro h10 v11 ⟨h10I, h10E, x12, rfl, hx12a, hx12b, hx12r⟩
      refine ⟨_, rfl, ?_⟩
      have h10F := h7F.tr (h10E.wk (W' := [17, 18, 22, 23]) (by first | rfl | simp))
      show pw X d h10 130 28 [some (.ref 16), some (pw_i b), some (pw_i e)] [pw_i x12] _
      change (x12 = 0 ∧ ¬ pv_OK (pw_g h7 17)) ∨ (x12 = 1 ∧ pv_OK (pw_g h7 17) ∧ pw_gm h10 22 0 = Int.tdiv (pv_U (pw_g h7 17) (pw_g h7 18)) (pw_gd (pv_U (pw_g h7 17) (pw_g h7 18)) (pv_D (pw_g h7 17))) ∧ pw_gm h10 22 1 = Int.tdiv (pv_D (pw_g h7 17)) (pw_gd (pv_U (pw_g h7 17) (pw_g h7 18)) (pv_D (pw_g h7 17)))) at hx12r
      rcases (by omega : x12 = 1 ∨ x12 = 0) with hb13 | hb13
      · skip
        refine pw_if E (pc' := 33) rfl (by decide) (by omega) (by omega) ?_ ?_
        · intro hc14
          change x12 ≠ (0 : Int) at hc14
          obtain ⟨-, hok0, hm0, hm1⟩ := hx12r.resolve_left (fun q => by have := q.1; omega)
          have hok : pv_OK (pv_sdb h) := hFL.eq.2.2.1.mp hok0
          rw [hFL.eq.1, hFL.eq.2.1] at hm0 hm1
          have htd := pv_tdUB (sd := pv_sdb h) (ch := pv_chb h 0 b e) (pv_chbB I (by omega) (by omega) (by omega) (by omega)) hok
          have hD1 := (pv_tdUB1 (sd := pv_sdb h) (ch := pv_chb h 0 b e) (pv_chbB I (by omega) (by omega) (by omega) (by omega)) hok).2
          have ts0 := pv_tdsg (U := pv_U (pv_sdb h) (pv_chb h 0 b e)) (D := pv_D (pv_sdb h)) hD1
          refine pw_ld E (pc' := 34) (st' := [.ref 16]) rfl (fun _ => rfl) ?_
          refine pw_ld E (pc' := 35) (st' := [pw_i b, .ref 16]) rfl (fun _ => rfl) ?_
          refine pw_ld E (pc' := 36) (st' := [pw_i e, pw_i b, .ref 16]) rfl (fun _ => rfl) ?_
          refine pw_ld E (pc' := 37) (st' := [pw_i 1, pw_i e, pw_i b, .ref 16]) rfl (fun _ => rfl) ?_
          obtain ⟨f15l, f15h, -⟩ := pw_obj (c := 0) h10I rfl
          refine pw_call (m' := 132) (As := [.ref 16, pw_i b, pw_i e, pw_i 1]) (rest := []) (ls'' := [some (.ref 16), some (pw_i b), some (pw_i e), some (pw_i 1), none, none, none]) (Nat.le_trans (by decide) hd) E rfl (fun _ => pw_iV rfl rfl rfl rfl (pw_cellI f15h rfl)) (rfl : pm_ent 132 = some (4, 7, 11, 4, pmc_132)) rfl rfl (cm_132_s (pw_dp hd (by decide)) h10I (b) (by omega) (by omega) (e) (by omega) (by omega) (1) (by omega) (by omega)) ?_
          rintro h16 v17 ⟨h16I, h16E, hqfill, rfl⟩
          refine ⟨_, rfl, ?_⟩
          have h16F := h10F.tr (h16E.wk (W' := [17, 18, 22, 23]) (by first | rfl | simp))
          show pw X d h16 130 40 [some (.ref 16), some (pw_i b), some (pw_i e)] [] _
          have hFL1 : pv_FL h16 (pv_sdb h) (pv_chb h 1 b e) 24 := by have q := hqfill; rw [pv_sdbE I h10F rfl, pv_chbE I h10F rfl] at q; exact q
          have hB : pv_Bd h16 := hFL1.bd (pv_chbB I (by omega) (by omega) (by omega) (by omega))
          refine pw_ld E (pc' := 41) (st' := [.ref 16]) rfl (fun _ => rfl) ?_
          refine pw_getR (b := 32) h16I E (c := 0) (k := 7) (pc' := 44) rfl rfl rfl rfl rfl rfl rfl ?_
          refine pw_ld E (pc' := 45) (st' := [.ref 16, .ref 32]) rfl (fun _ => rfl) ?_
          refine pw_getR (b := 39) h16I E (c := 0) (k := 9) (pc' := 48) rfl rfl rfl rfl rfl rfl rfl ?_
          obtain ⟨f18l, f18h, -⟩ := pw_obj (c := 16) h16I rfl
          refine pw_call (m' := 83) (As := [.ref 32, .ref 39]) (rest := []) (ls'' := [some (.ref 32), some (.ref 39), none, none, none, none]) (Nat.le_trans (by decide) hd) E rfl (fun _ => pw_iV rfl rfl rfl rfl (pw_cellI f18h rfl)) (rfl : pm_ent 83 = some (2, 6, 8, 1, pmc_83)) rfl rfl (cm_83_23s (pw_dp hd (by decide)) h16I hB) ?_
          rintro h19 v20 ⟨h19I, h19E, x21, rfl, hx21a, hx21b, hx21r⟩
          refine ⟨_, rfl, ?_⟩
          have h19F := h16F.tr (h19E.wk (W' := [17, 18, 22, 23]) (by first | rfl | simp))
          show pw X d h19 130 51 [some (.ref 16), some (pw_i b), some (pw_i e)] [pw_i x21] _
          change (x21 = 0 ∧ ¬ pv_OK (pw_g h16 17)) ∨ (x21 = 1 ∧ pv_OK (pw_g h16 17) ∧ pw_gm h19 23 0 = Int.tdiv (pv_U (pw_g h16 17) (pw_g h16 18)) (pw_gd (pv_U (pw_g h16 17) (pw_g h16 18)) (pv_D (pw_g h16 17))) ∧ pw_gm h19 23 1 = Int.tdiv (pv_D (pw_g h16 17)) (pw_gd (pv_U (pw_g h16 17) (pw_g h16 18)) (pv_D (pw_g h16 17)))) at hx21r
          rcases (by omega : x21 = 1 ∨ x21 = 0) with hb22 | hb22
          · skip
            refine pw_if E (pc' := 56) rfl (by decide) (by omega) (by omega) ?_ ?_
            · intro hc23
              change x21 ≠ (0 : Int) at hc23
              obtain ⟨-, hokb, hn0, hn1⟩ := hx21r.resolve_left (fun q => by have := q.1; omega)
              rw [hFL1.eq.1, hFL1.eq.2.1] at hn0 hn1
              have htdb := pv_tdUB (sd := pv_sdb h) (ch := pv_chb h 1 b e) (pv_chbB I (by omega) (by omega) (by omega) (by omega)) hok
              have ts1 := pv_tdsg (U := pv_U (pv_sdb h) (pv_chb h 1 b e)) (D := pv_D (pv_sdb h)) hD1
              refine pw_ld E (pc' := 57) (st' := [.ref 16]) rfl (fun _ => rfl) ?_
              refine pw_getR (b := 38) h19I E (c := 0) (k := 8) (pc' := 60) rfl rfl rfl rfl rfl rfl rfl ?_
              have he24 : pw_gm h19 22 0 = pw_gm h16 22 0 := pw_Egm (c := 22) h16I h19E rfl rfl 0
              have he25 : pw_gm h16 22 0 = pw_gm h10 22 0 := pw_Egm (c := 22) h10I h16E rfl rfl 0
              obtain ⟨f26l, f26h, -⟩ := pw_obj (c := 22) h19I rfl
              refine pw_call (m' := 8) (As := [.ref 38]) (rest := []) (ls'' := [some (.ref 38)]) (Nat.le_trans (by decide) hd) E rfl (fun _ => pw_iV rfl rfl rfl rfl (pw_cellI f26h rfl)) (rfl : pm_ent 8 = some (1, 1, 1, 0, pmc_8)) rfl rfl (cm_8_22g (pw_dp hd (by decide)) h19I (by omega) (by omega)) ?_
              rintro u28 v27 ⟨rfl, x29, rfl, hx29a, hx29b, hx29r⟩
              refine ⟨_, rfl, ?_⟩
              show pw X d h19 130 63 [some (.ref 16), some (pw_i b), some (pw_i e)] [pw_i x29] _
              change (x29 = -1 ∧ pw_gm h19 22 0 < 0) ∨ (x29 = 0 ∧ pw_gm h19 22 0 = 0) ∨ (x29 = 1 ∧ 0 < pw_gm h19 22 0) at hx29r
              refine pw_if E (pc' := 80) rfl (by decide) (by omega) (by omega) ?_ ?_
              · intro hc30
                change (0 : Int) < x29 at hc30
                refine pw_ld E (pc' := 81) (st' := [pw_i 0]) rfl (fun _ => rfl) ?_
                refine pw_iret E rfl ?_
                have osw := pv_swI (U := pv_U (pv_sdb h) (pv_chb h 0 b e)) (V := pv_U (pv_sdb h) (pv_chb h 1 b e))
                exact ⟨h19I, h19F, ⟨_, rfl, by omega, by omega, Or.inl ⟨⟨by omega, hok⟩, by omega⟩⟩⟩
              · intro hc31
                change ¬ ((0 : Int) < x29) at hc31
                refine pw_ld E (pc' := 67) (st' := [.ref 16]) rfl (fun _ => rfl) ?_
                refine pw_getR (b := 39) h19I E (c := 0) (k := 9) (pc' := 70) rfl rfl rfl rfl rfl rfl rfl ?_
                obtain ⟨f32l, f32h, -⟩ := pw_obj (c := 23) h19I rfl
                refine pw_call (m' := 8) (As := [.ref 39]) (rest := []) (ls'' := [some (.ref 39)]) (Nat.le_trans (by decide) hd) E rfl (fun _ => pw_iV rfl rfl rfl rfl (pw_cellI f32h rfl)) (rfl : pm_ent 8 = some (1, 1, 1, 0, pmc_8)) rfl rfl (cm_8_23g (pw_dp hd (by decide)) h19I (by omega) (by omega)) ?_
                rintro u34 v33 ⟨rfl, x35, rfl, hx35a, hx35b, hx35r⟩
                refine ⟨_, rfl, ?_⟩
                show pw X d h19 130 73 [some (.ref 16), some (pw_i b), some (pw_i e)] [pw_i x35] _
                change (x35 = -1 ∧ pw_gm h19 23 0 < 0) ∨ (x35 = 0 ∧ pw_gm h19 23 0 = 0) ∨ (x35 = 1 ∧ 0 < pw_gm h19 23 0) at hx35r
                refine pw_if E (pc' := 80) rfl (by decide) (by omega) (by omega) ?_ ?_
                · intro hc36
                  change x35 < (0 : Int) at hc36
                  refine pw_ld E (pc' := 81) (st' := [pw_i 0]) rfl (fun _ => rfl) ?_
                  refine pw_iret E rfl ?_
                  have osw := pv_swI (U := pv_U (pv_sdb h) (pv_chb h 0 b e)) (V := pv_U (pv_sdb h) (pv_chb h 1 b e))
                  exact ⟨h19I, h19F, ⟨_, rfl, by omega, by omega, Or.inl ⟨⟨by omega, hok⟩, by omega⟩⟩⟩
                · intro hc37
                  change ¬ (x35 < (0 : Int)) at hc37
                  refine pw_ld E (pc' := 77) (st' := [pw_i 1]) rfl (fun _ => rfl) ?_
                  refine pw_goto E (pc' := 81) rfl (by decide) ?_
                  refine pw_iret E rfl ?_
                  have osw := pv_swI (U := pv_U (pv_sdb h) (pv_chb h 0 b e)) (V := pv_U (pv_sdb h) (pv_chb h 1 b e))
                  exact ⟨h19I, h19F, ⟨_, rfl, by omega, by omega, Or.inl ⟨⟨by omega, hok⟩, by omega⟩⟩⟩
            · intro hc38
              change ¬ (x21 ≠ (0 : Int)) at hc38
              exfalso; omega
          · skip
            refine pw_if E (pc' := 56) rfl (by decide) (by omega) (by omega) ?_ ?_
            · intro hc40
              change x21 ≠ (0 : Int) at hc40
              exfalso; omega
            · intro hc41
              change ¬ (x21 ≠ (0 : Int)) at hc41
              refine pw_ld E (pc' := 55) (st' := [pw_i ((-1))]) rfl (fun _ => rfl) ?_
              refine pw_iret E rfl ?_
              exact absurd (hFL1.eq.2.2.1.mpr hok) (hx21r.resolve_right (fun q => by have := q.1; omega)).2
        · intro hc42
          change ¬ (x12 ≠ (0 : Int)) at hc42
          exfalso; omega
      · skip
        refine pw_if E (pc' := 33) rfl (by decide) (by omega) (by omega) ?_ ?_
        · intro hc44
          change x12 ≠ (0 : Int) at hc44
          exfalso; omega
        · intro hc45
          change ¬ (x12 ≠ (0 : Int)) at hc45
          refine pw_ld E (pc' := 32) (st' := [pw_i ((-1))]) rfl (fun _ => rfl) ?_
          refine pw_iret E rfl ?_
          exact ⟨h10I, h10F, ⟨_, rfl, by omega, by omega, Or.inr ⟨Or.inr (fun q => (hx12r.resolve_right (fun q => by have := q.1; omega)).2 (hFL.eq.2.2.1.mpr q)), rfl⟩⟩⟩
    · intro hc46
      change ¬ (x3 ≠ (0 : Int)) at hc46
      exfalso; omega
  · skip
    refine pw_if E (pc' := 10) rfl (by decide) (by omega) (by omega) ?_ ?_
    · intro hc48
      change x3 ≠ (0 : Int) at hc48
      exfalso; omega
    · intro hc49
      change ¬ (x3 ≠ (0 : Int)) at hc49
      refine pw_ld E (pc' := 9) (st' := [pw_i ((-1))]) rfl (fun _ => rfl) ?_
      refine pw_iret E rfl ?_
      exact ⟨I, E0, ⟨_, rfl, by omega, by omega, Or.inr ⟨Or.inl (by omega), rfl⟩⟩⟩
set_option maxHeartbeats 4000000 in
theorem cm_228_s {X : List (Nat × List Value)} {d : Nat} {h : pm_H} (hd : 5 ≤ d) (I : pw_I h) (b : Int) (hb1 : (-2147483648) ≤ b) (hb2 : b ≤ 2147483647) (e : Int) (he1 : (-2147483648) ≤ e) (he2 : e ≤ 2147483647) : pw X d h 228 0 [some (.ref 141), some (pw_i b), some (pw_i e), none] [] (fun h' v => pw_I h' ∧ pw_E [125] h h' ∧ ∃ a : Int, v = .inl (some (pw_i a)) ∧ (-2147483648) ≤ a ∧ a ≤ 2147483647 ∧ ((((0 ≤ b ∧ b ≤ 11 ∧ 0 ≤ e ∧ e ≤ 11 ∧ b ≠ e) ∧ pv_OK (pv_sdbm h)) ∧ a = pv_sw (pv_U (pv_sdbm h) (pv_chbm h (-1) b e)) (pv_U (pv_sdbm h) (pv_chbm h 1 b e))) ∨ ((¬ (0 ≤ b ∧ b ≤ 11 ∧ 0 ≤ e ∧ e ≤ 11 ∧ b ≠ e) ∨ ¬ pv_OK (pv_sdbm h)) ∧ a = -1))) := by
  have E : pm_ent 228 = some (3, 4, 12, 0, pmc_228) := rfl
  have E0 : pw_E [125] h h := pw_E.rf _ _
  refine pw_ld E (pc' := 1) (st' := [.ref 141]) rfl (fun _ => rfl) ?_
  refine pw_ld E (pc' := 2) (st' := [pw_i 0, .ref 141]) rfl (fun _ => rfl) ?_
  refine pw_putI I E (c := 125) (k := 0) (pc' := 5) rfl rfl rfl rfl (by omega) (by omega) (by omega) (by omega) rfl rfl ?_
  intro h1I h1E
  generalize h1w : pw_w h 125 0 (pw_i 0) = h1 at h1I h1E ⊢
  have h1F := E0.tr (h1E.wk (W' := [125]) (by first | rfl | simp))
  refine pw_ld E (pc' := 6) (st' := [pw_i b]) rfl (fun _ => rfl) ?_
  refine pw_ld E (pc' := 7) (st' := [pw_i e, pw_i b]) rfl (fun _ => rfl) ?_
  refine pw_call (m' := 213) (As := [pw_i b, pw_i e]) (rest := []) (ls'' := [some (pw_i b), some (pw_i e)]) (Nat.le_trans (by decide) hd) E rfl (fun _ => pw_iS rfl rfl rfl) (rfl : pm_ent 213 = some (2, 2, 12, 1, pmc_213)) rfl rfl (cm_213_s (pw_dp hd (by decide)) h1I (b) (by omega) (by omega) (e) (by omega) (by omega)) ?_
  rintro u3 v2 ⟨rfl, x4, rfl, hx4a, hx4b, hx4r⟩
  refine ⟨_, rfl, ?_⟩
  show pw X d h1 228 10 [some (.ref 141), some (pw_i b), some (pw_i e), none] [pw_i x4] _
  change (x4 = 1 ∧ 0 ≤ b ∧ b ≤ 11 ∧ 0 ≤ e ∧ e ≤ 11 ∧ b ≠ e) ∨ (x4 = 0 ∧ ¬ (0 ≤ b ∧ b ≤ 11 ∧ 0 ≤ e ∧ e ≤ 11 ∧ b ≠ e)) at hx4r
  rcases (by omega : x4 = 1 ∨ x4 = 0) with hb5 | hb5
  · skip
    refine pw_if E (pc' := 23) rfl (by decide) (by omega) (by omega) ?_ ?_
    · intro hc6
      change x4 = (0 : Int) at hc6
      exfalso; omega
    · intro hc7
      change ¬ (x4 = (0 : Int)) at hc7
      refine pw_ld E (pc' := 14) (st' := [.ref 141]) rfl (fun _ => rfl) ?_
      refine pw_ld E (pc' := 15) (st' := [pw_i b, .ref 141]) rfl (fun _ => rfl) ?_
      refine pw_ld E (pc' := 16) (st' := [pw_i e, pw_i b, .ref 141]) rfl (fun _ => rfl) ?_
      refine pw_ld E (pc' := 17) (st' := [pw_i ((-1)), pw_i e, pw_i b, .ref 141]) rfl (fun _ => rfl) ?_
      obtain ⟨f8l, f8h, -⟩ := pw_obj (c := 125) h1I rfl
      refine pw_call (m' := 226) (As := [.ref 141, pw_i b, pw_i e, pw_i ((-1))]) (rest := []) (ls'' := [some (.ref 141), some (pw_i b), some (pw_i e), some (pw_i ((-1))), none]) (Nat.le_trans (by decide) hd) E rfl (fun _ => pw_iV rfl rfl rfl rfl (pw_cellI f8h rfl)) (rfl : pm_ent 226 = some (4, 5, 12, 1, pmc_226)) rfl rfl (cm_226_s (pw_dp hd (by decide)) h1I (b) (by omega) (by omega) (e) (by omega) (by omega) ((-1)) (by omega) (by omega) (by omega)) ?_
      rintro h9 v10 ⟨h9I, h9E, x11, rfl, hx11a, hx11b, hx11r⟩
      refine ⟨_, rfl, ?_⟩
      have h9F := h1F.tr (h9E.wk (W' := [125]) (by first | rfl | simp))
      show pw X d h9 228 20 [some (.ref 141), some (pw_i b), some (pw_i e), none] [pw_i x11] _
      change ((x11 = 1 ∧ pv_OK (pv_sdbm h1)) ∨ (x11 = 0 ∧ ¬ pv_OK (pv_sdbm h1))) ∧ pw_gm h9 125 24 = pv_U (pv_sdbm h1) (pv_chbm h1 (-1) b e) ∧ pw_gm h9 125 25 = pv_D (pv_sdbm h1) ∧ pw_gm h9 125 26 = pv_S (pv_sdbm h1) (pv_chbm h1 (-1) b e) 0 24 ∧ pw_gm h9 125 27 = pv_N (pv_sdbm h1) 0 24 ∧ pw_gm h9 125 28 = pv_S (pv_sdbm h1) (pv_chbm h1 (-1) b e) 1 24 ∧ pw_gm h9 125 29 = pv_N (pv_sdbm h1) 1 24 at hx11r
      rcases (by omega : x11 = 1 ∨ x11 = 0) with hb12 | hb12
      · skip
        refine pw_if E (pc' := 25) rfl (by decide) (by omega) (by omega) ?_ ?_
        · intro hc13
          change x11 ≠ (0 : Int) at hc13
          rw [pv_sdbmE I h1F rfl, pv_chbmE I h1F rfl] at hx11r
          obtain ⟨r1, r4, -⟩ := hx11r
          have hok := (r1.resolve_right (fun q => by have := q.1; omega)).2
          have hUB := pv_UB (sd := pv_sdbm h) (ch := pv_chbm h (-1) b e) (pv_chbmB I (by omega) (by omega) (by omega) (by omega))
          refine pw_ld E (pc' := 26) (st' := [.ref 141]) rfl (fun _ => rfl) ?_
          refine pw_getLM h9I E (c := 125) (k := 24) (pc' := 29) rfl rfl rfl rfl rfl rfl ?_
          refine pw_ld E (pc' := 30) (st' := [.long (Int64.ofInt 0), .long (Int64.ofInt (pw_gm h9 125 24))]) rfl (fun _ => rfl) ?_
          refine pw_lcmpC E (pc' := 31) rfl rfl (by omega) (by omega) (by omega) (by omega) (fun c14 hc14 => ?_)
          refine pw_if E (pc' := 38) rfl (by decide) (by omega) (by omega) ?_ ?_
          · intro hc15
            change (0 : Int) < c14 at hc15
            refine pw_ld E (pc' := 39) (st' := [pw_i 0]) rfl (fun _ => rfl) ?_
            refine pw_istn E (pc' := 40) (ls' := [some (.ref 141), some (pw_i b), some (pw_i e), some (pw_i 0)]) rfl rfl rfl rfl ?_
            refine pw_ld E (pc' := 41) (st' := [.ref 141]) rfl (fun _ => rfl) ?_
            refine pw_ld E (pc' := 42) (st' := [pw_i b, .ref 141]) rfl (fun _ => rfl) ?_
            refine pw_ld E (pc' := 43) (st' := [pw_i e, pw_i b, .ref 141]) rfl (fun _ => rfl) ?_
            refine pw_ld E (pc' := 44) (st' := [pw_i 1, pw_i e, pw_i b, .ref 141]) rfl (fun _ => rfl) ?_
            obtain ⟨f16l, f16h, -⟩ := pw_obj (c := 125) h9I rfl
            refine pw_call (m' := 226) (As := [.ref 141, pw_i b, pw_i e, pw_i 1]) (rest := []) (ls'' := [some (.ref 141), some (pw_i b), some (pw_i e), some (pw_i 1), none]) (Nat.le_trans (by decide) hd) E rfl (fun _ => pw_iV rfl rfl rfl rfl (pw_cellI f16h rfl)) (rfl : pm_ent 226 = some (4, 5, 12, 1, pmc_226)) rfl rfl (cm_226_s (pw_dp hd (by decide)) h9I (b) (by omega) (by omega) (e) (by omega) (by omega) (1) (by omega) (by omega) (by omega)) ?_
            rintro h17 v18 ⟨h17I, h17E, x19, rfl, hx19a, hx19b, hx19r⟩
            refine ⟨_, rfl, ?_⟩
            have h17F := h9F.tr (h17E.wk (W' := [125]) (by first | rfl | simp))
            show pw X d h17 228 47 [some (.ref 141), some (pw_i b), some (pw_i e), some (pw_i 0)] [pw_i x19] _
            change ((x19 = 1 ∧ pv_OK (pv_sdbm h9)) ∨ (x19 = 0 ∧ ¬ pv_OK (pv_sdbm h9))) ∧ pw_gm h17 125 24 = pv_U (pv_sdbm h9) (pv_chbm h9 1 b e) ∧ pw_gm h17 125 25 = pv_D (pv_sdbm h9) ∧ pw_gm h17 125 26 = pv_S (pv_sdbm h9) (pv_chbm h9 1 b e) 0 24 ∧ pw_gm h17 125 27 = pv_N (pv_sdbm h9) 0 24 ∧ pw_gm h17 125 28 = pv_S (pv_sdbm h9) (pv_chbm h9 1 b e) 1 24 ∧ pw_gm h17 125 29 = pv_N (pv_sdbm h9) 1 24 at hx19r
            refine pw_ld E (pc' := 48) (st' := []) rfl (fun _ => rfl) ?_
            rw [pv_sdbmE I h9F rfl, pv_chbmE I h9F rfl] at hx19r
            obtain ⟨-, u4, -⟩ := hx19r
            have hUB2 := pv_UB (sd := pv_sdbm h) (ch := pv_chbm h 1 b e) (pv_chbmB I (by omega) (by omega) (by omega) (by omega))
            refine pw_ld E (pc' := 49) (st' := [pw_i 0]) rfl (fun _ => rfl) ?_
            refine pw_if E (pc' := 65) rfl (by decide) (by decide) (by decide) ?_ ?_
            · intro hc20
              change (0 : Int) = (0 : Int) at hc20
              refine pw_ld E (pc' := 66) (st' := [pw_i 0]) rfl (fun _ => rfl) ?_
              refine pw_iret E rfl ?_
              have osw := pv_swI (U := pv_U (pv_sdbm h) (pv_chbm h (-1) b e)) (V := pv_U (pv_sdbm h) (pv_chbm h 1 b e))
              exact ⟨h17I, h17F, ⟨_, rfl, by omega, by omega, Or.inl ⟨⟨by omega, hok⟩, by omega⟩⟩⟩
            · intro hc21
              change ¬ ((0 : Int) = (0 : Int)) at hc21
              exfalso; omega
          · intro hc22
            change ¬ ((0 : Int) < c14) at hc22
            refine pw_ld E (pc' := 35) (st' := [pw_i 1]) rfl (fun _ => rfl) ?_
            refine pw_goto E (pc' := 39) rfl (by decide) ?_
            refine pw_istn E (pc' := 40) (ls' := [some (.ref 141), some (pw_i b), some (pw_i e), some (pw_i 1)]) rfl rfl rfl rfl ?_
            refine pw_ld E (pc' := 41) (st' := [.ref 141]) rfl (fun _ => rfl) ?_
            refine pw_ld E (pc' := 42) (st' := [pw_i b, .ref 141]) rfl (fun _ => rfl) ?_
            refine pw_ld E (pc' := 43) (st' := [pw_i e, pw_i b, .ref 141]) rfl (fun _ => rfl) ?_
            refine pw_ld E (pc' := 44) (st' := [pw_i 1, pw_i e, pw_i b, .ref 141]) rfl (fun _ => rfl) ?_
            obtain ⟨f23l, f23h, -⟩ := pw_obj (c := 125) h9I rfl
            refine pw_call (m' := 226) (As := [.ref 141, pw_i b, pw_i e, pw_i 1]) (rest := []) (ls'' := [some (.ref 141), some (pw_i b), some (pw_i e), some (pw_i 1), none]) (Nat.le_trans (by decide) hd) E rfl (fun _ => pw_iV rfl rfl rfl rfl (pw_cellI f23h rfl)) (rfl : pm_ent 226 = some (4, 5, 12, 1, pmc_226)) rfl rfl (cm_226_s (pw_dp hd (by decide)) h9I (b) (by omega) (by omega) (e) (by omega) (by omega) (1) (by omega) (by omega) (by omega)) ?_
            rintro h24 v25 ⟨h24I, h24E, x26, rfl, hx26a, hx26b, hx26r⟩
            refine ⟨_, rfl, ?_⟩
            have h24F := h9F.tr (h24E.wk (W' := [125]) (by first | rfl | simp))
            show pw X d h24 228 47 [some (.ref 141), some (pw_i b), some (pw_i e), some (pw_i 1)] [pw_i x26] _
            change ((x26 = 1 ∧ pv_OK (pv_sdbm h9)) ∨ (x26 = 0 ∧ ¬ pv_OK (pv_sdbm h9))) ∧ pw_gm h24 125 24 = pv_U (pv_sdbm h9) (pv_chbm h9 1 b e) ∧ pw_gm h24 125 25 = pv_D (pv_sdbm h9) ∧ pw_gm h24 125 26 = pv_S (pv_sdbm h9) (pv_chbm h9 1 b e) 0 24 ∧ pw_gm h24 125 27 = pv_N (pv_sdbm h9) 0 24 ∧ pw_gm h24 125 28 = pv_S (pv_sdbm h9) (pv_chbm h9 1 b e) 1 24 ∧ pw_gm h24 125 29 = pv_N (pv_sdbm h9) 1 24 at hx26r
            refine pw_ld E (pc' := 48) (st' := []) rfl (fun _ => rfl) ?_
            rw [pv_sdbmE I h9F rfl, pv_chbmE I h9F rfl] at hx26r
            obtain ⟨-, u4, -⟩ := hx26r
            have hUB2 := pv_UB (sd := pv_sdbm h) (ch := pv_chbm h 1 b e) (pv_chbmB I (by omega) (by omega) (by omega) (by omega))
            refine pw_ld E (pc' := 49) (st' := [pw_i 1]) rfl (fun _ => rfl) ?_
            refine pw_if E (pc' := 65) rfl (by decide) (by decide) (by decide) ?_ ?_
            · intro hc27
              change (1 : Int) = (0 : Int) at hc27
              exfalso; omega
            · intro hc28
              change ¬ ((1 : Int) = (0 : Int)) at hc28
              refine pw_ld E (pc' := 53) (st' := [.ref 141]) rfl (fun _ => rfl) ?_
              refine pw_getLM h24I E (c := 125) (k := 24) (pc' := 56) rfl rfl rfl rfl rfl rfl ?_
              refine pw_ld E (pc' := 57) (st' := [.long (Int64.ofInt 0), .long (Int64.ofInt (pw_gm h24 125 24))]) rfl (fun _ => rfl) ?_
              refine pw_lcmpC E (pc' := 58) rfl rfl (by omega) (by omega) (by omega) (by omega) (fun c29 hc29 => ?_)
              refine pw_if E (pc' := 65) rfl (by decide) (by omega) (by omega) ?_ ?_
              · intro hc30
                change c29 < (0 : Int) at hc30
                refine pw_ld E (pc' := 66) (st' := [pw_i 0]) rfl (fun _ => rfl) ?_
                refine pw_iret E rfl ?_
                have osw := pv_swI (U := pv_U (pv_sdbm h) (pv_chbm h (-1) b e)) (V := pv_U (pv_sdbm h) (pv_chbm h 1 b e))
                exact ⟨h24I, h24F, ⟨_, rfl, by omega, by omega, Or.inl ⟨⟨by omega, hok⟩, by omega⟩⟩⟩
              · intro hc31
                change ¬ (c29 < (0 : Int)) at hc31
                refine pw_ld E (pc' := 62) (st' := [pw_i 1]) rfl (fun _ => rfl) ?_
                refine pw_goto E (pc' := 66) rfl (by decide) ?_
                refine pw_iret E rfl ?_
                have osw := pv_swI (U := pv_U (pv_sdbm h) (pv_chbm h (-1) b e)) (V := pv_U (pv_sdbm h) (pv_chbm h 1 b e))
                exact ⟨h24I, h24F, ⟨_, rfl, by omega, by omega, Or.inl ⟨⟨by omega, hok⟩, by omega⟩⟩⟩
        · intro hc32
          change ¬ (x11 ≠ (0 : Int)) at hc32
          exfalso; omega
      · skip
        refine pw_if E (pc' := 25) rfl (by decide) (by omega) (by omega) ?_ ?_
        · intro hc34
          change x11 ≠ (0 : Int) at hc34
          exfalso; omega
        · intro hc35
          change ¬ (x11 ≠ (0 : Int)) at hc35
          rw [pv_sdbmE I h1F rfl, pv_chbmE I h1F rfl] at hx11r
          refine pw_ld E (pc' := 24) (st' := [pw_i ((-1))]) rfl (fun _ => rfl) ?_
          refine pw_iret E rfl ?_
          exact ⟨h9I, h9F, ⟨_, rfl, by omega, by omega, Or.inr ⟨Or.inr (hx11r.1.resolve_left (fun q => by have := q.1; omega)).2, rfl⟩⟩⟩
  · skip
    refine pw_if E (pc' := 23) rfl (by decide) (by omega) (by omega) ?_ ?_
    · intro hc37
      change x4 = (0 : Int) at hc37
      refine pw_ld E (pc' := 24) (st' := [pw_i ((-1))]) rfl (fun _ => rfl) ?_
      refine pw_iret E rfl ?_
      exact ⟨h1I, h1F, ⟨_, rfl, by omega, by omega, Or.inr ⟨Or.inl (by omega), rfl⟩⟩⟩
    · intro hc38
      change ¬ (x4 = (0 : Int)) at hc38
      exfalso; omega
end
section
/-! a new row of ints: Arrays.copyOf, Script.copyOf -/
/-- as pw_E, but one cell of at most 1000 may be new -/
def pw_G (W : List Nat) (h h' : pm_H) : Prop := (h.length ≤ h'.length ∧ h'.length ≤ h.length + 1 ∧ pm_slt h ≤ pm_slt h' ∧ pm_slt h' ≤ pm_slt h + 1000) ∧ ∀ c : Nat, c < h.length → c ∉ W → h'[c]? = h[c]?
theorem pw_E.G {W : List Nat} {a b : pm_H} (h1 : pw_E W a b) : pw_G W a b := ⟨⟨by rw [h1.1.1]; exact Nat.le_refl _, by rw [h1.1.1]; omega, by rw [h1.1.2]; exact Nat.le_refl _, by rw [h1.1.2]; omega⟩, h1.2.1⟩
theorem pw_G.tE {W : List Nat} {a b c : pm_H} (h1 : pw_G W a b) (h2 : pw_E W b c) : pw_G W a c := ⟨by rw [h2.1.1, h2.1.2]; exact h1.1, fun q hq hn => (h2.2.1 q (Nat.lt_of_lt_of_le hq h1.1.1) hn).trans (h1.2 q hq hn)⟩
theorem pw_E.tG {W : List Nat} {a b c : pm_H} (h1 : pw_E W a b) (h2 : pw_G W b c) : pw_G W a c := ⟨by rw [← h1.1.1, ← h1.1.2]; exact h2.1, fun q hq hn => (h2.2 q (by rw [h1.1.1]; exact hq) hn).trans (h1.2.1 q hq hn)⟩
theorem pw_G.wk {W W' : List Nat} {a b : pm_H} (h1 : pw_G W a b) (hs : W.all (fun c => W'.contains c) = true) : pw_G W' a b := ⟨h1.1, fun q hq hn => h1.2 q hq fun hm => hn (by
  have := List.all_eq_true.mp hs q hm
  exact List.contains_iff_mem.mp this)⟩
theorem pw_Gg {h h' : pm_H} {c : Nat} {W : List Nat} {s : pw_S} (I : pw_I h) (E : pw_G W h h') (hs : pw_T[c]? = some s) (hn : W.contains c = false) (k : Nat) : pw_at h' c k = pw_at h c k := by
  obtain ⟨q, h1, -⟩ := I.1 c _ hs
  unfold pw_at
  rw [E.2 c (List.getElem?_eq_some_iff.mp h1).1 (fun hm => by
    have := List.contains_iff_mem.mpr hm
    rw [hn] at this; cases this)]
theorem pw_vk_push {h : pm_H} {x : pm_C} {sp : pw_F} {v : Value} (hv : pw_vk h sp v) : pw_vk (h ++ [x]) sp v := by
  obtain ⟨k, lo, hi⟩ := sp
  have key : (∃ (c : Nat) (l : List Value), v = .ref (16 + c) ∧ h[c]? = some (.inl (0, l)) ∧ l.length ≤ 1000 ∧ pw_ints l) → ∃ (c2 : Nat) (l : List Value), v = .ref (16 + c2) ∧ (h ++ [x])[c2]? = some (.inl (0, l)) ∧ l.length ≤ 1000 ∧ pw_ints l := by
    rintro ⟨c2, l, e1, e2, e3⟩
    exact ⟨c2, l, e1, by rw [List.getElem?_append_left (List.getElem?_eq_some_iff.mp e2).1]; exact e2, e3⟩
  match k, hv with
  | 0, hv => exact hv
  | 1, hv => exact hv
  | 2, hv => exact hv
  | 4, hv => exact hv
  | 3, hv => exact key hv
  | k + 5, hv => exact key hv
theorem pw_ok_push {h : pm_H} {y : pm_C} {s : pw_S} {x : pm_C} (hv : pw_ok h s x) : pw_ok (h ++ [y]) s x := by
  match s, x, hv with
  | .inl _, .inl _, hv => exact hv
  | .inr (ci, sps), .inr (cj, fs), hv => exact ⟨hv.1, hv.2.1, fun k sp v g1 g2 => pw_vk_push (hv.2.2 k sp v g1 g2)⟩
theorem pw_scv_mono {n m : Nat} (hn : n ≤ m) {v : Value} (h : pm_scv n v = true) : pm_scv m v = true := by
  cases v with
  | ref a => exact Nat.blt_eq.mpr (Nat.lt_of_lt_of_le (Nat.blt_eq.mp h) hn)
  | _ => rfl
theorem pw_scc_mono {n m : Nat} (hn : n ≤ m) {c : pm_C} (h : pm_scc n c = true) : pm_scc m c = true := by
  match c, h with
  | .inl q, h =>
    have h : cond (Nat.blt q.1 5) true (pm_all (pm_scv n) q.2) = true := h
    show cond (Nat.blt q.1 5) true (pm_all (pm_scv m) q.2) = true
    cases hb : Nat.blt q.1 5 with
    | true => rfl
    | false =>
      rw [hb] at h
      have h : pm_all (pm_scv n) q.2 = true := h
      show pm_all (pm_scv m) q.2 = true
      rw [pm_all_eq, List.all_eq_true] at h ⊢
      exact fun v hv => pw_scv_mono hn (h v hv)
  | .inr q, h =>
    have h : pm_all (pm_scv n) q.2 = true := h
    show pm_all (pm_scv m) q.2 = true
    rw [pm_all_eq, List.all_eq_true] at h ⊢
    exact fun v hv => pw_scv_mono hn (h v hv)
theorem pw_I_push {h : pm_H} {t : Nat} {l : List Value} (ht : Nat.blt t 5 = true) (I : pw_I h) : pw_I (h ++ [.inl (t, l)]) := by
  refine ⟨fun c s hT => ?_, ?_⟩
  · obtain ⟨q, h1, h2⟩ := I.1 c s hT
    exact ⟨q, by rw [List.getElem?_append_left (List.getElem?_eq_some_iff.mp h1).1]; exact h1, pw_ok_push h2⟩
  · have h1 := I.2
    unfold pm_scH at h1 ⊢
    rw [pm_all_eq, List.all_eq_true, pm_len_eq] at h1 ⊢
    intro c hc
    rw [List.length_append]
    rcases List.mem_append.mp hc with g | g
    · exact pw_scc_mono (by simp) (h1 c g)
    · rw [List.mem_singleton.mp g]
      show cond (Nat.blt t 5) true _ = true
      rw [ht]; rfl
section Pn
variable {X : List (Nat × List Value)} {d : Nat} {h : pm_H} {m pc pc' len na nl own rt : Nat} {C : pm_T (Instr × Nat)} {ls : pm_L} {r : List Value} {Q : pm_H → (Option Value ⊕ Unit) → Prop} {i : Instr}
theorem pw_newi {n : Int} (he : pm_ent m = some (na, nl, own, rt, C)) (hq : pm_get C pc = some (.newarray .int, len)) (hc : pc + len = pc') (h0 : 0 ≤ n) (h1 : n ≤ 60000) (H : pw X d (h ++ [.inl (0, List.replicate n.toNat (.int 0))]) m pc' ls (.ref (16 + h.length) :: r) Q) : pw X d h m pc ls (pw_i n :: r) Q := by
  subst hc
  refine pw_go he hq (fun ih => ?_) H
  show cond (decide (Int32.ofInt n < 0)) none (cond (Nat.ble (Int32.ofInt n).toNatClampNeg 60000) (cond (Nat.blt 0 5) (pm_fn (pm_len h) fun z => pm_fn (pc + len) fun q => ih d (h ++ [.inl (0, pm_rep (Int32.ofInt n).toNatClampNeg (.int 0))]) m q ls (.ref (16 + z) :: r)) none) none) = _
  rw [decide_eq_false (pw_neg h0 (by omega)), cond_false, pw_clamp h0 (by omega), Nat.ble_eq_true_of_le (by omega), cond_true, pm_fn_eq, pm_fn_eq, pm_len_eq, pm_rep_eq]
  rfl
theorem pw_cpyN {ix c q a a2 : Nat} {l l' : List Value} {n : Int} (he : pm_ent m = some (na, nl, own, rt, C)) (hq : pm_get C pc = some (.invokestatic ix, len)) (hl : pm_get (pm_lnk own) ix = some (12, 5, 0, 0)) (e1 : h[c]? = some (.inl (0, l))) (f1 : h[q]? = some (.inl (0, l'))) (h0 : 0 ≤ n) (h1 : n ≤ 60000) (hn : n.toNat ≤ l.length) (hn2 : n.toNat = l'.length) (ha : 16 + c = a) (ha2 : 16 + q = a2) (h8 : pm_cat8 r = true)
    (H : pw X d (h.set q (.inl (0, l.take n.toNat))) m (pc + 3) ls r Q) : pw X d h m pc ls (pw_i n :: pw_i 0 :: .ref a2 :: pw_i 0 :: .ref a :: r) Q := by
  refine pw_go he hq (fun ih => ?_) H
  refine (pw_prim0 (len := len) hl rfl).trans ?_
  show (match pm_row X h a, pm_cell h a2 with
    | some (t, l), some (.inl (t', l')) => cond (Nat.beq t 0 && (Nat.beq t' 0 && (Nat.ble 16 a && (!decide (Int32.ofInt n < 0) && (!decide (Int32.ofInt 0 < 0) && (!decide (Int32.ofInt 0 < 0) && (Nat.ble ((Int32.ofInt 0).toNatClampNeg + (Int32.ofInt n).toNatClampNeg) (pm_len l) && Nat.ble ((Int32.ofInt 0).toNatClampNeg + (Int32.ofInt n).toNatClampNeg) (pm_len l'))))))))
      (cond (pm_cat8 r) (pm_fn (pc + 3) fun q => ih d (pm_set h (a2 - 16) (.inl (0, pm_cpy l l' (Int32.ofInt 0).toNatClampNeg (Int32.ofInt 0).toNatClampNeg (Int32.ofInt n).toNatClampNeg))) m q ls r) none) none
    | _, _ => none) = _
  rw [pw_rowI e1 ha, pw_cellI f1 ha2]
  dsimp only
  have en : (Int32.ofInt n).toNatClampNeg = n.toNat := pw_clamp h0 (by omega)
  have e0 : (Int32.ofInt 0).toNatClampNeg = 0 := rfl
  rw [en, e0, decide_eq_false (pw_neg h0 (by omega)), pm_len_eq, pm_len_eq]
  have hb : (Nat.beq 0 0 && (Nat.beq 0 0 && (Nat.ble 16 a && (!false && (!decide (Int32.ofInt 0 < 0) && (!decide (Int32.ofInt 0 < 0) && (Nat.ble (0 + n.toNat) l.length && Nat.ble (0 + n.toNat) l'.length))))))) = true := by
    rw [Nat.ble_eq_true_of_le (show 16 ≤ a by omega), Nat.ble_eq_true_of_le (show 0 + n.toNat ≤ l.length by omega), Nat.ble_eq_true_of_le (show 0 + n.toNat ≤ l'.length by omega)]
    rfl
  have ea : a2 - 16 = q := by omega
  rw [hb, cond_true, h8, cond_true, pm_fn_eq, ea, pm_set_eq]
  have ec : pm_cpy l l' 0 0 n.toNat = l.take n.toNat := by
    unfold pm_cpy
    rw [List.take_zero, List.drop_zero, List.nil_append, List.drop_of_length_le (by omega), List.append_nil]
  rw [ec]
end Pn
theorem cm_325 {X : List (Nat × List Value)} {d : Nat} {h : pm_H} {c : Nat} {l : List Value} {n : Int} (e1 : h[c]? = some (.inl (0, l))) (hl : l.length = 1000) (h0 : 0 ≤ n) (h1 : n ≤ 999) : pw X d h 325 0 [some (.ref (16 + c)), some (pw_i n), none] [] (fun h' v => h' = h ++ [.inl (0, l.take n.toNat)] ∧ v = .inl (some (.ref (16 + h.length)))) := by
  have E : pm_ent 325 = some (2, 3, 14, 3, pmc_325) := rfl
  have hc : c < h.length := (List.getElem?_eq_some_iff.mp e1).1
  refine pw_ld E (pc' := 1) (st' := [pw_i n]) rfl (fun _ => rfl) ?_
  refine pw_ld E (pc' := 2) (st' := [.ref (16 + c), pw_i n]) rfl (fun _ => rfl) ?_
  refine pw_alen E (pc' := 3) rfl (pw_rowI e1 rfl) rfl rfl ?_
  rw [hl]
  refine pw_if2 E (pc' := 14) rfl (by decide) (by omega) (by omega) (by decide) (by decide) ?_ ?_
  · intro _
    refine pw_ld E (pc' := 15) (st' := [pw_i n]) rfl (fun _ => rfl) ?_
    refine pw_newi E (pc' := 17) rfl rfl h0 (by omega) ?_
    have e2 : (h ++ [.inl (0, List.replicate n.toNat (.int 0))])[c]? = some (.inl (0, l)) := by rw [List.getElem?_append_left hc]; exact e1
    have e3 : (h ++ [.inl (0, List.replicate n.toNat (.int 0))])[h.length]? = some (.inl (0, List.replicate n.toNat (.int 0))) := by rw [List.getElem?_append_right (Nat.le_refl _), Nat.sub_self]; rfl
    generalize hg : h ++ [.inl (0, List.replicate n.toNat (Value.int 0))] = g at e2 e3 ⊢
    refine pw_astn E (pc' := 18) (ls' := [some (.ref (16 + c)), some (pw_i n), some (.ref (16 + h.length))]) rfl rfl rfl rfl ?_
    refine pw_ld E (pc' := 19) (st' := [.ref (16 + c)]) rfl (fun _ => rfl) ?_
    refine pw_ld E (pc' := 20) (st' := [pw_i 0, .ref (16 + c)]) rfl (fun _ => rfl) ?_
    refine pw_ld E (pc' := 21) (st' := [.ref (16 + h.length), pw_i 0, .ref (16 + c)]) rfl (fun _ => rfl) ?_
    refine pw_ld E (pc' := 22) (st' := [pw_i 0, .ref (16 + h.length), pw_i 0, .ref (16 + c)]) rfl (fun _ => rfl) ?_
    refine pw_ld E (pc' := 23) (st' := [.ref (16 + c), pw_i 0, .ref (16 + h.length), pw_i 0, .ref (16 + c)]) rfl (fun _ => rfl) ?_
    refine pw_alen E (pc' := 24) rfl (pw_rowI e2 rfl) rfl rfl ?_
    rw [hl]
    refine pw_ld E (pc' := 25) (st' := [pw_i n, pw_i (1000 : Nat), pw_i 0, .ref (16 + h.length), pw_i 0, .ref (16 + c)]) rfl (fun _ => rfl) ?_
    refine pw_min E rfl rfl (by decide) (by decide) (by omega) (by omega) rfl ?_
    rw [show min ((1000 : Nat) : Int) n = n by omega]
    refine pw_cpyN (q := h.length) E rfl rfl e2 e3 h0 (by omega) (by omega) List.length_replicate.symm rfl rfl rfl ?_
    refine pw_ld E (pc' := 32) (st' := [.ref (16 + h.length)]) rfl (fun _ => rfl) ?_
    refine pw_aret E rfl ⟨?_, rfl⟩
    rw [← hg, List.set_append_right _ _ (Nat.le_refl _), Nat.sub_self]
    rfl
  · intro hn
    exact absurd (show pw_c .ne n ((1000 : Nat) : Int) from (by show n ≠ ((1000 : Nat) : Int); omega)) hn
theorem pw_scq {h : pm_H} {q : Nat} {x : pm_C} (hq : h[q]? = some x) : pm_scv (16 + h.length) (.ref (16 + q)) = true := by
  have := (List.getElem?_eq_some_iff.mp hq).1
  exact Nat.blt_eq.mpr (by omega)
set_option maxHeartbeats 4000000 in
theorem cm_73t {X : List (Nat × List Value)} {d : Nat} {h : pm_H} (I : pw_I h) (c : Nat) (hc : pw_Sc c) (q0 : Nat) (q0l : List Value) (q0h : h[q0]? = some (.inl (0, q0l))) (q0n : q0l.length ≤ 1000) (q0i : pw_ints q0l) : pw X d h 73 12 [some (.ref (16 + c)), some (.ref 46), none] [.ref (16 + q0), .ref (16 + c)] (fun h' v => pw_I h' ∧ pw_E [c, c + 1, c + 2, c + 3, c + 4] h h' ∧ v = .inl none) := by
  have E : pm_ent 73 = some (2, 3, 7, 4, pmc_73) := rfl
  have E0 : pw_E [c, c + 1, c + 2, c + 3, c + 4] h h := pw_E.rf _ _
  refine pw_put0 I E (c := c) (k := 0) (pc' := 15) rfl rfl (pw_Sc_o hc) rfl ⟨q0, q0l, rfl, q0h, q0n, q0i⟩ (pw_scq q0h) rfl rfl rfl ?_
  intro h1I h1E
  generalize h1w : pw_w h c 0 (.ref (16 + q0)) = h1 at h1I h1E ⊢
  have h1F := E0.tr (h1E.wk (W' := [c, c + 1, c + 2, c + 3, c + 4]) (by first | rfl | simp))
  refine pw_ld E (pc' := 16) (st' := [.ref (16 + c)]) rfl (fun _ => rfl) ?_
  refine pw_ld E (pc' := 17) (st' := [.ref 46, .ref (16 + c)]) rfl (fun _ => rfl) ?_
  refine pw_getI h1I E (c := 30) (k := 1) (pc' := 20) rfl rfl rfl rfl rfl rfl (fun hf2a hf2b hf2c hf2d => ?_)
  refine pw_putI h1I E (c := c) (k := 1) (pc' := 23) rfl rfl (pw_Sc_o hc) rfl (by omega) (by omega) (by omega) (by omega) rfl rfl ?_
  intro h3I h3E
  generalize h3w : pw_w h1 c 1 (pw_i (pw_g h1 30 1)) = h3 at h3I h3E ⊢
  have h3F := h1F.tr (h3E.wk (W' := [c, c + 1, c + 2, c + 3, c + 4]) (by first | rfl | simp))
  refine pw_ld E (pc' := 24) (st' := [pw_i 0]) rfl (fun _ => rfl) ?_
  refine pw_istn E (pc' := 25) (ls' := [some (.ref (16 + c)), some (.ref 46), some (pw_i 0)]) rfl rfl rfl rfl ?_
  have L25 : ∀ (n25 : Nat) (k25_2 : Int) (h25 : pm_H), pw_I h25 → pw_E [c, c + 1, c + 2, c + 3, c + 4] h h25 → 0 ≤ k25_2 → k25_2 ≤ 4 → (4 - k25_2).toNat = n25 → pw X d h25 73 25 [some (.ref (16 + c)), some (.ref 46), some (pw_i k25_2)] [] (fun h' v => pw_I h' ∧ pw_E [c, c + 1, c + 2, c + 3, c + 4] h h' ∧ v = .inl none) := by
    intro n25
    induction n25 using Nat.strongRecOn with
    | ind n25 ih25 =>
      intro k25_2 h25 I25 E25 k25_2a k25_2b hm25
      refine pw_ld E (pc' := 26) (st' := [pw_i k25_2]) rfl (fun _ => rfl) ?_
      refine pw_ld E (pc' := 27) (st' := [pw_i 4, pw_i k25_2]) rfl (fun _ => rfl) ?_
      refine pw_if2 E (pc' := 84) rfl (by decide) (by omega) (by omega) (by decide) (by decide) ?_ ?_
      · intro hc4
        have hc4 : (4 : Int) ≤ k25_2 := hc4
        refine pw_vret E rfl ?_
        exact ⟨I25, E25, rfl⟩
      · intro hc5
        have hc5 : ¬ ((4 : Int) ≤ k25_2) := hc5
        refine pw_ld E (pc' := 31) (st' := [.ref (16 + c)]) rfl (fun _ => rfl) ?_
        refine pw_getR (b := 16 + (c + 1)) I25 E (c := c) (k := 2) (pc' := 34) rfl rfl (pw_Sc_o hc) rfl rfl rfl rfl ?_
        refine pw_ld E (pc' := 35) (st' := [pw_i k25_2, .ref (16 + (c + 1))]) rfl (fun _ => rfl) ?_
        refine pw_ld E (pc' := 36) (st' := [.ref 46, pw_i k25_2, .ref (16 + (c + 1))]) rfl (fun _ => rfl) ?_
        refine pw_getR (b := 47) I25 E (c := 30) (k := 2) (pc' := 39) rfl rfl rfl rfl rfl rfl rfl ?_
        refine pw_ld E (pc' := 40) (st' := [pw_i k25_2, .ref 47, pw_i k25_2, .ref (16 + (c + 1))]) rfl (fun _ => rfl) ?_
        refine pw_ald I25 E (c := 31) (pc' := 41) rfl rfl rfl (by decide) rfl (by decide) (by omega) (by omega) rfl (fun hf6a hf6b hf6c hf6d => ?_)
        refine pw_ast0 I25 E (c := c + 1) (pc' := 42) rfl rfl (pw_Sc_1 hc) (by decide) rfl (by decide) (by omega) (by omega) (pw_b1 (by omega) (by omega)) (by omega) (by omega) (by omega) (by omega) rfl ?_
        intro h7I h7E
        generalize h7w : pw_w h25 (c + 1) (k25_2.toNat) (pw_i (pw_g h25 31 (k25_2.toNat))) = h7 at h7I h7E ⊢
        have h7F := E25.tr (h7E.wk (W' := [c, c + 1, c + 2, c + 3, c + 4]) (by first | rfl | simp))
        refine pw_ld E (pc' := 43) (st' := [.ref (16 + c)]) rfl (fun _ => rfl) ?_
        refine pw_getR (b := 16 + (c + 2)) h7I E (c := c) (k := 3) (pc' := 46) rfl rfl (pw_Sc_o hc) rfl rfl rfl rfl ?_
        refine pw_ld E (pc' := 47) (st' := [pw_i k25_2, .ref (16 + (c + 2))]) rfl (fun _ => rfl) ?_
        refine pw_ld E (pc' := 48) (st' := [.ref 46, pw_i k25_2, .ref (16 + (c + 2))]) rfl (fun _ => rfl) ?_
        refine pw_getR (b := 48) h7I E (c := 30) (k := 3) (pc' := 51) rfl rfl rfl rfl rfl rfl rfl ?_
        refine pw_ld E (pc' := 52) (st' := [pw_i k25_2, .ref 48, pw_i k25_2, .ref (16 + (c + 2))]) rfl (fun _ => rfl) ?_
        refine pw_ald h7I E (c := 32) (pc' := 53) rfl rfl rfl (by decide) rfl (by decide) (by omega) (by omega) rfl (fun hf8a hf8b hf8c hf8d => ?_)
        refine pw_ast0 h7I E (c := c + 2) (pc' := 54) rfl rfl (pw_Sc_2 hc) (by decide) rfl (by decide) (by omega) (by omega) rfl (by omega) (by omega) (by omega) (by omega) rfl ?_
        intro h9I h9E
        generalize h9w : pw_w h7 (c + 2) (k25_2.toNat) (pw_i (pw_g h7 32 (k25_2.toNat))) = h9 at h9I h9E ⊢
        have h9F := h7F.tr (h9E.wk (W' := [c, c + 1, c + 2, c + 3, c + 4]) (by first | rfl | simp))
        refine pw_ld E (pc' := 55) (st' := [.ref (16 + c)]) rfl (fun _ => rfl) ?_
        refine pw_getR (b := 16 + (c + 3)) h9I E (c := c) (k := 4) (pc' := 58) rfl rfl (pw_Sc_o hc) rfl rfl rfl rfl ?_
        refine pw_ld E (pc' := 59) (st' := [pw_i k25_2, .ref (16 + (c + 3))]) rfl (fun _ => rfl) ?_
        refine pw_ld E (pc' := 60) (st' := [.ref 46, pw_i k25_2, .ref (16 + (c + 3))]) rfl (fun _ => rfl) ?_
        refine pw_getR (b := 49) h9I E (c := 30) (k := 4) (pc' := 63) rfl rfl rfl rfl rfl rfl rfl ?_
        refine pw_ld E (pc' := 64) (st' := [pw_i k25_2, .ref 49, pw_i k25_2, .ref (16 + (c + 3))]) rfl (fun _ => rfl) ?_
        refine pw_ald h9I E (c := 33) (pc' := 65) rfl rfl rfl (by decide) rfl (by decide) (by omega) (by omega) rfl (fun hf10a hf10b hf10c hf10d => ?_)
        refine pw_ast0 h9I E (c := c + 3) (pc' := 66) rfl rfl (pw_Sc_3 hc) (by decide) rfl (by decide) (by omega) (by omega) rfl (by omega) (by omega) (by omega) (by omega) rfl ?_
        intro h11I h11E
        generalize h11w : pw_w h9 (c + 3) (k25_2.toNat) (pw_i (pw_g h9 33 (k25_2.toNat))) = h11 at h11I h11E ⊢
        have h11F := h9F.tr (h11E.wk (W' := [c, c + 1, c + 2, c + 3, c + 4]) (by first | rfl | simp))
        refine pw_ld E (pc' := 67) (st' := [.ref (16 + c)]) rfl (fun _ => rfl) ?_
        refine pw_getR (b := 16 + (c + 4)) h11I E (c := c) (k := 5) (pc' := 70) rfl rfl (pw_Sc_o hc) rfl rfl rfl rfl ?_
        refine pw_ld E (pc' := 71) (st' := [pw_i k25_2, .ref (16 + (c + 4))]) rfl (fun _ => rfl) ?_
        refine pw_ld E (pc' := 72) (st' := [.ref 46, pw_i k25_2, .ref (16 + (c + 4))]) rfl (fun _ => rfl) ?_
        refine pw_getR (b := 50) h11I E (c := 30) (k := 5) (pc' := 75) rfl rfl rfl rfl rfl rfl rfl ?_
        refine pw_ld E (pc' := 76) (st' := [pw_i k25_2, .ref 50, pw_i k25_2, .ref (16 + (c + 4))]) rfl (fun _ => rfl) ?_
        refine pw_ald h11I E (c := 34) (pc' := 77) rfl rfl rfl (by decide) rfl (by decide) (by omega) (by omega) rfl (fun hf12a hf12b hf12c hf12d => ?_)
        refine pw_ast0 h11I E (c := c + 4) (pc' := 78) rfl rfl (pw_Sc_4 hc) (by decide) rfl (by decide) (by omega) (by omega) rfl (by omega) (by omega) (by omega) (by omega) rfl ?_
        intro h13I h13E
        generalize h13w : pw_w h11 (c + 4) (k25_2.toNat) (pw_i (pw_g h11 34 (k25_2.toNat))) = h13 at h13I h13E ⊢
        have h13F := h11F.tr (h13E.wk (W' := [c, c + 1, c + 2, c + 3, c + 4]) (by first | rfl | simp))
        refine pw_inc E (pc' := 81) (ls' := [some (.ref (16 + c)), some (.ref 46), some (pw_i (k25_2 + 1))]) rfl rfl rfl rfl ?_
        refine pw_goto E (pc' := 25) rfl (by decide) ?_
        exact ih25 _ (by omega) (k25_2 + 1) h13 h13I h13F (by omega) (by omega)  rfl
  exact L25 _ (0) h3 h3I h3F (by omega) (by omega)  rfl
theorem pw_G_push {W : List Nat} {h : pm_H} {l : List Value} (hl : l.length ≤ 1000) : pw_G W h (h ++ [.inl (0, l)]) := by
  refine ⟨⟨by simp, by simp, by rw [pm_slt_push]; omega, by rw [pm_slt_push]; show pm_slt h + l.length ≤ _; omega⟩, fun c hc _ => List.getElem?_append_left hc⟩
theorem cm_73 {X : List (Nat × List Value)} {d : Nat} {h : pm_H} (hd : 2 ≤ d) (I : pw_I h) (c : Nat) (hc : pw_Sc c) (hlen : pw_g h 30 1 ≤ 999) : pw X d h 73 0 [some (.ref (16 + c)), some (.ref 46), none] [] (fun h' v => pw_I h' ∧ pw_G [c, c + 1, c + 2, c + 3, c + 4] h h' ∧ v = .inl none) := by
  have E : pm_ent 73 = some (2, 3, 7, 4, pmc_73) := rfl
  refine pw_ld E (pc' := 1) (st' := [.ref (16 + c)]) rfl (fun _ => rfl) ?_
  refine pw_ld E (pc' := 2) (st' := [.ref 46, .ref (16 + c)]) rfl (fun _ => rfl) ?_
  refine pw_getR (b := 52) I E (c := 30) (k := 0) (pc' := 5) rfl rfl rfl rfl rfl rfl rfl ?_
  refine pw_ld E (pc' := 6) (st' := [.ref 46, .ref 52, .ref (16 + c)]) rfl (fun _ => rfl) ?_
  refine pw_getI I E (c := 30) (k := 1) (pc' := 9) rfl rfl rfl rfl rfl rfl (fun ha hb _ _ => ?_)
  obtain ⟨l, e1, e2, e3⟩ := pw_arr (c := 36) I rfl
  refine pw_call (m' := 325) (As := [.ref 52, pw_i (pw_g h 30 1)]) (rest := [.ref (16 + c)]) (ls'' := [some (.ref (16 + 36)), some (pw_i (pw_g h 30 1)), none]) (by omega) E rfl (fun _ => pw_iS rfl rfl rfl) (rfl : pm_ent 325 = some (2, 3, 14, 3, pmc_325)) rfl rfl (cm_325 e1 e2 ha hlen) ?_
  rintro h1 v1 ⟨rfl, rfl⟩
  refine ⟨_, rfl, ?_⟩
  have ht : (l.take (pw_g h 30 1).toNat).length ≤ 1000 := by rw [List.length_take]; omega
  refine pw_mono (cm_73t (pw_I_push rfl I) c hc h.length (l.take (pw_g h 30 1).toNat) (by rw [List.getElem?_append_right (Nat.le_refl _), Nat.sub_self]; rfl) ht (fun j v hv => ?_)) ?_
  · rw [List.getElem?_take] at hv
    split at hv
    · obtain ⟨a, rfl, -⟩ := e3 j v hv
      exact ⟨_, rfl⟩
    · cases hv
  · rintro h2 v2 ⟨I2, E2, rfl⟩
    exact ⟨I2, (pw_G_push ht).tE E2, rfl⟩
set_option maxHeartbeats 4000000 in
theorem cm_143_26 {X : List (Nat × List Value)} {d : Nat} {h : pm_H} (hd : 7 ≤ d) (I : pw_I h) (hX : pw_Xk X) (hR : pw_Xr X) (c : Nat) (hc : pw_Sc c) : pw X d h 143 0 [some (.ref 16), some (.ref 42), some (.ref (16 + c)), none] [] (fun h' v => pw_I h' ∧ pw_G [24, 26, 27, 30, 31, 32, 33, 34, 36, c, c + 1, c + 2, c + 3, c + 4] h h' ∧ ∃ a : Int, v = .inl (some (pw_i a)) ∧ (-2147483648) ≤ a ∧ a ≤ 2147483647) := by
  have E : pm_ent 143 = some (3, 4, 11, 0, pmc_143) := rfl
  refine pw_ld E (pc' := 1) (st' := [.ref 42]) rfl (fun _ => rfl) ?_
  refine pw_ld E (pc' := 2) (st' := [.ref 16, .ref 42]) rfl (fun _ => rfl) ?_
  refine pw_getR (b := 40) I E (c := 0) (k := 10) (pc' := 5) rfl rfl rfl rfl rfl rfl rfl ?_
  refine pw_ld E (pc' := 6) (st' := [.ref 16, .ref 40, .ref 42]) rfl (fun _ => rfl) ?_
  refine pw_getR (b := 46) I E (c := 0) (k := 13) (pc' := 9) rfl rfl rfl rfl rfl rfl rfl ?_
  obtain ⟨f1l, f1h, -⟩ := pw_obj (c := 26) I rfl
  refine pw_call (m' := 44) (As := [.ref 42, .ref 40, .ref 46]) (rest := []) (ls'' := [some (.ref 42), some (.ref 40), some (.ref 46), none, none]) (by omega) E rfl (fun _ => pw_iV rfl rfl rfl rfl (pw_cellI f1h rfl)) (rfl : pm_ent 44 = some (3, 5, 5, 0, pmc_44)) rfl rfl (cm_44_26 (by omega) I hX hR) ?_
  rintro h1 v1 ⟨I1, E1, a, rfl, ha, hb, hz⟩
  refine ⟨_, rfl, ?_⟩
  show pw X d h1 143 12 [some (.ref 16), some (.ref 42), some (.ref (16 + c)), none] [pw_i a] _
  refine pw_istn E (pc' := 13) (ls' := [some (.ref 16), some (.ref 42), some (.ref (16 + c)), some (pw_i a)]) rfl rfl rfl rfl ?_
  refine pw_ld E (pc' := 14) (st' := [.ref 16]) rfl (fun _ => rfl) ?_
  refine pw_getR (b := 40) I1 E (c := 0) (k := 10) (pc' := 17) rfl rfl rfl rfl rfl rfl rfl ?_
  obtain ⟨f2l, f2h, -⟩ := pw_obj (c := 24) I1 rfl
  refine pw_call (m' := 99) (As := [.ref 40]) (rest := []) (ls'' := [some (.ref 40)]) (by omega) E rfl (fun _ => pw_iV rfl rfl rfl rfl (pw_cellI f2h rfl)) (rfl : pm_ent 99 = some (1, 1, 9, 4, pmc_99)) rfl rfl (cm_99 (by omega) I1) ?_
  rintro h2 v2 ⟨I2, E2, rfl⟩
  refine ⟨_, rfl, ?_⟩
  show pw X d h2 143 20 [some (.ref 16), some (.ref 42), some (.ref (16 + c)), some (pw_i a)] [] _
  have e30 : pw_g h2 30 1 = pw_g h1 30 1 := pw_Eg (c := 30) I1 E2 rfl rfl 1
  have EE : pw_E [24, 26, 27, 30, 31, 32, 33, 34, 36, c, c + 1, c + 2, c + 3, c + 4] h h2 := (E1.wk (W' := [24, 26, 27, 30, 31, 32, 33, 34, 36, c, c + 1, c + 2, c + 3, c + 4]) (by simp)).tr (E2.wk (W' := [24, 26, 27, 30, 31, 32, 33, 34, 36, c, c + 1, c + 2, c + 3, c + 4]) (by simp))
  refine pw_ld E (pc' := 21) (st' := [pw_i a]) rfl (fun _ => rfl) ?_
  refine pw_if E (pc' := 32) rfl (by decide) ha hb ?_ ?_
  · intro _
    refine pw_ld E (pc' := 33) (st' := [pw_i a]) rfl (fun _ => rfl) ?_
    refine pw_iret E rfl ?_
    exact ⟨I2, EE.G, a, rfl, ha, hb⟩
  · intro hn
    have hn : ¬ (a ≠ 0) := hn
    refine pw_ld E (pc' := 25) (st' := [.ref (16 + c)]) rfl (fun _ => rfl) ?_
    refine pw_ld E (pc' := 26) (st' := [.ref 16, .ref (16 + c)]) rfl (fun _ => rfl) ?_
    refine pw_getR (b := 46) I2 E (c := 0) (k := 13) (pc' := 29) rfl rfl rfl rfl rfl rfl rfl ?_
    obtain ⟨f3l, f3h, -⟩ := pw_obj (c := c) I2 (pw_Sc_o hc)
    refine pw_call (m' := 73) (As := [.ref (16 + c), .ref 46]) (rest := []) (ls'' := [some (.ref (16 + c)), some (.ref 46), none]) (by omega) E rfl (fun _ => pw_iV rfl rfl rfl rfl (pw_cellI f3h rfl)) (rfl : pm_ent 73 = some (2, 3, 7, 4, pmc_73)) rfl rfl (cm_73 (by omega) I2 c hc (by omega)) ?_
    rintro h3 v3 ⟨I3, G3, rfl⟩
    refine ⟨_, rfl, ?_⟩
    show pw X d h3 143 32 [some (.ref 16), some (.ref 42), some (.ref (16 + c)), some (pw_i a)] [] _
    refine pw_ld E (pc' := 33) (st' := [pw_i a]) rfl (fun _ => rfl) ?_
    refine pw_iret E rfl ?_
    exact ⟨I3, EE.tG (G3.wk (W' := [24, 26, 27, 30, 31, 32, 33, 34, 36, c, c + 1, c + 2, c + 3, c + 4]) (by simp)), a, rfl, ha, hb⟩
set_option maxHeartbeats 4000000 in
theorem cm_143_28 {X : List (Nat × List Value)} {d : Nat} {h : pm_H} (hd : 7 ≤ d) (I : pw_I h) (hX : pw_Xk X) (hR : pw_Xr X) (c : Nat) (hc : pw_Sc c) : pw X d h 143 0 [some (.ref 16), some (.ref 44), some (.ref (16 + c)), none] [] (fun h' v => pw_I h' ∧ pw_G [24, 28, 29, 30, 31, 32, 33, 34, 36, c, c + 1, c + 2, c + 3, c + 4] h h' ∧ ∃ a : Int, v = .inl (some (pw_i a)) ∧ (-2147483648) ≤ a ∧ a ≤ 2147483647) := by
  have E : pm_ent 143 = some (3, 4, 11, 0, pmc_143) := rfl
  refine pw_ld E (pc' := 1) (st' := [.ref 44]) rfl (fun _ => rfl) ?_
  refine pw_ld E (pc' := 2) (st' := [.ref 16, .ref 44]) rfl (fun _ => rfl) ?_
  refine pw_getR (b := 40) I E (c := 0) (k := 10) (pc' := 5) rfl rfl rfl rfl rfl rfl rfl ?_
  refine pw_ld E (pc' := 6) (st' := [.ref 16, .ref 40, .ref 44]) rfl (fun _ => rfl) ?_
  refine pw_getR (b := 46) I E (c := 0) (k := 13) (pc' := 9) rfl rfl rfl rfl rfl rfl rfl ?_
  obtain ⟨f1l, f1h, -⟩ := pw_obj (c := 28) I rfl
  refine pw_call (m' := 44) (As := [.ref 44, .ref 40, .ref 46]) (rest := []) (ls'' := [some (.ref 44), some (.ref 40), some (.ref 46), none, none]) (by omega) E rfl (fun _ => pw_iV rfl rfl rfl rfl (pw_cellI f1h rfl)) (rfl : pm_ent 44 = some (3, 5, 5, 0, pmc_44)) rfl rfl (cm_44_28 (by omega) I hX hR) ?_
  rintro h1 v1 ⟨I1, E1, a, rfl, ha, hb, hz⟩
  refine ⟨_, rfl, ?_⟩
  show pw X d h1 143 12 [some (.ref 16), some (.ref 44), some (.ref (16 + c)), none] [pw_i a] _
  refine pw_istn E (pc' := 13) (ls' := [some (.ref 16), some (.ref 44), some (.ref (16 + c)), some (pw_i a)]) rfl rfl rfl rfl ?_
  refine pw_ld E (pc' := 14) (st' := [.ref 16]) rfl (fun _ => rfl) ?_
  refine pw_getR (b := 40) I1 E (c := 0) (k := 10) (pc' := 17) rfl rfl rfl rfl rfl rfl rfl ?_
  obtain ⟨f2l, f2h, -⟩ := pw_obj (c := 24) I1 rfl
  refine pw_call (m' := 99) (As := [.ref 40]) (rest := []) (ls'' := [some (.ref 40)]) (by omega) E rfl (fun _ => pw_iV rfl rfl rfl rfl (pw_cellI f2h rfl)) (rfl : pm_ent 99 = some (1, 1, 9, 4, pmc_99)) rfl rfl (cm_99 (by omega) I1) ?_
  rintro h2 v2 ⟨I2, E2, rfl⟩
  refine ⟨_, rfl, ?_⟩
  show pw X d h2 143 20 [some (.ref 16), some (.ref 44), some (.ref (16 + c)), some (pw_i a)] [] _
  have e30 : pw_g h2 30 1 = pw_g h1 30 1 := pw_Eg (c := 30) I1 E2 rfl rfl 1
  have EE : pw_E [24, 28, 29, 30, 31, 32, 33, 34, 36, c, c + 1, c + 2, c + 3, c + 4] h h2 := (E1.wk (W' := [24, 28, 29, 30, 31, 32, 33, 34, 36, c, c + 1, c + 2, c + 3, c + 4]) (by simp)).tr (E2.wk (W' := [24, 28, 29, 30, 31, 32, 33, 34, 36, c, c + 1, c + 2, c + 3, c + 4]) (by simp))
  refine pw_ld E (pc' := 21) (st' := [pw_i a]) rfl (fun _ => rfl) ?_
  refine pw_if E (pc' := 32) rfl (by decide) ha hb ?_ ?_
  · intro _
    refine pw_ld E (pc' := 33) (st' := [pw_i a]) rfl (fun _ => rfl) ?_
    refine pw_iret E rfl ?_
    exact ⟨I2, EE.G, a, rfl, ha, hb⟩
  · intro hn
    have hn : ¬ (a ≠ 0) := hn
    refine pw_ld E (pc' := 25) (st' := [.ref (16 + c)]) rfl (fun _ => rfl) ?_
    refine pw_ld E (pc' := 26) (st' := [.ref 16, .ref (16 + c)]) rfl (fun _ => rfl) ?_
    refine pw_getR (b := 46) I2 E (c := 0) (k := 13) (pc' := 29) rfl rfl rfl rfl rfl rfl rfl ?_
    obtain ⟨f3l, f3h, -⟩ := pw_obj (c := c) I2 (pw_Sc_o hc)
    refine pw_call (m' := 73) (As := [.ref (16 + c), .ref 46]) (rest := []) (ls'' := [some (.ref (16 + c)), some (.ref 46), none]) (by omega) E rfl (fun _ => pw_iV rfl rfl rfl rfl (pw_cellI f3h rfl)) (rfl : pm_ent 73 = some (2, 3, 7, 4, pmc_73)) rfl rfl (cm_73 (by omega) I2 c hc (by omega)) ?_
    rintro h3 v3 ⟨I3, G3, rfl⟩
    refine ⟨_, rfl, ?_⟩
    show pw X d h3 143 32 [some (.ref 16), some (.ref 44), some (.ref (16 + c)), some (pw_i a)] [] _
    refine pw_ld E (pc' := 33) (st' := [pw_i a]) rfl (fun _ => rfl) ?_
    refine pw_iret E rfl ?_
    exact ⟨I3, EE.tG (G3.wk (W' := [24, 28, 29, 30, 31, 32, 33, 34, 36, c, c + 1, c + 2, c + 3, c + 4]) (by simp)), a, rfl, ha, hb⟩
/-- the cells that law and writer of the class may write -/
def pw_WL : List Nat := [24, 26, 27, 28, 29, 30, 31, 32, 33, 34, 36] ++ (List.range 56).map (fun j => 39 + j)
set_option maxHeartbeats 4000000 in
theorem cm_141 {X : List (Nat × List Value)} {d : Nat} {h : pm_H} (hd : 8 ≤ d) (I : pw_I h) (hX : pw_Xk X) (hR : pw_Xr X) (l : Int) (hl1 : (-2147483648) ≤ l) (hl2 : l ≤ 2147483647) : pw X d h 141 0 [some (.ref 16), some (pw_i l)] [] (fun h' v => pw_I h' ∧ pw_G pw_WL h h' ∧ ∃ a : Int, v = .inl (some (pw_i a)) ∧ (-2147483648) ≤ a ∧ a ≤ 2147483647) := by
  have E : pm_ent 141 = some (2, 2, 11, 0, pmc_141) := rfl
  refine pw_ld E (pc' := 1) (st' := [pw_i l]) rfl (fun _ => rfl) ?_
  refine pw_call (m' := 142) (As := [pw_i l]) (rest := []) (ls'' := [some (pw_i l)]) (by omega) E rfl (fun _ => pw_iS rfl rfl rfl) (rfl : pm_ent 142 = some (1, 1, 11, 1, pmc_142)) rfl rfl (cm_142 (by omega) I (l) (by omega) (by omega)) ?_
  rintro u v ⟨rfl, x, rfl, hxa, hxb, hxr⟩
  refine ⟨_, rfl, ?_⟩
  show pw X d h 141 4 [some (.ref 16), some (pw_i l)] [pw_i x] _
  refine pw_if E (pc' := 16) rfl (by decide) (by omega) (by omega) ?_ ?_
  · intro hn
    have hn : x ≠ 0 := hn
    refine pw_ld E (pc' := 17) (st' := [.ref 16]) rfl (fun _ => rfl) ?_
    refine pw_ld E (pc' := 18) (st' := [.ref 16, .ref 16]) rfl (fun _ => rfl) ?_
    refine pw_getR (b := 42) I E (c := 0) (k := 11) (pc' := 21) rfl rfl rfl rfl rfl rfl rfl ?_
    refine pw_ld E (pc' := 22) (st' := [.ref 16, .ref 42, .ref 16]) rfl (fun _ => rfl) ?_
    refine pw_getR (b := 53) I E (c := 0) (k := 14) (pc' := 25) rfl rfl rfl rfl rfl rfl rfl ?_
    refine pw_ld E (pc' := 26) (st' := [pw_i l, .ref 53, .ref 42, .ref 16]) rfl (fun _ => rfl) ?_
    obtain ⟨c, hc, hcl⟩ : ∃ c : Nat, pw_Sc c ∧ (((55 : Int) + 14 * ((l.toNat : Nat) : Int)).toNat = 16 + c) := by
      rcases (by omega : l = 0 ∨ l = 1 ∨ l = 2 ∨ l = 3) with rfl | rfl | rfl | rfl
      · exact ⟨39, by unfold pw_Sc; omega, rfl⟩
      · exact ⟨53, by unfold pw_Sc; omega, rfl⟩
      · exact ⟨67, by unfold pw_Sc; omega, rfl⟩
      · exact ⟨81, by unfold pw_Sc; omega, rfl⟩
    refine pw_aald (b := 16 + c) I E (c := 37) (pc' := 27) rfl rfl (by decide) rfl (by decide) (by omega) (by omega) hcl rfl ?_
    obtain ⟨f1l, f1h, -⟩ := pw_obj (c := 0) I rfl
    refine pw_call (m' := 143) (As := [.ref 16, .ref 42, .ref (16 + c)]) (rest := []) (ls'' := [some (.ref 16), some (.ref 42), some (.ref (16 + c)), none]) (by omega) E rfl (fun _ => pw_iV rfl rfl rfl rfl (pw_cellI f1h rfl)) (rfl : pm_ent 143 = some (3, 4, 11, 0, pmc_143)) rfl rfl (cm_143_26 (by omega) I hX hR c hc) ?_
    rintro h1 v1 ⟨I1, G1, a, rfl, ha, hb⟩
    refine ⟨_, rfl, ?_⟩
    show pw X d h1 141 30 [some (.ref 16), some (pw_i l)] [pw_i a] _
    refine pw_iret E rfl ?_
    refine ⟨I1, G1.wk ?_, a, rfl, ha, hb⟩
    rcases hc with rfl | rfl | rfl | rfl | rfl | rfl | rfl | rfl <;> decide
  · intro hn
    refine pw_ld E (pc' := 8) (st' := [.ref 16]) rfl (fun _ => rfl) ?_
    refine pw_getR (b := 40) I E (c := 0) (k := 10) (pc' := 11) rfl rfl rfl rfl rfl rfl rfl ?_
    obtain ⟨f2l, f2h, -⟩ := pw_obj (c := 24) I rfl
    refine pw_call (m' := 99) (As := [.ref 40]) (rest := []) (ls'' := [some (.ref 40)]) (by omega) E rfl (fun _ => pw_iV rfl rfl rfl rfl (pw_cellI f2h rfl)) (rfl : pm_ent 99 = some (1, 1, 9, 4, pmc_99)) rfl rfl (cm_99 (by omega) I) ?_
    rintro h2 v2 ⟨I2, E2, rfl⟩
    refine ⟨_, rfl, ?_⟩
    show pw X d h2 141 14 [some (.ref 16), some (pw_i l)] [] _
    refine pw_ld E (pc' := 15) (st' := [pw_i (-1)]) rfl (fun _ => rfl) ?_
    refine pw_iret E rfl ?_
    exact ⟨I2, (E2.wk (W' := pw_WL) (by decide)).G, -1, rfl, by decide, by decide⟩
set_option maxHeartbeats 4000000 in
theorem cm_153 {X : List (Nat × List Value)} {d : Nat} {h : pm_H} (hd : 8 ≤ d) (I : pw_I h) (hX : pw_Xk X) (hR : pw_Xr X) (l : Int) (hl1 : (-2147483648) ≤ l) (hl2 : l ≤ 2147483647) : pw X d h 153 0 [some (.ref 16), some (pw_i l)] [] (fun h' v => pw_I h' ∧ pw_G pw_WL h h' ∧ ∃ a : Int, v = .inl (some (pw_i a)) ∧ (-2147483648) ≤ a ∧ a ≤ 2147483647) := by
  have E : pm_ent 153 = some (2, 2, 11, 0, pmc_153) := rfl
  refine pw_ld E (pc' := 1) (st' := [pw_i l]) rfl (fun _ => rfl) ?_
  refine pw_call (m' := 142) (As := [pw_i l]) (rest := []) (ls'' := [some (pw_i l)]) (by omega) E rfl (fun _ => pw_iS rfl rfl rfl) (rfl : pm_ent 142 = some (1, 1, 11, 1, pmc_142)) rfl rfl (cm_142 (by omega) I (l) (by omega) (by omega)) ?_
  rintro u v ⟨rfl, x, rfl, hxa, hxb, hxr⟩
  refine ⟨_, rfl, ?_⟩
  show pw X d h 153 4 [some (.ref 16), some (pw_i l)] [pw_i x] _
  refine pw_if E (pc' := 16) rfl (by decide) (by omega) (by omega) ?_ ?_
  · intro hn
    have hn : x ≠ 0 := hn
    refine pw_ld E (pc' := 17) (st' := [.ref 16]) rfl (fun _ => rfl) ?_
    refine pw_ld E (pc' := 18) (st' := [.ref 16, .ref 16]) rfl (fun _ => rfl) ?_
    refine pw_getR (b := 44) I E (c := 0) (k := 12) (pc' := 21) rfl rfl rfl rfl rfl rfl rfl ?_
    refine pw_ld E (pc' := 22) (st' := [.ref 16, .ref 44, .ref 16]) rfl (fun _ => rfl) ?_
    refine pw_getR (b := 54) I E (c := 0) (k := 15) (pc' := 25) rfl rfl rfl rfl rfl rfl rfl ?_
    refine pw_ld E (pc' := 26) (st' := [pw_i l, .ref 54, .ref 44, .ref 16]) rfl (fun _ => rfl) ?_
    obtain ⟨c, hc, hcl⟩ : ∃ c : Nat, pw_Sc c ∧ (((62 : Int) + 14 * ((l.toNat : Nat) : Int)).toNat = 16 + c) := by
      rcases (by omega : l = 0 ∨ l = 1 ∨ l = 2 ∨ l = 3) with rfl | rfl | rfl | rfl
      · exact ⟨46, by unfold pw_Sc; omega, rfl⟩
      · exact ⟨60, by unfold pw_Sc; omega, rfl⟩
      · exact ⟨74, by unfold pw_Sc; omega, rfl⟩
      · exact ⟨88, by unfold pw_Sc; omega, rfl⟩
    refine pw_aald (b := 16 + c) I E (c := 38) (pc' := 27) rfl rfl (by decide) rfl (by decide) (by omega) (by omega) hcl rfl ?_
    obtain ⟨f1l, f1h, -⟩ := pw_obj (c := 0) I rfl
    refine pw_call (m' := 143) (As := [.ref 16, .ref 44, .ref (16 + c)]) (rest := []) (ls'' := [some (.ref 16), some (.ref 44), some (.ref (16 + c)), none]) (by omega) E rfl (fun _ => pw_iV rfl rfl rfl rfl (pw_cellI f1h rfl)) (rfl : pm_ent 143 = some (3, 4, 11, 0, pmc_143)) rfl rfl (cm_143_28 (by omega) I hX hR c hc) ?_
    rintro h1 v1 ⟨I1, G1, a, rfl, ha, hb⟩
    refine ⟨_, rfl, ?_⟩
    show pw X d h1 153 30 [some (.ref 16), some (pw_i l)] [pw_i a] _
    refine pw_iret E rfl ?_
    refine ⟨I1, G1.wk ?_, a, rfl, ha, hb⟩
    rcases hc with rfl | rfl | rfl | rfl | rfl | rfl | rfl | rfl <;> decide
  · intro hn
    refine pw_ld E (pc' := 8) (st' := [.ref 16]) rfl (fun _ => rfl) ?_
    refine pw_getR (b := 40) I E (c := 0) (k := 10) (pc' := 11) rfl rfl rfl rfl rfl rfl rfl ?_
    obtain ⟨f2l, f2h, -⟩ := pw_obj (c := 24) I rfl
    refine pw_call (m' := 99) (As := [.ref 40]) (rest := []) (ls'' := [some (.ref 40)]) (by omega) E rfl (fun _ => pw_iV rfl rfl rfl rfl (pw_cellI f2h rfl)) (rfl : pm_ent 99 = some (1, 1, 9, 4, pmc_99)) rfl rfl (cm_99 (by omega) I) ?_
    rintro h2 v2 ⟨I2, E2, rfl⟩
    refine ⟨_, rfl, ?_⟩
    show pw X d h2 153 14 [some (.ref 16), some (pw_i l)] [] _
    refine pw_ld E (pc' := 15) (st' := [pw_i (-1)]) rfl (fun _ => rfl) ?_
    refine pw_iret E rfl ?_
    exact ⟨I2, (E2.wk (W' := pw_WL) (by decide)).G, -1, rfl, by decide, by decide⟩
end
