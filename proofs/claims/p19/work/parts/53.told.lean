/-! contracts (printed by wip/tool/pwspec.py) -/
set_option maxHeartbeats 4000000 in
theorem cm_124 {X : List (Nat × List Value)} {d : Nat} {h : pm_H} (hd : 3 ≤ d) (I : pw_I h) (k : Int) (hk1 : (-2147483648) ≤ k) (hk2 : k ≤ 2147483647) : pw X d h 124 0 [some (.ref 16), some (pw_i k)] [] (fun h' v => h = h' ∧ ∃ a : Int, v = .inl (some (pw_i a)) ∧ 0 ≤ a ∧ a ≤ 1 ∧ ((a = 1 ∧ 0 ≤ k ∧ k ≤ 23) ∨ a = 0)) := by
  have E : pm_ent 124 = some (2, 2, 11, 1, pmc_124) := rfl
  refine pw_ld E (pc' := 1) (st' := [pw_i k]) rfl (fun _ => rfl) ?_
  refine pw_call (m' := 120) (As := [pw_i k]) (rest := []) (ls'' := [some (pw_i k)]) (Nat.le_trans (by decide) hd) E rfl (fun _ => pw_iS rfl rfl rfl) (rfl : pm_ent 120 = some (1, 1, 11, 1, pmc_120)) rfl rfl (cm_120 (pw_dp hd (by decide)) I (k) (by omega) (by omega)) ?_
  rintro u2 v1 ⟨rfl, x3, rfl, hx3a, hx3b, hx3r⟩
  refine ⟨_, rfl, ?_⟩
  show pw X d h 124 4 [some (.ref 16), some (pw_i k)] [pw_i x3] _
  change (x3 = 1 ∧ 0 ≤ k ∧ k ≤ 23) ∨ (x3 = 0 ∧ ¬ (0 ≤ k ∧ k ≤ 23)) at hx3r
  rcases (by omega : x3 = 1 ∨ x3 = 0) with hb4 | hb4
  · skip
    refine pw_if E (pc' := 22) rfl (by decide) (by omega) (by omega) ?_ ?_
    · intro hc5
      change x3 = (0 : Int) at hc5
      exfalso; omega
    · intro hc6
      change ¬ (x3 = (0 : Int)) at hc6
      refine pw_ld E (pc' := 8) (st' := [.ref 16]) rfl (fun _ => rfl) ?_
      refine pw_getR (b := 17) I E (c := 0) (k := 0) (pc' := 11) rfl rfl rfl rfl rfl rfl rfl ?_
      refine pw_ld E (pc' := 12) (st' := [pw_i k, .ref 17]) rfl (fun _ => rfl) ?_
      obtain ⟨f7l, f7h, -⟩ := pw_obj (c := 1) I rfl
      refine pw_call (m' := 59) (As := [.ref 17, pw_i k]) (rest := []) (ls'' := [some (.ref 17), some (pw_i k)]) (Nat.le_trans (by decide) hd) E rfl (fun _ => pw_iV rfl rfl rfl rfl (pw_cellI f7h rfl)) (rfl : pm_ent 59 = some (2, 2, 6, 1, pmc_59)) rfl rfl (cm_59 (pw_dp hd (by decide)) I (k) (by omega) (by omega)) ?_
      rintro u9 v8 ⟨rfl, x10, rfl, hx10a, hx10b, hx10r⟩
      refine ⟨_, rfl, ?_⟩
      show pw X d h 124 15 [some (.ref 16), some (pw_i k)] [pw_i x10] _
      change x10 = pw_g h 2 k.toNat at hx10r
      rcases (by omega : x10 = 1 ∨ x10 = 0) with hb11 | hb11
      · skip
        refine pw_if E (pc' := 22) rfl (by decide) (by omega) (by omega) ?_ ?_
        · intro hc12
          change x10 = (0 : Int) at hc12
          exfalso; omega
        · intro hc13
          change ¬ (x10 = (0 : Int)) at hc13
          refine pw_ld E (pc' := 19) (st' := [pw_i 1]) rfl (fun _ => rfl) ?_
          refine pw_goto E (pc' := 23) rfl (by decide) ?_
          refine pw_zret E rfl (by omega) ?_
          exact ⟨rfl, ⟨_, rfl, by omega, by omega, by omega⟩⟩
      · skip
        refine pw_if E (pc' := 22) rfl (by decide) (by omega) (by omega) ?_ ?_
        · intro hc15
          change x10 = (0 : Int) at hc15
          refine pw_ld E (pc' := 23) (st' := [pw_i 0]) rfl (fun _ => rfl) ?_
          refine pw_zret E rfl (by omega) ?_
          exact ⟨rfl, ⟨_, rfl, by omega, by omega, by omega⟩⟩
        · intro hc16
          change ¬ (x10 = (0 : Int)) at hc16
          exfalso; omega
  · skip
    refine pw_if E (pc' := 22) rfl (by decide) (by omega) (by omega) ?_ ?_
    · intro hc18
      change x3 = (0 : Int) at hc18
      refine pw_ld E (pc' := 23) (st' := [pw_i 0]) rfl (fun _ => rfl) ?_
      refine pw_zret E rfl (by omega) ?_
      exact ⟨rfl, ⟨_, rfl, by omega, by omega, by omega⟩⟩
    · intro hc19
      change ¬ (x3 = (0 : Int)) at hc19
      exfalso; omega
set_option maxHeartbeats 4000000 in
theorem cm_129 {X : List (Nat × List Value)} {d : Nat} {h : pm_H} (hd : 4 ≤ d) (I : pw_I h) (k : Int) (hk1 : (-2147483648) ≤ k) (hk2 : k ≤ 2147483647) (mo : Int) (hmo1 : (-2147483648) ≤ mo) (hmo2 : mo ≤ 2147483647) : pw X d h 129 0 [some (.ref 16), some (pw_i k), some (pw_i mo)] [] (fun h' v => h = h' ∧ ∃ a : Int, v = .inl (some (pw_i a)) ∧ (-2147483648) ≤ a ∧ a ≤ 2147483647) := by
  have E : pm_ent 129 = some (3, 3, 11, 0, pmc_129) := rfl
  refine pw_ld E (pc' := 1) (st' := [.ref 16]) rfl (fun _ => rfl) ?_
  refine pw_ld E (pc' := 2) (st' := [pw_i k, .ref 16]) rfl (fun _ => rfl) ?_
  obtain ⟨f1l, f1h, -⟩ := pw_obj (c := 0) I rfl
  refine pw_call (m' := 124) (As := [.ref 16, pw_i k]) (rest := []) (ls'' := [some (.ref 16), some (pw_i k)]) (Nat.le_trans (by decide) hd) E rfl (fun _ => pw_iV rfl rfl rfl rfl (pw_cellI f1h rfl)) (rfl : pm_ent 124 = some (2, 2, 11, 1, pmc_124)) rfl rfl (cm_124 (pw_dp hd (by decide)) I (k) (by omega) (by omega)) ?_
  rintro u3 v2 ⟨rfl, x4, rfl, hx4a, hx4b, hx4r⟩
  refine ⟨_, rfl, ?_⟩
  show pw X d h 129 5 [some (.ref 16), some (pw_i k), some (pw_i mo)] [pw_i x4] _
  change (x4 = 1 ∧ 0 ≤ k ∧ k ≤ 23) ∨ x4 = 0 at hx4r
  rcases (by omega : x4 = 1 ∨ x4 = 0) with hb5 | hb5
  · skip
    refine pw_if E (pc' := 27) rfl (by decide) (by omega) (by omega) ?_ ?_
    · intro hc6
      change x4 = (0 : Int) at hc6
      exfalso; omega
    · intro hc7
      change ¬ (x4 = (0 : Int)) at hc7
      refine pw_ld E (pc' := 9) (st' := [pw_i mo]) rfl (fun _ => rfl) ?_
      refine pw_call (m' := 125) (As := [pw_i mo]) (rest := []) (ls'' := [some (pw_i mo)]) (Nat.le_trans (by decide) hd) E rfl (fun _ => pw_iS rfl rfl rfl) (rfl : pm_ent 125 = some (1, 1, 11, 1, pmc_125)) rfl rfl (cm_125 (pw_dp hd (by decide)) I (mo) (by omega) (by omega)) ?_
      rintro u9 v8 ⟨rfl, x10, rfl, hx10a, hx10b, hx10r⟩
      refine ⟨_, rfl, ?_⟩
      show pw X d h 129 12 [some (.ref 16), some (pw_i k), some (pw_i mo)] [pw_i x10] _
      change (x10 = 1 ∧ 0 ≤ mo ∧ mo ≤ 11) ∨ (x10 = 0 ∧ ¬ (0 ≤ mo ∧ mo ≤ 11)) at hx10r
      rcases (by omega : x10 = 1 ∨ x10 = 0) with hb11 | hb11
      · skip
        refine pw_if E (pc' := 27) rfl (by decide) (by omega) (by omega) ?_ ?_
        · intro hc12
          change x10 = (0 : Int) at hc12
          exfalso; omega
        · intro hc13
          change ¬ (x10 = (0 : Int)) at hc13
          refine pw_ld E (pc' := 16) (st' := [.ref 16]) rfl (fun _ => rfl) ?_
          refine pw_getR (b := 26) I E (c := 0) (k := 2) (pc' := 19) rfl rfl rfl rfl rfl rfl rfl ?_
          refine pw_ld E (pc' := 20) (st' := [pw_i k, .ref 26]) rfl (fun _ => rfl) ?_
          refine pw_ld E (pc' := 21) (st' := [pw_i mo, pw_i k, .ref 26]) rfl (fun _ => rfl) ?_
          obtain ⟨f14l, f14h, -⟩ := pw_obj (c := 10) I rfl
          refine pw_call (m' := 19) (As := [.ref 26, pw_i k, pw_i mo]) (rest := []) (ls'' := [some (.ref 26), some (pw_i k), some (pw_i mo)]) (Nat.le_trans (by decide) hd) E rfl (fun _ => pw_iV rfl rfl rfl rfl (pw_cellI f14h rfl)) (rfl : pm_ent 19 = some (3, 3, 2, 1, pmc_19)) rfl rfl (cm_19 (pw_dp hd (by decide)) I 10 (by unfold pw_Lg; omega) (k) (by omega) (by omega) (mo) (by omega) (by omega)) ?_
          rintro u16 v15 ⟨rfl, x17, rfl, hx17a, hx17b⟩
          refine ⟨_, rfl, ?_⟩
          show pw X d h 129 24 [some (.ref 16), some (pw_i k), some (pw_i mo)] [pw_i x17] _
          refine pw_if E (pc' := 29) rfl (by decide) (by omega) (by omega) ?_ ?_
          · intro hc18
            change x17 = (0 : Int) at hc18
            refine pw_ld E (pc' := 30) (st' := [.ref 16]) rfl (fun _ => rfl) ?_
            refine pw_getR (b := 26) I E (c := 0) (k := 2) (pc' := 33) rfl rfl rfl rfl rfl rfl rfl ?_
            refine pw_ld E (pc' := 34) (st' := [pw_i k, .ref 26]) rfl (fun _ => rfl) ?_
            refine pw_ld E (pc' := 35) (st' := [pw_i mo, pw_i k, .ref 26]) rfl (fun _ => rfl) ?_
            refine pw_ld E (pc' := 36) (st' := [.ref 16, pw_i mo, pw_i k, .ref 26]) rfl (fun _ => rfl) ?_
            refine pw_getI2 I E (c := 0) (k := 6) (pc' := 39) rfl rfl rfl rfl rfl rfl (fun hf19a hf19b => ?_)
            obtain ⟨f20l, f20h, -⟩ := pw_obj (c := 10) I rfl
            refine pw_call (m' := 20) (As := [.ref 26, pw_i k, pw_i mo, pw_i (pw_g h 0 6)]) (rest := []) (ls'' := [some (.ref 26), some (pw_i k), some (pw_i mo), some (pw_i (pw_g h 0 6))]) (Nat.le_trans (by decide) hd) E rfl (fun _ => pw_iV rfl rfl rfl rfl (pw_cellI f20h rfl)) (rfl : pm_ent 20 = some (4, 4, 2, 0, pmc_20)) rfl rfl (cm_20 (pw_dp hd (by decide)) I 10 (by unfold pw_Lg; omega) (k) (by omega) (by omega) (mo) (by omega) (by omega) (pw_g h 0 6) (by omega) (by omega)) ?_
            rintro u22 v21 ⟨rfl, x23, rfl, hx23a, hx23b⟩
            refine ⟨_, rfl, ?_⟩
            show pw X d h 129 42 [some (.ref 16), some (pw_i k), some (pw_i mo)] [pw_i x23] _
            refine pw_iret E rfl ?_
            exact ⟨rfl, ⟨_, rfl, by omega, by omega⟩⟩
          · intro hc24
            change ¬ (x17 = (0 : Int)) at hc24
            refine pw_ld E (pc' := 28) (st' := [pw_i ((-1))]) rfl (fun _ => rfl) ?_
            refine pw_iret E rfl ?_
            exact ⟨rfl, ⟨_, rfl, by omega, by omega⟩⟩
      · skip
        refine pw_if E (pc' := 27) rfl (by decide) (by omega) (by omega) ?_ ?_
        · intro hc26
          change x10 = (0 : Int) at hc26
          refine pw_ld E (pc' := 28) (st' := [pw_i ((-1))]) rfl (fun _ => rfl) ?_
          refine pw_iret E rfl ?_
          exact ⟨rfl, ⟨_, rfl, by omega, by omega⟩⟩
        · intro hc27
          change ¬ (x10 = (0 : Int)) at hc27
          exfalso; omega
  · skip
    refine pw_if E (pc' := 27) rfl (by decide) (by omega) (by omega) ?_ ?_
    · intro hc29
      change x4 = (0 : Int) at hc29
      refine pw_ld E (pc' := 28) (st' := [pw_i ((-1))]) rfl (fun _ => rfl) ?_
      refine pw_iret E rfl ?_
      exact ⟨rfl, ⟨_, rfl, by omega, by omega⟩⟩
    · intro hc30
      change ¬ (x4 = (0 : Int)) at hc30
      exfalso; omega
set_option maxHeartbeats 4000000 in
theorem cm_138 {X : List (Nat × List Value)} {d : Nat} {h : pm_H} (hd : 4 ≤ d) (I : pw_I h) (b : Int) (hb1 : 0 ≤ b) (hb2 : b ≤ 11) (e : Int) (he1 : 0 ≤ e) (he2 : e ≤ 11) : pw X d h 138 0 [some (.ref 16), some (pw_i b), some (pw_i e), none] [] (fun h' v => pw_I h' ∧ pw_E [17, 18] h h' ∧ v = .inl none) := by
  have E : pm_ent 138 = some (3, 4, 11, 4, pmc_138) := rfl
  have E0 : pw_E [17, 18] h h := pw_E.rf _ _
  refine pw_ld E (pc' := 1) (st' := [.ref 16]) rfl (fun _ => rfl) ?_
  refine pw_getR (b := 32) I E (c := 0) (k := 7) (pc' := 4) rfl rfl rfl rfl rfl rfl rfl ?_
  obtain ⟨f1l, f1h, -⟩ := pw_obj (c := 16) I rfl
  refine pw_call (m' := 81) (As := [.ref 32]) (rest := []) (ls'' := [some (.ref 32)]) (Nat.le_trans (by decide) hd) E rfl (fun _ => pw_iV rfl rfl rfl rfl (pw_cellI f1h rfl)) (rfl : pm_ent 81 = some (1, 1, 8, 4, pmc_81)) rfl rfl (cm_81 (pw_dp hd (by decide)) I ) ?_
  rintro h2 v3 ⟨h2I, h2E, rfl⟩
  refine ⟨_, rfl, ?_⟩
  have h2F := E0.tr (h2E.wk (W' := [17, 18]) (by first | rfl | simp))
  show pw X d h2 138 7 [some (.ref 16), some (pw_i b), some (pw_i e), none] [] _
  refine pw_ld E (pc' := 8) (st' := [pw_i 0]) rfl (fun _ => rfl) ?_
  refine pw_istn E (pc' := 9) (ls' := [some (.ref 16), some (pw_i b), some (pw_i e), some (pw_i 0)]) rfl rfl rfl rfl ?_
  have L9 : ∀ (n9 : Nat) (k9_3 : Int) (h9 : pm_H), pw_I h9 → pw_E [17, 18] h h9 → 0 ≤ k9_3 → k9_3 ≤ 24 → (24 - k9_3).toNat = n9 → pw X d h9 138 9 [some (.ref 16), some (pw_i b), some (pw_i e), some (pw_i k9_3)] [] (fun h' v => pw_I h' ∧ pw_E [17, 18] h h' ∧ v = .inl none) := by
    intro n9
    induction n9 using Nat.strongRecOn with
    | ind n9 ih9 =>
      intro k9_3 h9 I9 E9 k9_3a k9_3b hm9
      refine pw_ld E (pc' := 10) (st' := [pw_i k9_3]) rfl (fun _ => rfl) ?_
      refine pw_bip E (pc' := 12) rfl rfl (by decide) ?_
      refine pw_if2 E (pc' := 75) rfl (by decide) (by omega) (by omega) (by decide) (by decide) ?_ ?_
      · intro hc4
        change (24 : Int) ≤ k9_3 at hc4
        refine pw_vret E rfl ?_
        exact ⟨I9, E9, rfl⟩
      · intro hc5
        change ¬ ((24 : Int) ≤ k9_3) at hc5
        refine pw_ld E (pc' := 16) (st' := [.ref 16]) rfl (fun _ => rfl) ?_
        refine pw_getR (b := 17) I9 E (c := 0) (k := 0) (pc' := 19) rfl rfl rfl rfl rfl rfl rfl ?_
        refine pw_ld E (pc' := 20) (st' := [pw_i k9_3, .ref 17]) rfl (fun _ => rfl) ?_
        obtain ⟨f6l, f6h, -⟩ := pw_obj (c := 1) I9 rfl
        refine pw_call (m' := 59) (As := [.ref 17, pw_i k9_3]) (rest := []) (ls'' := [some (.ref 17), some (pw_i k9_3)]) (Nat.le_trans (by decide) hd) E rfl (fun _ => pw_iV rfl rfl rfl rfl (pw_cellI f6h rfl)) (rfl : pm_ent 59 = some (2, 2, 6, 1, pmc_59)) rfl rfl (cm_59 (pw_dp hd (by decide)) I9 (k9_3) (by omega) (by omega)) ?_
        rintro u8 v7 ⟨rfl, x9, rfl, hx9a, hx9b, hx9r⟩
        refine ⟨_, rfl, ?_⟩
        show pw X d h9 138 23 [some (.ref 16), some (pw_i b), some (pw_i e), some (pw_i k9_3)] [pw_i x9] _
        change x9 = pw_g h9 2 k9_3.toNat at hx9r
        rcases (by omega : x9 = 1 ∨ x9 = 0) with hb10 | hb10
        · skip
          refine pw_if E (pc' := 69) rfl (by decide) (by omega) (by omega) ?_ ?_
          · intro hc11
            change x9 = (0 : Int) at hc11
            exfalso; omega
          · intro hc12
            change ¬ (x9 = (0 : Int)) at hc12
            refine pw_ld E (pc' := 27) (st' := [.ref 16]) rfl (fun _ => rfl) ?_
            refine pw_getR (b := 26) I9 E (c := 0) (k := 2) (pc' := 30) rfl rfl rfl rfl rfl rfl rfl ?_
            refine pw_ld E (pc' := 31) (st' := [pw_i k9_3, .ref 26]) rfl (fun _ => rfl) ?_
            refine pw_ld E (pc' := 32) (st' := [pw_i b, pw_i k9_3, .ref 26]) rfl (fun _ => rfl) ?_
            refine pw_ld E (pc' := 33) (st' := [pw_i e, pw_i b, pw_i k9_3, .ref 26]) rfl (fun _ => rfl) ?_
            obtain ⟨f13l, f13h, -⟩ := pw_obj (c := 10) I9 rfl
            refine pw_call (m' := 23) (As := [.ref 26, pw_i k9_3, pw_i b, pw_i e]) (rest := []) (ls'' := [some (.ref 26), some (pw_i k9_3), some (pw_i b), some (pw_i e)]) (Nat.le_trans (by decide) hd) E rfl (fun _ => pw_iV rfl rfl rfl rfl (pw_cellI f13h rfl)) (rfl : pm_ent 23 = some (4, 4, 2, 1, pmc_23)) rfl rfl (cm_23 (pw_dp hd (by decide)) I9 10 (by unfold pw_Lg; omega) (k9_3) (by omega) (by omega) (b) (by omega) (by omega) (e) (by omega) (by omega)) ?_
            rintro u15 v14 ⟨rfl, x16, rfl, hx16a, hx16b⟩
            refine ⟨_, rfl, ?_⟩
            show pw X d h9 138 36 [some (.ref 16), some (pw_i b), some (pw_i e), some (pw_i k9_3)] [pw_i x16] _
            refine pw_if E (pc' := 69) rfl (by decide) (by omega) (by omega) ?_ ?_
            · intro hc17
              change x16 = (0 : Int) at hc17
              refine pw_inc E (pc' := 72) (ls' := [some (.ref 16), some (pw_i b), some (pw_i e), some (pw_i (k9_3 + 1))]) rfl rfl rfl rfl ?_
              refine pw_goto E (pc' := 9) rfl (by decide) ?_
              exact ih9 _ (by omega) (k9_3 + 1) h9 I9 E9 (by omega) (by omega)  rfl
            · intro hc18
              change ¬ (x16 = (0 : Int)) at hc18
              refine pw_ld E (pc' := 40) (st' := [.ref 16]) rfl (fun _ => rfl) ?_
              refine pw_getR (b := 32) I9 E (c := 0) (k := 7) (pc' := 43) rfl rfl rfl rfl rfl rfl rfl ?_
              refine pw_ld E (pc' := 44) (st' := [pw_i k9_3, .ref 32]) rfl (fun _ => rfl) ?_
              refine pw_ld E (pc' := 45) (st' := [.ref 16, pw_i k9_3, .ref 32]) rfl (fun _ => rfl) ?_
              refine pw_getR (b := 17) I9 E (c := 0) (k := 0) (pc' := 48) rfl rfl rfl rfl rfl rfl rfl ?_
              refine pw_ld E (pc' := 49) (st' := [pw_i k9_3, .ref 17, pw_i k9_3, .ref 32]) rfl (fun _ => rfl) ?_
              obtain ⟨f19l, f19h, -⟩ := pw_obj (c := 1) I9 rfl
              refine pw_call (m' := 60) (As := [.ref 17, pw_i k9_3]) (rest := [pw_i k9_3, .ref 32]) (ls'' := [some (.ref 17), some (pw_i k9_3)]) (Nat.le_trans (by decide) hd) E rfl (fun _ => pw_iV rfl rfl rfl rfl (pw_cellI f19h rfl)) (rfl : pm_ent 60 = some (2, 2, 6, 0, pmc_60)) rfl rfl (cm_60 (pw_dp hd (by decide)) I9 (k9_3) (by omega) (by omega)) ?_
              rintro u21 v20 ⟨rfl, x22, rfl, hx22a, hx22b, hx22r⟩
              refine ⟨_, rfl, ?_⟩
              show pw X d h9 138 52 [some (.ref 16), some (pw_i b), some (pw_i e), some (pw_i k9_3)] [pw_i x22, pw_i k9_3, .ref 32] _
              change x22 = pw_g h9 4 k9_3.toNat at hx22r
              refine pw_ld E (pc' := 53) (st' := [.ref 16, pw_i x22, pw_i k9_3, .ref 32]) rfl (fun _ => rfl) ?_
              refine pw_getR (b := 26) I9 E (c := 0) (k := 2) (pc' := 56) rfl rfl rfl rfl rfl rfl rfl ?_
              refine pw_ld E (pc' := 57) (st' := [pw_i k9_3, .ref 26, pw_i x22, pw_i k9_3, .ref 32]) rfl (fun _ => rfl) ?_
              refine pw_ld E (pc' := 58) (st' := [pw_i b, pw_i k9_3, .ref 26, pw_i x22, pw_i k9_3, .ref 32]) rfl (fun _ => rfl) ?_
              refine pw_ld E (pc' := 59) (st' := [pw_i e, pw_i b, pw_i k9_3, .ref 26, pw_i x22, pw_i k9_3, .ref 32]) rfl (fun _ => rfl) ?_
              refine pw_ld E (pc' := 60) (st' := [.ref 16, pw_i e, pw_i b, pw_i k9_3, .ref 26, pw_i x22, pw_i k9_3, .ref 32]) rfl (fun _ => rfl) ?_
              refine pw_getI2 I9 E (c := 0) (k := 6) (pc' := 63) rfl rfl rfl rfl rfl rfl (fun hf23a hf23b => ?_)
              obtain ⟨f24l, f24h, -⟩ := pw_obj (c := 10) I9 rfl
              refine pw_call (m' := 24) (As := [.ref 26, pw_i k9_3, pw_i b, pw_i e, pw_i (pw_g h9 0 6)]) (rest := [pw_i x22, pw_i k9_3, .ref 32]) (ls'' := [some (.ref 26), some (pw_i k9_3), some (pw_i b), some (pw_i e), some (pw_i (pw_g h9 0 6))]) (Nat.le_trans (by decide) hd) E rfl (fun _ => pw_iV rfl rfl rfl rfl (pw_cellI f24h rfl)) (rfl : pm_ent 24 = some (5, 5, 2, 0, pmc_24)) rfl rfl (cm_24 (pw_dp hd (by decide)) I9 10 (by unfold pw_Lg; omega) (k9_3) (by omega) (by omega) (b) (by omega) (by omega) (e) (by omega) (by omega) (pw_g h9 0 6) (by omega) (by omega)) ?_
              rintro u26 v25 ⟨rfl, x27, rfl, hx27a, hx27b⟩
              refine ⟨_, rfl, ?_⟩
              show pw X d h9 138 66 [some (.ref 16), some (pw_i b), some (pw_i e), some (pw_i k9_3)] [pw_i x27, pw_i x22, pw_i k9_3, .ref 32] _
              obtain ⟨f28l, f28h, -⟩ := pw_obj (c := 16) I9 rfl
              refine pw_call (m' := 82) (As := [.ref 32, pw_i k9_3, pw_i x22, pw_i x27]) (rest := []) (ls'' := [some (.ref 32), some (pw_i k9_3), some (pw_i x22), some (pw_i x27)]) (Nat.le_trans (by decide) hd) E rfl (fun _ => pw_iV rfl rfl rfl rfl (pw_cellI f28h rfl)) (rfl : pm_ent 82 = some (4, 4, 8, 4, pmc_82)) rfl rfl (cm_82 (pw_dp hd (by decide)) I9 (k9_3) (by omega) (by omega) (x22) (by omega) (by omega) (x27) (by omega) (by omega)) ?_
              rintro h29 v30 ⟨h29I, h29E, rfl⟩
              refine ⟨_, rfl, ?_⟩
              have h29F := E9.tr (h29E.wk (W' := [17, 18]) (by first | rfl | simp))
              show pw X d h29 138 69 [some (.ref 16), some (pw_i b), some (pw_i e), some (pw_i k9_3)] [] _
              refine pw_inc E (pc' := 72) (ls' := [some (.ref 16), some (pw_i b), some (pw_i e), some (pw_i (k9_3 + 1))]) rfl rfl rfl rfl ?_
              refine pw_goto E (pc' := 9) rfl (by decide) ?_
              exact ih9 _ (by omega) (k9_3 + 1) h29 h29I h29F (by omega) (by omega)  rfl
        · skip
          refine pw_if E (pc' := 69) rfl (by decide) (by omega) (by omega) ?_ ?_
          · intro hc32
            change x9 = (0 : Int) at hc32
            refine pw_inc E (pc' := 72) (ls' := [some (.ref 16), some (pw_i b), some (pw_i e), some (pw_i (k9_3 + 1))]) rfl rfl rfl rfl ?_
            refine pw_goto E (pc' := 9) rfl (by decide) ?_
            exact ih9 _ (by omega) (k9_3 + 1) h9 I9 E9 (by omega) (by omega)  rfl
          · intro hc33
            change ¬ (x9 = (0 : Int)) at hc33
            exfalso; omega
  exact L9 _ (0) h2 h2I h2F (by omega) (by omega)  rfl
set_option maxHeartbeats 4000000 in
theorem cm_133 {X : List (Nat × List Value)} {d : Nat} {h : pm_H} (hd : 3 ≤ d) (I : pw_I h) (k : Int) (hk1 : 0 ≤ k) (hk2 : k ≤ 23) (mo : Int) (hmo1 : 0 ≤ mo) (hmo2 : mo ≤ 11) (z : Int) (hz1 : 0 ≤ z) (hz2 : z ≤ 1) : pw X d h 133 0 [some (.ref 16), some (pw_i k), some (pw_i mo), some (pw_i z)] [] (fun h' v => h = h' ∧ ∃ a : Int, v = .inl (some (pw_i a)) ∧ (-2147483648) ≤ a ∧ a ≤ 2147483647) := by
  have E : pm_ent 133 = some (4, 4, 11, 0, pmc_133) := rfl
  refine pw_ld E (pc' := 1) (st' := [.ref 16]) rfl (fun _ => rfl) ?_
  refine pw_getR (b := 26) I E (c := 0) (k := 2) (pc' := 4) rfl rfl rfl rfl rfl rfl rfl ?_
  refine pw_ld E (pc' := 5) (st' := [pw_i k, .ref 26]) rfl (fun _ => rfl) ?_
  refine pw_ld E (pc' := 6) (st' := [pw_i mo, pw_i k, .ref 26]) rfl (fun _ => rfl) ?_
  obtain ⟨f1l, f1h, -⟩ := pw_obj (c := 10) I rfl
  refine pw_call (m' := 19) (As := [.ref 26, pw_i k, pw_i mo]) (rest := []) (ls'' := [some (.ref 26), some (pw_i k), some (pw_i mo)]) (Nat.le_trans (by decide) hd) E rfl (fun _ => pw_iV rfl rfl rfl rfl (pw_cellI f1h rfl)) (rfl : pm_ent 19 = some (3, 3, 2, 1, pmc_19)) rfl rfl (cm_19 (pw_dp hd (by decide)) I 10 (by unfold pw_Lg; omega) (k) (by omega) (by omega) (mo) (by omega) (by omega)) ?_
  rintro u3 v2 ⟨rfl, x4, rfl, hx4a, hx4b⟩
  refine ⟨_, rfl, ?_⟩
  show pw X d h 133 9 [some (.ref 16), some (pw_i k), some (pw_i mo), some (pw_i z)] [pw_i x4] _
  refine pw_if E (pc' := 26) rfl (by decide) (by omega) (by omega) ?_ ?_
  · intro hc5
    change x4 ≠ (0 : Int) at hc5
    refine pw_ld E (pc' := 27) (st' := [pw_i z]) rfl (fun _ => rfl) ?_
    refine pw_if E (pc' := 44) rfl (by decide) (by omega) (by omega) ?_ ?_
    · intro hc6
      change z = (0 : Int) at hc6
      refine pw_ld E (pc' := 45) (st' := [pw_i 0]) rfl (fun _ => rfl) ?_
      refine pw_iret E rfl ?_
      exact ⟨rfl, ⟨_, rfl, by omega, by omega⟩⟩
    · intro hc7
      change ¬ (z = (0 : Int)) at hc7
      refine pw_bip E (pc' := 32) rfl rfl (by decide) ?_
      refine pw_ld E (pc' := 33) (st' := [.ref 16, pw_i 10]) rfl (fun _ => rfl) ?_
      refine pw_getR (b := 17) I E (c := 0) (k := 0) (pc' := 36) rfl rfl rfl rfl rfl rfl rfl ?_
      refine pw_ld E (pc' := 37) (st' := [pw_i k, .ref 17, pw_i 10]) rfl (fun _ => rfl) ?_
      obtain ⟨f8l, f8h, -⟩ := pw_obj (c := 1) I rfl
      refine pw_call (m' := 61) (As := [.ref 17, pw_i k]) (rest := [pw_i 10]) (ls'' := [some (.ref 17), some (pw_i k)]) (Nat.le_trans (by decide) hd) E rfl (fun _ => pw_iV rfl rfl rfl rfl (pw_cellI f8h rfl)) (rfl : pm_ent 61 = some (2, 2, 6, 0, pmc_61)) rfl rfl (cm_61 (pw_dp hd (by decide)) I (k) (by omega) (by omega)) ?_
      rintro u10 v9 ⟨rfl, x11, rfl, hx11a, hx11b, hx11r⟩
      refine ⟨_, rfl, ?_⟩
      show pw X d h 133 40 [some (.ref 16), some (pw_i k), some (pw_i mo), some (pw_i z)] [pw_i x11, pw_i 10] _
      change x11 = pw_g h 6 k.toNat at hx11r
      refine pw_mul E (pc' := 41) rfl rfl ?_
      refine pw_goto E (pc' := 45) rfl (by decide) ?_
      refine pw_iret E rfl ?_
      exact ⟨rfl, ⟨_, rfl, by omega, by omega⟩⟩
  · intro hc12
    change ¬ (x4 ≠ (0 : Int)) at hc12
    refine pw_ld E (pc' := 13) (st' := [.ref 16]) rfl (fun _ => rfl) ?_
    refine pw_getR (b := 26) I E (c := 0) (k := 2) (pc' := 16) rfl rfl rfl rfl rfl rfl rfl ?_
    refine pw_ld E (pc' := 17) (st' := [pw_i k, .ref 26]) rfl (fun _ => rfl) ?_
    refine pw_ld E (pc' := 18) (st' := [pw_i mo, pw_i k, .ref 26]) rfl (fun _ => rfl) ?_
    refine pw_ld E (pc' := 19) (st' := [.ref 16, pw_i mo, pw_i k, .ref 26]) rfl (fun _ => rfl) ?_
    refine pw_getI2 I E (c := 0) (k := 6) (pc' := 22) rfl rfl rfl rfl rfl rfl (fun hf13a hf13b => ?_)
    obtain ⟨f14l, f14h, -⟩ := pw_obj (c := 10) I rfl
    refine pw_call (m' := 20) (As := [.ref 26, pw_i k, pw_i mo, pw_i (pw_g h 0 6)]) (rest := []) (ls'' := [some (.ref 26), some (pw_i k), some (pw_i mo), some (pw_i (pw_g h 0 6))]) (Nat.le_trans (by decide) hd) E rfl (fun _ => pw_iV rfl rfl rfl rfl (pw_cellI f14h rfl)) (rfl : pm_ent 20 = some (4, 4, 2, 0, pmc_20)) rfl rfl (cm_20 (pw_dp hd (by decide)) I 10 (by unfold pw_Lg; omega) (k) (by omega) (by omega) (mo) (by omega) (by omega) (pw_g h 0 6) (by omega) (by omega)) ?_
    rintro u16 v15 ⟨rfl, x17, rfl, hx17a, hx17b⟩
    refine ⟨_, rfl, ?_⟩
    show pw X d h 133 25 [some (.ref 16), some (pw_i k), some (pw_i mo), some (pw_i z)] [pw_i x17] _
    refine pw_iret E rfl ?_
    exact ⟨rfl, ⟨_, rfl, by omega, by omega⟩⟩
set_option maxHeartbeats 4000000 in
theorem cm_132 {X : List (Nat × List Value)} {d : Nat} {h : pm_H} (hd : 4 ≤ d) (I : pw_I h) (b : Int) (hb1 : 0 ≤ b) (hb2 : b ≤ 11) (e : Int) (he1 : 0 ≤ e) (he2 : e ≤ 11) (z : Int) (hz1 : 0 ≤ z) (hz2 : z ≤ 1) : pw X d h 132 0 [some (.ref 16), some (pw_i b), some (pw_i e), some (pw_i z), none, none, none] [] (fun h' v => pw_I h' ∧ pw_E [17, 18] h h' ∧ v = .inl none) := by
  have E : pm_ent 132 = some (4, 7, 11, 4, pmc_132) := rfl
  have E0 : pw_E [17, 18] h h := pw_E.rf _ _
  refine pw_ld E (pc' := 1) (st' := [.ref 16]) rfl (fun _ => rfl) ?_
  refine pw_getR (b := 32) I E (c := 0) (k := 7) (pc' := 4) rfl rfl rfl rfl rfl rfl rfl ?_
  obtain ⟨f1l, f1h, -⟩ := pw_obj (c := 16) I rfl
  refine pw_call (m' := 81) (As := [.ref 32]) (rest := []) (ls'' := [some (.ref 32)]) (Nat.le_trans (by decide) hd) E rfl (fun _ => pw_iV rfl rfl rfl rfl (pw_cellI f1h rfl)) (rfl : pm_ent 81 = some (1, 1, 8, 4, pmc_81)) rfl rfl (cm_81 (pw_dp hd (by decide)) I ) ?_
  rintro h2 v3 ⟨h2I, h2E, rfl⟩
  refine ⟨_, rfl, ?_⟩
  have h2F := E0.tr (h2E.wk (W' := [17, 18]) (by first | rfl | simp))
  show pw X d h2 132 7 [some (.ref 16), some (pw_i b), some (pw_i e), some (pw_i z), none, none, none] [] _
  refine pw_ld E (pc' := 8) (st' := [pw_i 0]) rfl (fun _ => rfl) ?_
  refine pw_ist E (pc' := 10) (ls' := [some (.ref 16), some (pw_i b), some (pw_i e), some (pw_i z), some (pw_i 0), none, none]) rfl rfl rfl rfl ?_
  have L10 : ∀ (n10 : Nat) (k10_4 : Int) (k10_5 : Option Value) (k10_6 : Option Value) (h10 : pm_H), pw_I h10 → pw_E [17, 18] h h10 → 0 ≤ k10_4 → k10_4 ≤ 24 → (24 - k10_4).toNat = n10 → pw X d h10 132 10 [some (.ref 16), some (pw_i b), some (pw_i e), some (pw_i z), some (pw_i k10_4), k10_5, k10_6] [] (fun h' v => pw_I h' ∧ pw_E [17, 18] h h' ∧ v = .inl none) := by
    intro n10
    induction n10 using Nat.strongRecOn with
    | ind n10 ih10 =>
      intro k10_4 k10_5 k10_6 h10 I10 E10 k10_4a k10_4b hm10
      refine pw_ld E (pc' := 12) (st' := [pw_i k10_4]) rfl (fun _ => rfl) ?_
      refine pw_bip E (pc' := 14) rfl rfl (by decide) ?_
      refine pw_if2 E (pc' := 112) rfl (by decide) (by omega) (by omega) (by decide) (by decide) ?_ ?_
      · intro hc4
        change (24 : Int) ≤ k10_4 at hc4
        refine pw_vret E rfl ?_
        exact ⟨I10, E10, rfl⟩
      · intro hc5
        change ¬ ((24 : Int) ≤ k10_4) at hc5
        refine pw_ld E (pc' := 18) (st' := [.ref 16]) rfl (fun _ => rfl) ?_
        refine pw_getR (b := 17) I10 E (c := 0) (k := 0) (pc' := 21) rfl rfl rfl rfl rfl rfl rfl ?_
        refine pw_ld E (pc' := 23) (st' := [pw_i k10_4, .ref 17]) rfl (fun _ => rfl) ?_
        obtain ⟨f6l, f6h, -⟩ := pw_obj (c := 1) I10 rfl
        refine pw_call (m' := 59) (As := [.ref 17, pw_i k10_4]) (rest := []) (ls'' := [some (.ref 17), some (pw_i k10_4)]) (Nat.le_trans (by decide) hd) E rfl (fun _ => pw_iV rfl rfl rfl rfl (pw_cellI f6h rfl)) (rfl : pm_ent 59 = some (2, 2, 6, 1, pmc_59)) rfl rfl (cm_59 (pw_dp hd (by decide)) I10 (k10_4) (by omega) (by omega)) ?_
        rintro u8 v7 ⟨rfl, x9, rfl, hx9a, hx9b, hx9r⟩
        refine ⟨_, rfl, ?_⟩
        show pw X d h10 132 26 [some (.ref 16), some (pw_i b), some (pw_i e), some (pw_i z), some (pw_i k10_4), k10_5, k10_6] [pw_i x9] _
        change x9 = pw_g h10 2 k10_4.toNat at hx9r
        rcases (by omega : x9 = 1 ∨ x9 = 0) with hb10 | hb10
        · skip
          refine pw_if E (pc' := 106) rfl (by decide) (by omega) (by omega) ?_ ?_
          · intro hc11
            change x9 = (0 : Int) at hc11
            exfalso; omega
          · intro hc12
            change ¬ (x9 = (0 : Int)) at hc12
            refine pw_ld E (pc' := 30) (st' := [.ref 16]) rfl (fun _ => rfl) ?_
            refine pw_getR (b := 17) I10 E (c := 0) (k := 0) (pc' := 33) rfl rfl rfl rfl rfl rfl rfl ?_
            refine pw_ld E (pc' := 35) (st' := [pw_i k10_4, .ref 17]) rfl (fun _ => rfl) ?_
            obtain ⟨f13l, f13h, -⟩ := pw_obj (c := 1) I10 rfl
            refine pw_call (m' := 60) (As := [.ref 17, pw_i k10_4]) (rest := []) (ls'' := [some (.ref 17), some (pw_i k10_4)]) (Nat.le_trans (by decide) hd) E rfl (fun _ => pw_iV rfl rfl rfl rfl (pw_cellI f13h rfl)) (rfl : pm_ent 60 = some (2, 2, 6, 0, pmc_60)) rfl rfl (cm_60 (pw_dp hd (by decide)) I10 (k10_4) (by omega) (by omega)) ?_
            rintro u15 v14 ⟨rfl, x16, rfl, hx16a, hx16b, hx16r⟩
            refine ⟨_, rfl, ?_⟩
            show pw X d h10 132 38 [some (.ref 16), some (pw_i b), some (pw_i e), some (pw_i z), some (pw_i k10_4), k10_5, k10_6] [pw_i x16] _
            change x16 = pw_g h10 4 k10_4.toNat at hx16r
            refine pw_if E (pc' := 45) rfl (by decide) (by omega) (by omega) ?_ ?_
            · intro hc17
              change x16 ≠ (0 : Int) at hc17
              refine pw_ld E (pc' := 46) (st' := [pw_i 0]) rfl (fun _ => rfl) ?_
              refine pw_ld E (pc' := 47) (st' := [pw_i z, pw_i 0]) rfl (fun _ => rfl) ?_
              refine pw_if2 E (pc' := 54) rfl (by decide) (by decide) (by decide) (by omega) (by omega) ?_ ?_
              · intro hc18
                change (0 : Int) ≠ z at hc18
                refine pw_ld E (pc' := 55) (st' := [pw_i 0]) rfl (fun _ => rfl) ?_
                refine pw_ist E (pc' := 57) (ls' := [some (.ref 16), some (pw_i b), some (pw_i e), some (pw_i z), some (pw_i k10_4), some (pw_i 0), k10_6]) rfl rfl rfl rfl ?_
                refine pw_ld E (pc' := 58) (st' := [.ref 16]) rfl (fun _ => rfl) ?_
                refine pw_ld E (pc' := 60) (st' := [pw_i k10_4, .ref 16]) rfl (fun _ => rfl) ?_
                refine pw_ld E (pc' := 61) (st' := [pw_i e, pw_i k10_4, .ref 16]) rfl (fun _ => rfl) ?_
                refine pw_ld E (pc' := 63) (st' := [pw_i 0, pw_i e, pw_i k10_4, .ref 16]) rfl (fun _ => rfl) ?_
                obtain ⟨f19l, f19h, -⟩ := pw_obj (c := 0) I10 rfl
                refine pw_call (m' := 133) (As := [.ref 16, pw_i k10_4, pw_i e, pw_i 0]) (rest := []) (ls'' := [some (.ref 16), some (pw_i k10_4), some (pw_i e), some (pw_i 0)]) (Nat.le_trans (by decide) hd) E rfl (fun _ => pw_iV rfl rfl rfl rfl (pw_cellI f19h rfl)) (rfl : pm_ent 133 = some (4, 4, 11, 0, pmc_133)) rfl rfl (cm_133 (pw_dp hd (by decide)) I10 (k10_4) (by omega) (by omega) (e) (by omega) (by omega) (0) (by omega) (by omega)) ?_
                rintro u21 v20 ⟨rfl, x22, rfl, hx22a, hx22b⟩
                refine ⟨_, rfl, ?_⟩
                show pw X d h10 132 66 [some (.ref 16), some (pw_i b), some (pw_i e), some (pw_i z), some (pw_i k10_4), some (pw_i 0), k10_6] [pw_i x22] _
                refine pw_ld E (pc' := 67) (st' := [.ref 16, pw_i x22]) rfl (fun _ => rfl) ?_
                refine pw_ld E (pc' := 69) (st' := [pw_i k10_4, .ref 16, pw_i x22]) rfl (fun _ => rfl) ?_
                refine pw_ld E (pc' := 70) (st' := [pw_i b, pw_i k10_4, .ref 16, pw_i x22]) rfl (fun _ => rfl) ?_
                refine pw_ld E (pc' := 72) (st' := [pw_i 0, pw_i b, pw_i k10_4, .ref 16, pw_i x22]) rfl (fun _ => rfl) ?_
                refine pw_if E (pc' := 79) rfl (by decide) (by decide) (by decide) ?_ ?_
                · intro hc23
                  change (0 : Int) ≠ (0 : Int) at hc23
                  exfalso; omega
                · intro hc24
                  change ¬ ((0 : Int) ≠ (0 : Int)) at hc24
                  refine pw_ld E (pc' := 76) (st' := [pw_i 1, pw_i b, pw_i k10_4, .ref 16, pw_i x22]) rfl (fun _ => rfl) ?_
                  refine pw_goto E (pc' := 80) rfl (by decide) ?_
                  obtain ⟨f25l, f25h, -⟩ := pw_obj (c := 0) I10 rfl
                  refine pw_call (m' := 133) (As := [.ref 16, pw_i k10_4, pw_i b, pw_i 1]) (rest := [pw_i x22]) (ls'' := [some (.ref 16), some (pw_i k10_4), some (pw_i b), some (pw_i 1)]) (Nat.le_trans (by decide) hd) E rfl (fun _ => pw_iV rfl rfl rfl rfl (pw_cellI f25h rfl)) (rfl : pm_ent 133 = some (4, 4, 11, 0, pmc_133)) rfl rfl (cm_133 (pw_dp hd (by decide)) I10 (k10_4) (by omega) (by omega) (b) (by omega) (by omega) (1) (by omega) (by omega)) ?_
                  rintro u27 v26 ⟨rfl, x28, rfl, hx28a, hx28b⟩
                  refine ⟨_, rfl, ?_⟩
                  show pw X d h10 132 83 [some (.ref 16), some (pw_i b), some (pw_i e), some (pw_i z), some (pw_i k10_4), some (pw_i 0), k10_6] [pw_i x28, pw_i x22] _
                  refine pw_sub E (pc' := 84) rfl rfl ?_
                  refine pw_nm (fun x29 hx29a hx29b => ?_)
                  refine pw_ist E (pc' := 86) (ls' := [some (.ref 16), some (pw_i b), some (pw_i e), some (pw_i z), some (pw_i k10_4), some (pw_i 0), some (pw_i x29)]) rfl rfl rfl rfl ?_
                  refine pw_ld E (pc' := 87) (st' := [.ref 16]) rfl (fun _ => rfl) ?_
                  refine pw_getR (b := 32) I10 E (c := 0) (k := 7) (pc' := 90) rfl rfl rfl rfl rfl rfl rfl ?_
                  refine pw_ld E (pc' := 92) (st' := [pw_i k10_4, .ref 32]) rfl (fun _ => rfl) ?_
                  refine pw_ld E (pc' := 93) (st' := [.ref 16, pw_i k10_4, .ref 32]) rfl (fun _ => rfl) ?_
                  refine pw_getR (b := 17) I10 E (c := 0) (k := 0) (pc' := 96) rfl rfl rfl rfl rfl rfl rfl ?_
                  refine pw_ld E (pc' := 98) (st' := [pw_i k10_4, .ref 17, pw_i k10_4, .ref 32]) rfl (fun _ => rfl) ?_
                  obtain ⟨f30l, f30h, -⟩ := pw_obj (c := 1) I10 rfl
                  refine pw_call (m' := 60) (As := [.ref 17, pw_i k10_4]) (rest := [pw_i k10_4, .ref 32]) (ls'' := [some (.ref 17), some (pw_i k10_4)]) (Nat.le_trans (by decide) hd) E rfl (fun _ => pw_iV rfl rfl rfl rfl (pw_cellI f30h rfl)) (rfl : pm_ent 60 = some (2, 2, 6, 0, pmc_60)) rfl rfl (cm_60 (pw_dp hd (by decide)) I10 (k10_4) (by omega) (by omega)) ?_
                  rintro u32 v31 ⟨rfl, x33, rfl, hx33a, hx33b, hx33r⟩
                  refine ⟨_, rfl, ?_⟩
                  show pw X d h10 132 101 [some (.ref 16), some (pw_i b), some (pw_i e), some (pw_i z), some (pw_i k10_4), some (pw_i 0), some (pw_i x29)] [pw_i x33, pw_i k10_4, .ref 32] _
                  change x33 = pw_g h10 4 k10_4.toNat at hx33r
                  refine pw_ld E (pc' := 103) (st' := [pw_i x29, pw_i x33, pw_i k10_4, .ref 32]) rfl (fun _ => rfl) ?_
                  obtain ⟨f34l, f34h, -⟩ := pw_obj (c := 16) I10 rfl
                  refine pw_call (m' := 82) (As := [.ref 32, pw_i k10_4, pw_i x33, pw_i x29]) (rest := []) (ls'' := [some (.ref 32), some (pw_i k10_4), some (pw_i x33), some (pw_i x29)]) (Nat.le_trans (by decide) hd) E rfl (fun _ => pw_iV rfl rfl rfl rfl (pw_cellI f34h rfl)) (rfl : pm_ent 82 = some (4, 4, 8, 4, pmc_82)) rfl rfl (cm_82 (pw_dp hd (by decide)) I10 (k10_4) (by omega) (by omega) (x33) (by omega) (by omega) (x29) (by omega) (by omega)) ?_
                  rintro h35 v36 ⟨h35I, h35E, rfl⟩
                  refine ⟨_, rfl, ?_⟩
                  have h35F := E10.tr (h35E.wk (W' := [17, 18]) (by first | rfl | simp))
                  show pw X d h35 132 106 [some (.ref 16), some (pw_i b), some (pw_i e), some (pw_i z), some (pw_i k10_4), some (pw_i 0), some (pw_i x29)] [] _
                  refine pw_inc E (pc' := 109) (ls' := [some (.ref 16), some (pw_i b), some (pw_i e), some (pw_i z), some (pw_i (k10_4 + 1)), some (pw_i 0), some (pw_i x29)]) rfl rfl rfl rfl ?_
                  refine pw_goto E (pc' := 10) rfl (by decide) ?_
                  exact ih10 _ (by omega) (k10_4 + 1) (some (pw_i 0)) (some (pw_i x29)) h35 h35I h35F (by omega) (by omega)  rfl
              · intro hc37
                change ¬ ((0 : Int) ≠ z) at hc37
                refine pw_ld E (pc' := 51) (st' := [pw_i 1]) rfl (fun _ => rfl) ?_
                refine pw_goto E (pc' := 55) rfl (by decide) ?_
                refine pw_ist E (pc' := 57) (ls' := [some (.ref 16), some (pw_i b), some (pw_i e), some (pw_i z), some (pw_i k10_4), some (pw_i 1), k10_6]) rfl rfl rfl rfl ?_
                refine pw_ld E (pc' := 58) (st' := [.ref 16]) rfl (fun _ => rfl) ?_
                refine pw_ld E (pc' := 60) (st' := [pw_i k10_4, .ref 16]) rfl (fun _ => rfl) ?_
                refine pw_ld E (pc' := 61) (st' := [pw_i e, pw_i k10_4, .ref 16]) rfl (fun _ => rfl) ?_
                refine pw_ld E (pc' := 63) (st' := [pw_i 1, pw_i e, pw_i k10_4, .ref 16]) rfl (fun _ => rfl) ?_
                obtain ⟨f38l, f38h, -⟩ := pw_obj (c := 0) I10 rfl
                refine pw_call (m' := 133) (As := [.ref 16, pw_i k10_4, pw_i e, pw_i 1]) (rest := []) (ls'' := [some (.ref 16), some (pw_i k10_4), some (pw_i e), some (pw_i 1)]) (Nat.le_trans (by decide) hd) E rfl (fun _ => pw_iV rfl rfl rfl rfl (pw_cellI f38h rfl)) (rfl : pm_ent 133 = some (4, 4, 11, 0, pmc_133)) rfl rfl (cm_133 (pw_dp hd (by decide)) I10 (k10_4) (by omega) (by omega) (e) (by omega) (by omega) (1) (by omega) (by omega)) ?_
                rintro u40 v39 ⟨rfl, x41, rfl, hx41a, hx41b⟩
                refine ⟨_, rfl, ?_⟩
                show pw X d h10 132 66 [some (.ref 16), some (pw_i b), some (pw_i e), some (pw_i z), some (pw_i k10_4), some (pw_i 1), k10_6] [pw_i x41] _
                refine pw_ld E (pc' := 67) (st' := [.ref 16, pw_i x41]) rfl (fun _ => rfl) ?_
                refine pw_ld E (pc' := 69) (st' := [pw_i k10_4, .ref 16, pw_i x41]) rfl (fun _ => rfl) ?_
                refine pw_ld E (pc' := 70) (st' := [pw_i b, pw_i k10_4, .ref 16, pw_i x41]) rfl (fun _ => rfl) ?_
                refine pw_ld E (pc' := 72) (st' := [pw_i 1, pw_i b, pw_i k10_4, .ref 16, pw_i x41]) rfl (fun _ => rfl) ?_
                refine pw_if E (pc' := 79) rfl (by decide) (by decide) (by decide) ?_ ?_
                · intro hc42
                  change (1 : Int) ≠ (0 : Int) at hc42
                  refine pw_ld E (pc' := 80) (st' := [pw_i 0, pw_i b, pw_i k10_4, .ref 16, pw_i x41]) rfl (fun _ => rfl) ?_
                  obtain ⟨f43l, f43h, -⟩ := pw_obj (c := 0) I10 rfl
                  refine pw_call (m' := 133) (As := [.ref 16, pw_i k10_4, pw_i b, pw_i 0]) (rest := [pw_i x41]) (ls'' := [some (.ref 16), some (pw_i k10_4), some (pw_i b), some (pw_i 0)]) (Nat.le_trans (by decide) hd) E rfl (fun _ => pw_iV rfl rfl rfl rfl (pw_cellI f43h rfl)) (rfl : pm_ent 133 = some (4, 4, 11, 0, pmc_133)) rfl rfl (cm_133 (pw_dp hd (by decide)) I10 (k10_4) (by omega) (by omega) (b) (by omega) (by omega) (0) (by omega) (by omega)) ?_
                  rintro u45 v44 ⟨rfl, x46, rfl, hx46a, hx46b⟩
                  refine ⟨_, rfl, ?_⟩
                  show pw X d h10 132 83 [some (.ref 16), some (pw_i b), some (pw_i e), some (pw_i z), some (pw_i k10_4), some (pw_i 1), k10_6] [pw_i x46, pw_i x41] _
                  refine pw_sub E (pc' := 84) rfl rfl ?_
                  refine pw_nm (fun x47 hx47a hx47b => ?_)
                  refine pw_ist E (pc' := 86) (ls' := [some (.ref 16), some (pw_i b), some (pw_i e), some (pw_i z), some (pw_i k10_4), some (pw_i 1), some (pw_i x47)]) rfl rfl rfl rfl ?_
                  refine pw_ld E (pc' := 87) (st' := [.ref 16]) rfl (fun _ => rfl) ?_
                  refine pw_getR (b := 32) I10 E (c := 0) (k := 7) (pc' := 90) rfl rfl rfl rfl rfl rfl rfl ?_
                  refine pw_ld E (pc' := 92) (st' := [pw_i k10_4, .ref 32]) rfl (fun _ => rfl) ?_
                  refine pw_ld E (pc' := 93) (st' := [.ref 16, pw_i k10_4, .ref 32]) rfl (fun _ => rfl) ?_
                  refine pw_getR (b := 17) I10 E (c := 0) (k := 0) (pc' := 96) rfl rfl rfl rfl rfl rfl rfl ?_
                  refine pw_ld E (pc' := 98) (st' := [pw_i k10_4, .ref 17, pw_i k10_4, .ref 32]) rfl (fun _ => rfl) ?_
                  obtain ⟨f48l, f48h, -⟩ := pw_obj (c := 1) I10 rfl
                  refine pw_call (m' := 60) (As := [.ref 17, pw_i k10_4]) (rest := [pw_i k10_4, .ref 32]) (ls'' := [some (.ref 17), some (pw_i k10_4)]) (Nat.le_trans (by decide) hd) E rfl (fun _ => pw_iV rfl rfl rfl rfl (pw_cellI f48h rfl)) (rfl : pm_ent 60 = some (2, 2, 6, 0, pmc_60)) rfl rfl (cm_60 (pw_dp hd (by decide)) I10 (k10_4) (by omega) (by omega)) ?_
                  rintro u50 v49 ⟨rfl, x51, rfl, hx51a, hx51b, hx51r⟩
                  refine ⟨_, rfl, ?_⟩
                  show pw X d h10 132 101 [some (.ref 16), some (pw_i b), some (pw_i e), some (pw_i z), some (pw_i k10_4), some (pw_i 1), some (pw_i x47)] [pw_i x51, pw_i k10_4, .ref 32] _
                  change x51 = pw_g h10 4 k10_4.toNat at hx51r
                  refine pw_ld E (pc' := 103) (st' := [pw_i x47, pw_i x51, pw_i k10_4, .ref 32]) rfl (fun _ => rfl) ?_
                  obtain ⟨f52l, f52h, -⟩ := pw_obj (c := 16) I10 rfl
                  refine pw_call (m' := 82) (As := [.ref 32, pw_i k10_4, pw_i x51, pw_i x47]) (rest := []) (ls'' := [some (.ref 32), some (pw_i k10_4), some (pw_i x51), some (pw_i x47)]) (Nat.le_trans (by decide) hd) E rfl (fun _ => pw_iV rfl rfl rfl rfl (pw_cellI f52h rfl)) (rfl : pm_ent 82 = some (4, 4, 8, 4, pmc_82)) rfl rfl (cm_82 (pw_dp hd (by decide)) I10 (k10_4) (by omega) (by omega) (x51) (by omega) (by omega) (x47) (by omega) (by omega)) ?_
                  rintro h53 v54 ⟨h53I, h53E, rfl⟩
                  refine ⟨_, rfl, ?_⟩
                  have h53F := E10.tr (h53E.wk (W' := [17, 18]) (by first | rfl | simp))
                  show pw X d h53 132 106 [some (.ref 16), some (pw_i b), some (pw_i e), some (pw_i z), some (pw_i k10_4), some (pw_i 1), some (pw_i x47)] [] _
                  refine pw_inc E (pc' := 109) (ls' := [some (.ref 16), some (pw_i b), some (pw_i e), some (pw_i z), some (pw_i (k10_4 + 1)), some (pw_i 1), some (pw_i x47)]) rfl rfl rfl rfl ?_
                  refine pw_goto E (pc' := 10) rfl (by decide) ?_
                  exact ih10 _ (by omega) (k10_4 + 1) (some (pw_i 1)) (some (pw_i x47)) h53 h53I h53F (by omega) (by omega)  rfl
                · intro hc55
                  change ¬ ((1 : Int) ≠ (0 : Int)) at hc55
                  exfalso; omega
            · intro hc56
              change ¬ (x16 ≠ (0 : Int)) at hc56
              refine pw_ld E (pc' := 42) (st' := [pw_i 1]) rfl (fun _ => rfl) ?_
              refine pw_goto E (pc' := 46) rfl (by decide) ?_
              refine pw_ld E (pc' := 47) (st' := [pw_i z, pw_i 1]) rfl (fun _ => rfl) ?_
              refine pw_if2 E (pc' := 54) rfl (by decide) (by decide) (by decide) (by omega) (by omega) ?_ ?_
              · intro hc57
                change (1 : Int) ≠ z at hc57
                refine pw_ld E (pc' := 55) (st' := [pw_i 0]) rfl (fun _ => rfl) ?_
                refine pw_ist E (pc' := 57) (ls' := [some (.ref 16), some (pw_i b), some (pw_i e), some (pw_i z), some (pw_i k10_4), some (pw_i 0), k10_6]) rfl rfl rfl rfl ?_
                refine pw_ld E (pc' := 58) (st' := [.ref 16]) rfl (fun _ => rfl) ?_
                refine pw_ld E (pc' := 60) (st' := [pw_i k10_4, .ref 16]) rfl (fun _ => rfl) ?_
                refine pw_ld E (pc' := 61) (st' := [pw_i e, pw_i k10_4, .ref 16]) rfl (fun _ => rfl) ?_
                refine pw_ld E (pc' := 63) (st' := [pw_i 0, pw_i e, pw_i k10_4, .ref 16]) rfl (fun _ => rfl) ?_
                obtain ⟨f58l, f58h, -⟩ := pw_obj (c := 0) I10 rfl
                refine pw_call (m' := 133) (As := [.ref 16, pw_i k10_4, pw_i e, pw_i 0]) (rest := []) (ls'' := [some (.ref 16), some (pw_i k10_4), some (pw_i e), some (pw_i 0)]) (Nat.le_trans (by decide) hd) E rfl (fun _ => pw_iV rfl rfl rfl rfl (pw_cellI f58h rfl)) (rfl : pm_ent 133 = some (4, 4, 11, 0, pmc_133)) rfl rfl (cm_133 (pw_dp hd (by decide)) I10 (k10_4) (by omega) (by omega) (e) (by omega) (by omega) (0) (by omega) (by omega)) ?_
                rintro u60 v59 ⟨rfl, x61, rfl, hx61a, hx61b⟩
                refine ⟨_, rfl, ?_⟩
                show pw X d h10 132 66 [some (.ref 16), some (pw_i b), some (pw_i e), some (pw_i z), some (pw_i k10_4), some (pw_i 0), k10_6] [pw_i x61] _
                refine pw_ld E (pc' := 67) (st' := [.ref 16, pw_i x61]) rfl (fun _ => rfl) ?_
                refine pw_ld E (pc' := 69) (st' := [pw_i k10_4, .ref 16, pw_i x61]) rfl (fun _ => rfl) ?_
                refine pw_ld E (pc' := 70) (st' := [pw_i b, pw_i k10_4, .ref 16, pw_i x61]) rfl (fun _ => rfl) ?_
                refine pw_ld E (pc' := 72) (st' := [pw_i 0, pw_i b, pw_i k10_4, .ref 16, pw_i x61]) rfl (fun _ => rfl) ?_
                refine pw_if E (pc' := 79) rfl (by decide) (by decide) (by decide) ?_ ?_
                · intro hc62
                  change (0 : Int) ≠ (0 : Int) at hc62
                  exfalso; omega
                · intro hc63
                  change ¬ ((0 : Int) ≠ (0 : Int)) at hc63
                  refine pw_ld E (pc' := 76) (st' := [pw_i 1, pw_i b, pw_i k10_4, .ref 16, pw_i x61]) rfl (fun _ => rfl) ?_
                  refine pw_goto E (pc' := 80) rfl (by decide) ?_
                  obtain ⟨f64l, f64h, -⟩ := pw_obj (c := 0) I10 rfl
                  refine pw_call (m' := 133) (As := [.ref 16, pw_i k10_4, pw_i b, pw_i 1]) (rest := [pw_i x61]) (ls'' := [some (.ref 16), some (pw_i k10_4), some (pw_i b), some (pw_i 1)]) (Nat.le_trans (by decide) hd) E rfl (fun _ => pw_iV rfl rfl rfl rfl (pw_cellI f64h rfl)) (rfl : pm_ent 133 = some (4, 4, 11, 0, pmc_133)) rfl rfl (cm_133 (pw_dp hd (by decide)) I10 (k10_4) (by omega) (by omega) (b) (by omega) (by omega) (1) (by omega) (by omega)) ?_
                  rintro u66 v65 ⟨rfl, x67, rfl, hx67a, hx67b⟩
                  refine ⟨_, rfl, ?_⟩
                  show pw X d h10 132 83 [some (.ref 16), some (pw_i b), some (pw_i e), some (pw_i z), some (pw_i k10_4), some (pw_i 0), k10_6] [pw_i x67, pw_i x61] _
                  refine pw_sub E (pc' := 84) rfl rfl ?_
                  refine pw_nm (fun x68 hx68a hx68b => ?_)
                  refine pw_ist E (pc' := 86) (ls' := [some (.ref 16), some (pw_i b), some (pw_i e), some (pw_i z), some (pw_i k10_4), some (pw_i 0), some (pw_i x68)]) rfl rfl rfl rfl ?_
                  refine pw_ld E (pc' := 87) (st' := [.ref 16]) rfl (fun _ => rfl) ?_
                  refine pw_getR (b := 32) I10 E (c := 0) (k := 7) (pc' := 90) rfl rfl rfl rfl rfl rfl rfl ?_
                  refine pw_ld E (pc' := 92) (st' := [pw_i k10_4, .ref 32]) rfl (fun _ => rfl) ?_
                  refine pw_ld E (pc' := 93) (st' := [.ref 16, pw_i k10_4, .ref 32]) rfl (fun _ => rfl) ?_
                  refine pw_getR (b := 17) I10 E (c := 0) (k := 0) (pc' := 96) rfl rfl rfl rfl rfl rfl rfl ?_
                  refine pw_ld E (pc' := 98) (st' := [pw_i k10_4, .ref 17, pw_i k10_4, .ref 32]) rfl (fun _ => rfl) ?_
                  obtain ⟨f69l, f69h, -⟩ := pw_obj (c := 1) I10 rfl
                  refine pw_call (m' := 60) (As := [.ref 17, pw_i k10_4]) (rest := [pw_i k10_4, .ref 32]) (ls'' := [some (.ref 17), some (pw_i k10_4)]) (Nat.le_trans (by decide) hd) E rfl (fun _ => pw_iV rfl rfl rfl rfl (pw_cellI f69h rfl)) (rfl : pm_ent 60 = some (2, 2, 6, 0, pmc_60)) rfl rfl (cm_60 (pw_dp hd (by decide)) I10 (k10_4) (by omega) (by omega)) ?_
                  rintro u71 v70 ⟨rfl, x72, rfl, hx72a, hx72b, hx72r⟩
                  refine ⟨_, rfl, ?_⟩
                  show pw X d h10 132 101 [some (.ref 16), some (pw_i b), some (pw_i e), some (pw_i z), some (pw_i k10_4), some (pw_i 0), some (pw_i x68)] [pw_i x72, pw_i k10_4, .ref 32] _
                  change x72 = pw_g h10 4 k10_4.toNat at hx72r
                  refine pw_ld E (pc' := 103) (st' := [pw_i x68, pw_i x72, pw_i k10_4, .ref 32]) rfl (fun _ => rfl) ?_
                  obtain ⟨f73l, f73h, -⟩ := pw_obj (c := 16) I10 rfl
                  refine pw_call (m' := 82) (As := [.ref 32, pw_i k10_4, pw_i x72, pw_i x68]) (rest := []) (ls'' := [some (.ref 32), some (pw_i k10_4), some (pw_i x72), some (pw_i x68)]) (Nat.le_trans (by decide) hd) E rfl (fun _ => pw_iV rfl rfl rfl rfl (pw_cellI f73h rfl)) (rfl : pm_ent 82 = some (4, 4, 8, 4, pmc_82)) rfl rfl (cm_82 (pw_dp hd (by decide)) I10 (k10_4) (by omega) (by omega) (x72) (by omega) (by omega) (x68) (by omega) (by omega)) ?_
                  rintro h74 v75 ⟨h74I, h74E, rfl⟩
                  refine ⟨_, rfl, ?_⟩
                  have h74F := E10.tr (h74E.wk (W' := [17, 18]) (by first | rfl | simp))
                  show pw X d h74 132 106 [some (.ref 16), some (pw_i b), some (pw_i e), some (pw_i z), some (pw_i k10_4), some (pw_i 0), some (pw_i x68)] [] _
                  refine pw_inc E (pc' := 109) (ls' := [some (.ref 16), some (pw_i b), some (pw_i e), some (pw_i z), some (pw_i (k10_4 + 1)), some (pw_i 0), some (pw_i x68)]) rfl rfl rfl rfl ?_
                  refine pw_goto E (pc' := 10) rfl (by decide) ?_
                  exact ih10 _ (by omega) (k10_4 + 1) (some (pw_i 0)) (some (pw_i x68)) h74 h74I h74F (by omega) (by omega)  rfl
              · intro hc76
                change ¬ ((1 : Int) ≠ z) at hc76
                refine pw_ld E (pc' := 51) (st' := [pw_i 1]) rfl (fun _ => rfl) ?_
                refine pw_goto E (pc' := 55) rfl (by decide) ?_
                refine pw_ist E (pc' := 57) (ls' := [some (.ref 16), some (pw_i b), some (pw_i e), some (pw_i z), some (pw_i k10_4), some (pw_i 1), k10_6]) rfl rfl rfl rfl ?_
                refine pw_ld E (pc' := 58) (st' := [.ref 16]) rfl (fun _ => rfl) ?_
                refine pw_ld E (pc' := 60) (st' := [pw_i k10_4, .ref 16]) rfl (fun _ => rfl) ?_
                refine pw_ld E (pc' := 61) (st' := [pw_i e, pw_i k10_4, .ref 16]) rfl (fun _ => rfl) ?_
                refine pw_ld E (pc' := 63) (st' := [pw_i 1, pw_i e, pw_i k10_4, .ref 16]) rfl (fun _ => rfl) ?_
                obtain ⟨f77l, f77h, -⟩ := pw_obj (c := 0) I10 rfl
                refine pw_call (m' := 133) (As := [.ref 16, pw_i k10_4, pw_i e, pw_i 1]) (rest := []) (ls'' := [some (.ref 16), some (pw_i k10_4), some (pw_i e), some (pw_i 1)]) (Nat.le_trans (by decide) hd) E rfl (fun _ => pw_iV rfl rfl rfl rfl (pw_cellI f77h rfl)) (rfl : pm_ent 133 = some (4, 4, 11, 0, pmc_133)) rfl rfl (cm_133 (pw_dp hd (by decide)) I10 (k10_4) (by omega) (by omega) (e) (by omega) (by omega) (1) (by omega) (by omega)) ?_
                rintro u79 v78 ⟨rfl, x80, rfl, hx80a, hx80b⟩
                refine ⟨_, rfl, ?_⟩
                show pw X d h10 132 66 [some (.ref 16), some (pw_i b), some (pw_i e), some (pw_i z), some (pw_i k10_4), some (pw_i 1), k10_6] [pw_i x80] _
                refine pw_ld E (pc' := 67) (st' := [.ref 16, pw_i x80]) rfl (fun _ => rfl) ?_
                refine pw_ld E (pc' := 69) (st' := [pw_i k10_4, .ref 16, pw_i x80]) rfl (fun _ => rfl) ?_
                refine pw_ld E (pc' := 70) (st' := [pw_i b, pw_i k10_4, .ref 16, pw_i x80]) rfl (fun _ => rfl) ?_
                refine pw_ld E (pc' := 72) (st' := [pw_i 1, pw_i b, pw_i k10_4, .ref 16, pw_i x80]) rfl (fun _ => rfl) ?_
                refine pw_if E (pc' := 79) rfl (by decide) (by decide) (by decide) ?_ ?_
                · intro hc81
                  change (1 : Int) ≠ (0 : Int) at hc81
                  refine pw_ld E (pc' := 80) (st' := [pw_i 0, pw_i b, pw_i k10_4, .ref 16, pw_i x80]) rfl (fun _ => rfl) ?_
                  obtain ⟨f82l, f82h, -⟩ := pw_obj (c := 0) I10 rfl
                  refine pw_call (m' := 133) (As := [.ref 16, pw_i k10_4, pw_i b, pw_i 0]) (rest := [pw_i x80]) (ls'' := [some (.ref 16), some (pw_i k10_4), some (pw_i b), some (pw_i 0)]) (Nat.le_trans (by decide) hd) E rfl (fun _ => pw_iV rfl rfl rfl rfl (pw_cellI f82h rfl)) (rfl : pm_ent 133 = some (4, 4, 11, 0, pmc_133)) rfl rfl (cm_133 (pw_dp hd (by decide)) I10 (k10_4) (by omega) (by omega) (b) (by omega) (by omega) (0) (by omega) (by omega)) ?_
                  rintro u84 v83 ⟨rfl, x85, rfl, hx85a, hx85b⟩
                  refine ⟨_, rfl, ?_⟩
                  show pw X d h10 132 83 [some (.ref 16), some (pw_i b), some (pw_i e), some (pw_i z), some (pw_i k10_4), some (pw_i 1), k10_6] [pw_i x85, pw_i x80] _
                  refine pw_sub E (pc' := 84) rfl rfl ?_
                  refine pw_nm (fun x86 hx86a hx86b => ?_)
                  refine pw_ist E (pc' := 86) (ls' := [some (.ref 16), some (pw_i b), some (pw_i e), some (pw_i z), some (pw_i k10_4), some (pw_i 1), some (pw_i x86)]) rfl rfl rfl rfl ?_
                  refine pw_ld E (pc' := 87) (st' := [.ref 16]) rfl (fun _ => rfl) ?_
                  refine pw_getR (b := 32) I10 E (c := 0) (k := 7) (pc' := 90) rfl rfl rfl rfl rfl rfl rfl ?_
                  refine pw_ld E (pc' := 92) (st' := [pw_i k10_4, .ref 32]) rfl (fun _ => rfl) ?_
                  refine pw_ld E (pc' := 93) (st' := [.ref 16, pw_i k10_4, .ref 32]) rfl (fun _ => rfl) ?_
                  refine pw_getR (b := 17) I10 E (c := 0) (k := 0) (pc' := 96) rfl rfl rfl rfl rfl rfl rfl ?_
                  refine pw_ld E (pc' := 98) (st' := [pw_i k10_4, .ref 17, pw_i k10_4, .ref 32]) rfl (fun _ => rfl) ?_
                  obtain ⟨f87l, f87h, -⟩ := pw_obj (c := 1) I10 rfl
                  refine pw_call (m' := 60) (As := [.ref 17, pw_i k10_4]) (rest := [pw_i k10_4, .ref 32]) (ls'' := [some (.ref 17), some (pw_i k10_4)]) (Nat.le_trans (by decide) hd) E rfl (fun _ => pw_iV rfl rfl rfl rfl (pw_cellI f87h rfl)) (rfl : pm_ent 60 = some (2, 2, 6, 0, pmc_60)) rfl rfl (cm_60 (pw_dp hd (by decide)) I10 (k10_4) (by omega) (by omega)) ?_
                  rintro u89 v88 ⟨rfl, x90, rfl, hx90a, hx90b, hx90r⟩
                  refine ⟨_, rfl, ?_⟩
                  show pw X d h10 132 101 [some (.ref 16), some (pw_i b), some (pw_i e), some (pw_i z), some (pw_i k10_4), some (pw_i 1), some (pw_i x86)] [pw_i x90, pw_i k10_4, .ref 32] _
                  change x90 = pw_g h10 4 k10_4.toNat at hx90r
                  refine pw_ld E (pc' := 103) (st' := [pw_i x86, pw_i x90, pw_i k10_4, .ref 32]) rfl (fun _ => rfl) ?_
                  obtain ⟨f91l, f91h, -⟩ := pw_obj (c := 16) I10 rfl
                  refine pw_call (m' := 82) (As := [.ref 32, pw_i k10_4, pw_i x90, pw_i x86]) (rest := []) (ls'' := [some (.ref 32), some (pw_i k10_4), some (pw_i x90), some (pw_i x86)]) (Nat.le_trans (by decide) hd) E rfl (fun _ => pw_iV rfl rfl rfl rfl (pw_cellI f91h rfl)) (rfl : pm_ent 82 = some (4, 4, 8, 4, pmc_82)) rfl rfl (cm_82 (pw_dp hd (by decide)) I10 (k10_4) (by omega) (by omega) (x90) (by omega) (by omega) (x86) (by omega) (by omega)) ?_
                  rintro h92 v93 ⟨h92I, h92E, rfl⟩
                  refine ⟨_, rfl, ?_⟩
                  have h92F := E10.tr (h92E.wk (W' := [17, 18]) (by first | rfl | simp))
                  show pw X d h92 132 106 [some (.ref 16), some (pw_i b), some (pw_i e), some (pw_i z), some (pw_i k10_4), some (pw_i 1), some (pw_i x86)] [] _
                  refine pw_inc E (pc' := 109) (ls' := [some (.ref 16), some (pw_i b), some (pw_i e), some (pw_i z), some (pw_i (k10_4 + 1)), some (pw_i 1), some (pw_i x86)]) rfl rfl rfl rfl ?_
                  refine pw_goto E (pc' := 10) rfl (by decide) ?_
                  exact ih10 _ (by omega) (k10_4 + 1) (some (pw_i 1)) (some (pw_i x86)) h92 h92I h92F (by omega) (by omega)  rfl
                · intro hc94
                  change ¬ ((1 : Int) ≠ (0 : Int)) at hc94
                  exfalso; omega
        · skip
          refine pw_if E (pc' := 106) rfl (by decide) (by omega) (by omega) ?_ ?_
          · intro hc96
            change x9 = (0 : Int) at hc96
            refine pw_inc E (pc' := 109) (ls' := [some (.ref 16), some (pw_i b), some (pw_i e), some (pw_i z), some (pw_i (k10_4 + 1)), k10_5, k10_6]) rfl rfl rfl rfl ?_
            refine pw_goto E (pc' := 10) rfl (by decide) ?_
            exact ih10 _ (by omega) (k10_4 + 1) k10_5 k10_6 h10 I10 E10 (by omega) (by omega)  rfl
          · intro hc97
            change ¬ (x9 = (0 : Int)) at hc97
            exfalso; omega
  exact L10 _ (0) (none) (none) h2 h2I h2F (by omega) (by omega)  rfl
set_option maxHeartbeats 4000000 in
theorem cm_150 {X : List (Nat × List Value)} {d : Nat} {h : pm_H} (hd : 4 ≤ d) (I : pw_I h) (b : Int) (hb1 : 0 ≤ b) (hb2 : b ≤ 11) (e : Int) (he1 : 0 ≤ e) (he2 : e ≤ 11) : pw X d h 150 0 [some (.ref 16), some (pw_i b), some (pw_i e), none] [] (fun h' v => pw_I h' ∧ pw_E [17, 18] h h' ∧ v = .inl none) := by
  have E : pm_ent 150 = some (3, 4, 11, 4, pmc_150) := rfl
  have E0 : pw_E [17, 18] h h := pw_E.rf _ _
  refine pw_ld E (pc' := 1) (st' := [.ref 16]) rfl (fun _ => rfl) ?_
  refine pw_getR (b := 32) I E (c := 0) (k := 7) (pc' := 4) rfl rfl rfl rfl rfl rfl rfl ?_
  obtain ⟨f1l, f1h, -⟩ := pw_obj (c := 16) I rfl
  refine pw_call (m' := 81) (As := [.ref 32]) (rest := []) (ls'' := [some (.ref 32)]) (Nat.le_trans (by decide) hd) E rfl (fun _ => pw_iV rfl rfl rfl rfl (pw_cellI f1h rfl)) (rfl : pm_ent 81 = some (1, 1, 8, 4, pmc_81)) rfl rfl (cm_81 (pw_dp hd (by decide)) I ) ?_
  rintro h2 v3 ⟨h2I, h2E, rfl⟩
  refine ⟨_, rfl, ?_⟩
  have h2F := E0.tr (h2E.wk (W' := [17, 18]) (by first | rfl | simp))
  show pw X d h2 150 7 [some (.ref 16), some (pw_i b), some (pw_i e), none] [] _
  refine pw_ld E (pc' := 8) (st' := [pw_i 0]) rfl (fun _ => rfl) ?_
  refine pw_istn E (pc' := 9) (ls' := [some (.ref 16), some (pw_i b), some (pw_i e), some (pw_i 0)]) rfl rfl rfl rfl ?_
  have L9 : ∀ (n9 : Nat) (k9_3 : Int) (h9 : pm_H), pw_I h9 → pw_E [17, 18] h h9 → 0 ≤ k9_3 → k9_3 ≤ 24 → (24 - k9_3).toNat = n9 → pw X d h9 150 9 [some (.ref 16), some (pw_i b), some (pw_i e), some (pw_i k9_3)] [] (fun h' v => pw_I h' ∧ pw_E [17, 18] h h' ∧ v = .inl none) := by
    intro n9
    induction n9 using Nat.strongRecOn with
    | ind n9 ih9 =>
      intro k9_3 h9 I9 E9 k9_3a k9_3b hm9
      refine pw_ld E (pc' := 10) (st' := [pw_i k9_3]) rfl (fun _ => rfl) ?_
      refine pw_bip E (pc' := 12) rfl rfl (by decide) ?_
      refine pw_if2 E (pc' := 78) rfl (by decide) (by omega) (by omega) (by decide) (by decide) ?_ ?_
      · intro hc4
        change (24 : Int) ≤ k9_3 at hc4
        refine pw_vret E rfl ?_
        exact ⟨I9, E9, rfl⟩
      · intro hc5
        change ¬ ((24 : Int) ≤ k9_3) at hc5
        refine pw_ld E (pc' := 16) (st' := [.ref 16]) rfl (fun _ => rfl) ?_
        refine pw_getR (b := 17) I9 E (c := 0) (k := 0) (pc' := 19) rfl rfl rfl rfl rfl rfl rfl ?_
        refine pw_ld E (pc' := 20) (st' := [pw_i k9_3, .ref 17]) rfl (fun _ => rfl) ?_
        obtain ⟨f6l, f6h, -⟩ := pw_obj (c := 1) I9 rfl
        refine pw_call (m' := 59) (As := [.ref 17, pw_i k9_3]) (rest := []) (ls'' := [some (.ref 17), some (pw_i k9_3)]) (Nat.le_trans (by decide) hd) E rfl (fun _ => pw_iV rfl rfl rfl rfl (pw_cellI f6h rfl)) (rfl : pm_ent 59 = some (2, 2, 6, 1, pmc_59)) rfl rfl (cm_59 (pw_dp hd (by decide)) I9 (k9_3) (by omega) (by omega)) ?_
        rintro u8 v7 ⟨rfl, x9, rfl, hx9a, hx9b, hx9r⟩
        refine ⟨_, rfl, ?_⟩
        show pw X d h9 150 23 [some (.ref 16), some (pw_i b), some (pw_i e), some (pw_i k9_3)] [pw_i x9] _
        change x9 = pw_g h9 2 k9_3.toNat at hx9r
        rcases (by omega : x9 = 1 ∨ x9 = 0) with hb10 | hb10
        · skip
          refine pw_if E (pc' := 72) rfl (by decide) (by omega) (by omega) ?_ ?_
          · intro hc11
            change x9 = (0 : Int) at hc11
            exfalso; omega
          · intro hc12
            change ¬ (x9 = (0 : Int)) at hc12
            refine pw_ld E (pc' := 27) (st' := [.ref 16]) rfl (fun _ => rfl) ?_
            refine pw_getR (b := 26) I9 E (c := 0) (k := 2) (pc' := 30) rfl rfl rfl rfl rfl rfl rfl ?_
            refine pw_ld E (pc' := 31) (st' := [pw_i k9_3, .ref 26]) rfl (fun _ => rfl) ?_
            refine pw_ld E (pc' := 32) (st' := [pw_i b, pw_i k9_3, .ref 26]) rfl (fun _ => rfl) ?_
            refine pw_ld E (pc' := 33) (st' := [pw_i e, pw_i b, pw_i k9_3, .ref 26]) rfl (fun _ => rfl) ?_
            obtain ⟨f13l, f13h, -⟩ := pw_obj (c := 10) I9 rfl
            refine pw_call (m' := 23) (As := [.ref 26, pw_i k9_3, pw_i b, pw_i e]) (rest := []) (ls'' := [some (.ref 26), some (pw_i k9_3), some (pw_i b), some (pw_i e)]) (Nat.le_trans (by decide) hd) E rfl (fun _ => pw_iV rfl rfl rfl rfl (pw_cellI f13h rfl)) (rfl : pm_ent 23 = some (4, 4, 2, 1, pmc_23)) rfl rfl (cm_23 (pw_dp hd (by decide)) I9 10 (by unfold pw_Lg; omega) (k9_3) (by omega) (by omega) (b) (by omega) (by omega) (e) (by omega) (by omega)) ?_
            rintro u15 v14 ⟨rfl, x16, rfl, hx16a, hx16b⟩
            refine ⟨_, rfl, ?_⟩
            show pw X d h9 150 36 [some (.ref 16), some (pw_i b), some (pw_i e), some (pw_i k9_3)] [pw_i x16] _
            refine pw_if E (pc' := 72) rfl (by decide) (by omega) (by omega) ?_ ?_
            · intro hc17
              change x16 = (0 : Int) at hc17
              refine pw_inc E (pc' := 75) (ls' := [some (.ref 16), some (pw_i b), some (pw_i e), some (pw_i (k9_3 + 1))]) rfl rfl rfl rfl ?_
              refine pw_goto E (pc' := 9) rfl (by decide) ?_
              exact ih9 _ (by omega) (k9_3 + 1) h9 I9 E9 (by omega) (by omega)  rfl
            · intro hc18
              change ¬ (x16 = (0 : Int)) at hc18
              refine pw_ld E (pc' := 40) (st' := [.ref 16]) rfl (fun _ => rfl) ?_
              refine pw_getR (b := 32) I9 E (c := 0) (k := 7) (pc' := 43) rfl rfl rfl rfl rfl rfl rfl ?_
              refine pw_ld E (pc' := 44) (st' := [pw_i k9_3, .ref 32]) rfl (fun _ => rfl) ?_
              refine pw_ld E (pc' := 45) (st' := [.ref 16, pw_i k9_3, .ref 32]) rfl (fun _ => rfl) ?_
              refine pw_getR (b := 17) I9 E (c := 0) (k := 0) (pc' := 48) rfl rfl rfl rfl rfl rfl rfl ?_
              refine pw_ld E (pc' := 49) (st' := [pw_i k9_3, .ref 17, pw_i k9_3, .ref 32]) rfl (fun _ => rfl) ?_
              obtain ⟨f19l, f19h, -⟩ := pw_obj (c := 1) I9 rfl
              refine pw_call (m' := 60) (As := [.ref 17, pw_i k9_3]) (rest := [pw_i k9_3, .ref 32]) (ls'' := [some (.ref 17), some (pw_i k9_3)]) (Nat.le_trans (by decide) hd) E rfl (fun _ => pw_iV rfl rfl rfl rfl (pw_cellI f19h rfl)) (rfl : pm_ent 60 = some (2, 2, 6, 0, pmc_60)) rfl rfl (cm_60 (pw_dp hd (by decide)) I9 (k9_3) (by omega) (by omega)) ?_
              rintro u21 v20 ⟨rfl, x22, rfl, hx22a, hx22b, hx22r⟩
              refine ⟨_, rfl, ?_⟩
              show pw X d h9 150 52 [some (.ref 16), some (pw_i b), some (pw_i e), some (pw_i k9_3)] [pw_i x22, pw_i k9_3, .ref 32] _
              change x22 = pw_g h9 4 k9_3.toNat at hx22r
              refine pw_ld E (pc' := 53) (st' := [.ref 16, pw_i x22, pw_i k9_3, .ref 32]) rfl (fun _ => rfl) ?_
              refine pw_getR (b := 112) I9 E (c := 0) (k := 17) (pc' := 56) rfl rfl rfl rfl rfl rfl rfl ?_
              obtain ⟨f23l, f23h, -⟩ := pw_obj (c := 96) I9 rfl
              refine pw_call (m' := 117) (As := [.ref 112]) (rest := [pw_i x22, pw_i k9_3, .ref 32]) (ls'' := [some (.ref 112)]) (Nat.le_trans (by decide) hd) E rfl (fun _ => pw_iV rfl rfl rfl rfl (pw_cellI f23h rfl)) (rfl : pm_ent 117 = some (1, 1, 10, 3, pmc_117)) rfl rfl (cm_117 (pw_dp hd (by decide)) I9 ) ?_
              rintro u25 v24 ⟨rfl, rfl⟩
              refine ⟨_, rfl, ?_⟩
              show pw X d h9 150 59 [some (.ref 16), some (pw_i b), some (pw_i e), some (pw_i k9_3)] [.ref 113, pw_i x22, pw_i k9_3, .ref 32] _
              refine pw_ld E (pc' := 60) (st' := [pw_i k9_3, .ref 113, pw_i x22, pw_i k9_3, .ref 32]) rfl (fun _ => rfl) ?_
              refine pw_ld E (pc' := 61) (st' := [pw_i b, pw_i k9_3, .ref 113, pw_i x22, pw_i k9_3, .ref 32]) rfl (fun _ => rfl) ?_
              refine pw_ld E (pc' := 62) (st' := [pw_i e, pw_i b, pw_i k9_3, .ref 113, pw_i x22, pw_i k9_3, .ref 32]) rfl (fun _ => rfl) ?_
              refine pw_ld E (pc' := 63) (st' := [.ref 16, pw_i e, pw_i b, pw_i k9_3, .ref 113, pw_i x22, pw_i k9_3, .ref 32]) rfl (fun _ => rfl) ?_
              refine pw_getI2 I9 E (c := 0) (k := 6) (pc' := 66) rfl rfl rfl rfl rfl rfl (fun hf26a hf26b => ?_)
              obtain ⟨f27l, f27h, -⟩ := pw_obj (c := 97) I9 rfl
              refine pw_call (m' := 24) (As := [.ref 113, pw_i k9_3, pw_i b, pw_i e, pw_i (pw_g h9 0 6)]) (rest := [pw_i x22, pw_i k9_3, .ref 32]) (ls'' := [some (.ref 113), some (pw_i k9_3), some (pw_i b), some (pw_i e), some (pw_i (pw_g h9 0 6))]) (Nat.le_trans (by decide) hd) E rfl (fun _ => pw_iV rfl rfl rfl rfl (pw_cellI f27h rfl)) (rfl : pm_ent 24 = some (5, 5, 2, 0, pmc_24)) rfl rfl (cm_24 (pw_dp hd (by decide)) I9 97 (by unfold pw_Lg; omega) (k9_3) (by omega) (by omega) (b) (by omega) (by omega) (e) (by omega) (by omega) (pw_g h9 0 6) (by omega) (by omega)) ?_
              rintro u29 v28 ⟨rfl, x30, rfl, hx30a, hx30b⟩
              refine ⟨_, rfl, ?_⟩
              show pw X d h9 150 69 [some (.ref 16), some (pw_i b), some (pw_i e), some (pw_i k9_3)] [pw_i x30, pw_i x22, pw_i k9_3, .ref 32] _
              obtain ⟨f31l, f31h, -⟩ := pw_obj (c := 16) I9 rfl
              refine pw_call (m' := 82) (As := [.ref 32, pw_i k9_3, pw_i x22, pw_i x30]) (rest := []) (ls'' := [some (.ref 32), some (pw_i k9_3), some (pw_i x22), some (pw_i x30)]) (Nat.le_trans (by decide) hd) E rfl (fun _ => pw_iV rfl rfl rfl rfl (pw_cellI f31h rfl)) (rfl : pm_ent 82 = some (4, 4, 8, 4, pmc_82)) rfl rfl (cm_82 (pw_dp hd (by decide)) I9 (k9_3) (by omega) (by omega) (x22) (by omega) (by omega) (x30) (by omega) (by omega)) ?_
              rintro h32 v33 ⟨h32I, h32E, rfl⟩
              refine ⟨_, rfl, ?_⟩
              have h32F := E9.tr (h32E.wk (W' := [17, 18]) (by first | rfl | simp))
              show pw X d h32 150 72 [some (.ref 16), some (pw_i b), some (pw_i e), some (pw_i k9_3)] [] _
              refine pw_inc E (pc' := 75) (ls' := [some (.ref 16), some (pw_i b), some (pw_i e), some (pw_i (k9_3 + 1))]) rfl rfl rfl rfl ?_
              refine pw_goto E (pc' := 9) rfl (by decide) ?_
              exact ih9 _ (by omega) (k9_3 + 1) h32 h32I h32F (by omega) (by omega)  rfl
        · skip
          refine pw_if E (pc' := 72) rfl (by decide) (by omega) (by omega) ?_ ?_
          · intro hc35
            change x9 = (0 : Int) at hc35
            refine pw_inc E (pc' := 75) (ls' := [some (.ref 16), some (pw_i b), some (pw_i e), some (pw_i (k9_3 + 1))]) rfl rfl rfl rfl ?_
            refine pw_goto E (pc' := 9) rfl (by decide) ?_
            exact ih9 _ (by omega) (k9_3 + 1) h9 I9 E9 (by omega) (by omega)  rfl
          · intro hc36
            change ¬ (x9 = (0 : Int)) at hc36
            exfalso; omega
  exact L9 _ (0) h2 h2I h2F (by omega) (by omega)  rfl
set_option maxHeartbeats 4000000 in
theorem cm_135 {X : List (Nat × List Value)} {d : Nat} {h : pm_H} (hd : 2 ≤ d) (I : pw_I h) (k : Int) (hk1 : 0 ≤ k) (hk2 : k ≤ 23) (b : Int) (hb1 : 0 ≤ b) (hb2 : b ≤ 11) (e : Int) (he1 : 0 ≤ e) (he2 : e ≤ 11) : pw X d h 135 0 [some (.ref 16), some (pw_i k), some (pw_i b), some (pw_i e)] [] (fun h' v => h = h' ∧ ∃ a : Int, v = .inl (some (pw_i a)) ∧ (-2147483648) ≤ a ∧ a ≤ 2147483647) := by
  have E : pm_ent 135 = some (4, 4, 11, 0, pmc_135) := rfl
  refine pw_ld E (pc' := 1) (st' := [.ref 16]) rfl (fun _ => rfl) ?_
  refine pw_getR (b := 26) I E (c := 0) (k := 2) (pc' := 4) rfl rfl rfl rfl rfl rfl rfl ?_
  refine pw_ld E (pc' := 5) (st' := [pw_i k, .ref 26]) rfl (fun _ => rfl) ?_
  refine pw_ld E (pc' := 6) (st' := [pw_i b, pw_i k, .ref 26]) rfl (fun _ => rfl) ?_
  obtain ⟨f1l, f1h, -⟩ := pw_obj (c := 10) I rfl
  refine pw_call (m' := 19) (As := [.ref 26, pw_i k, pw_i b]) (rest := []) (ls'' := [some (.ref 26), some (pw_i k), some (pw_i b)]) (Nat.le_trans (by decide) hd) E rfl (fun _ => pw_iV rfl rfl rfl rfl (pw_cellI f1h rfl)) (rfl : pm_ent 19 = some (3, 3, 2, 1, pmc_19)) rfl rfl (cm_19 (pw_dp hd (by decide)) I 10 (by unfold pw_Lg; omega) (k) (by omega) (by omega) (b) (by omega) (by omega)) ?_
  rintro u3 v2 ⟨rfl, x4, rfl, hx4a, hx4b⟩
  refine ⟨_, rfl, ?_⟩
  show pw X d h 135 9 [some (.ref 16), some (pw_i k), some (pw_i b), some (pw_i e)] [pw_i x4] _
  refine pw_if E (pc' := 16) rfl (by decide) (by omega) (by omega) ?_ ?_
  · intro hc5
    change x4 = (0 : Int) at hc5
    refine pw_ld E (pc' := 17) (st' := [pw_i 0]) rfl (fun _ => rfl) ?_
    refine pw_ld E (pc' := 18) (st' := [.ref 16, pw_i 0]) rfl (fun _ => rfl) ?_
    refine pw_getR (b := 26) I E (c := 0) (k := 2) (pc' := 21) rfl rfl rfl rfl rfl rfl rfl ?_
    refine pw_ld E (pc' := 22) (st' := [pw_i k, .ref 26, pw_i 0]) rfl (fun _ => rfl) ?_
    refine pw_ld E (pc' := 23) (st' := [pw_i e, pw_i k, .ref 26, pw_i 0]) rfl (fun _ => rfl) ?_
    obtain ⟨f6l, f6h, -⟩ := pw_obj (c := 10) I rfl
    refine pw_call (m' := 19) (As := [.ref 26, pw_i k, pw_i e]) (rest := [pw_i 0]) (ls'' := [some (.ref 26), some (pw_i k), some (pw_i e)]) (Nat.le_trans (by decide) hd) E rfl (fun _ => pw_iV rfl rfl rfl rfl (pw_cellI f6h rfl)) (rfl : pm_ent 19 = some (3, 3, 2, 1, pmc_19)) rfl rfl (cm_19 (pw_dp hd (by decide)) I 10 (by unfold pw_Lg; omega) (k) (by omega) (by omega) (e) (by omega) (by omega)) ?_
    rintro u8 v7 ⟨rfl, x9, rfl, hx9a, hx9b⟩
    refine ⟨_, rfl, ?_⟩
    show pw X d h 135 26 [some (.ref 16), some (pw_i k), some (pw_i b), some (pw_i e)] [pw_i x9, pw_i 0] _
    refine pw_if E (pc' := 33) rfl (by decide) (by omega) (by omega) ?_ ?_
    · intro hc10
      change x9 = (0 : Int) at hc10
      refine pw_ld E (pc' := 34) (st' := [pw_i 0, pw_i 0]) rfl (fun _ => rfl) ?_
      refine pw_add E (pc' := 35) rfl rfl ?_
      refine pw_iret E rfl ?_
      exact ⟨rfl, ⟨_, rfl, by omega, by omega⟩⟩
    · intro hc11
      change ¬ (x9 = (0 : Int)) at hc11
      refine pw_ld E (pc' := 30) (st' := [pw_i 1, pw_i 0]) rfl (fun _ => rfl) ?_
      refine pw_goto E (pc' := 34) rfl (by decide) ?_
      refine pw_add E (pc' := 35) rfl rfl ?_
      refine pw_iret E rfl ?_
      exact ⟨rfl, ⟨_, rfl, by omega, by omega⟩⟩
  · intro hc12
    change ¬ (x4 = (0 : Int)) at hc12
    refine pw_ld E (pc' := 13) (st' := [pw_i 1]) rfl (fun _ => rfl) ?_
    refine pw_goto E (pc' := 17) rfl (by decide) ?_
    refine pw_ld E (pc' := 18) (st' := [.ref 16, pw_i 1]) rfl (fun _ => rfl) ?_
    refine pw_getR (b := 26) I E (c := 0) (k := 2) (pc' := 21) rfl rfl rfl rfl rfl rfl rfl ?_
    refine pw_ld E (pc' := 22) (st' := [pw_i k, .ref 26, pw_i 1]) rfl (fun _ => rfl) ?_
    refine pw_ld E (pc' := 23) (st' := [pw_i e, pw_i k, .ref 26, pw_i 1]) rfl (fun _ => rfl) ?_
    obtain ⟨f13l, f13h, -⟩ := pw_obj (c := 10) I rfl
    refine pw_call (m' := 19) (As := [.ref 26, pw_i k, pw_i e]) (rest := [pw_i 1]) (ls'' := [some (.ref 26), some (pw_i k), some (pw_i e)]) (Nat.le_trans (by decide) hd) E rfl (fun _ => pw_iV rfl rfl rfl rfl (pw_cellI f13h rfl)) (rfl : pm_ent 19 = some (3, 3, 2, 1, pmc_19)) rfl rfl (cm_19 (pw_dp hd (by decide)) I 10 (by unfold pw_Lg; omega) (k) (by omega) (by omega) (e) (by omega) (by omega)) ?_
    rintro u15 v14 ⟨rfl, x16, rfl, hx16a, hx16b⟩
    refine ⟨_, rfl, ?_⟩
    show pw X d h 135 26 [some (.ref 16), some (pw_i k), some (pw_i b), some (pw_i e)] [pw_i x16, pw_i 1] _
    refine pw_if E (pc' := 33) rfl (by decide) (by omega) (by omega) ?_ ?_
    · intro hc17
      change x16 = (0 : Int) at hc17
      refine pw_ld E (pc' := 34) (st' := [pw_i 0, pw_i 1]) rfl (fun _ => rfl) ?_
      refine pw_add E (pc' := 35) rfl rfl ?_
      refine pw_iret E rfl ?_
      exact ⟨rfl, ⟨_, rfl, by omega, by omega⟩⟩
    · intro hc18
      change ¬ (x16 = (0 : Int)) at hc18
      refine pw_ld E (pc' := 30) (st' := [pw_i 1, pw_i 1]) rfl (fun _ => rfl) ?_
      refine pw_goto E (pc' := 34) rfl (by decide) ?_
      refine pw_add E (pc' := 35) rfl rfl ?_
      refine pw_iret E rfl ?_
      exact ⟨rfl, ⟨_, rfl, by omega, by omega⟩⟩
set_option maxHeartbeats 4000000 in
theorem cm_159 {X : List (Nat × List Value)} {d : Nat} {h : pm_H} (hd : 2 ≤ d) (I : pw_I h) (k : Int) (hk1 : 0 ≤ k) (hk2 : k ≤ 23) (mo : Int) (hmo1 : 0 ≤ mo) (hmo2 : mo ≤ 11) : pw X d h 159 0 [some (.ref 16), some (pw_i k), some (pw_i mo)] [] (fun h' v => h = h' ∧ ∃ a : Int, v = .inl (some (pw_i a)) ∧ 0 ≤ a ∧ a ≤ 1) := by
  have E : pm_ent 159 = some (3, 3, 11, 1, pmc_159) := rfl
  refine pw_ld E (pc' := 1) (st' := [.ref 16]) rfl (fun _ => rfl) ?_
  refine pw_getR (b := 17) I E (c := 0) (k := 0) (pc' := 4) rfl rfl rfl rfl rfl rfl rfl ?_
  refine pw_ld E (pc' := 5) (st' := [pw_i k, .ref 17]) rfl (fun _ => rfl) ?_
  obtain ⟨f1l, f1h, -⟩ := pw_obj (c := 1) I rfl
  refine pw_call (m' := 64) (As := [.ref 17, pw_i k]) (rest := []) (ls'' := [some (.ref 17), some (pw_i k)]) (Nat.le_trans (by decide) hd) E rfl (fun _ => pw_iV rfl rfl rfl rfl (pw_cellI f1h rfl)) (rfl : pm_ent 64 = some (2, 2, 6, 0, pmc_64)) rfl rfl (cm_64 (pw_dp hd (by decide)) I (k) (by omega) (by omega)) ?_
  rintro u3 v2 ⟨rfl, x4, rfl, hx4a, hx4b, hx4r⟩
  refine ⟨_, rfl, ?_⟩
  show pw X d h 159 8 [some (.ref 16), some (pw_i k), some (pw_i mo)] [pw_i x4] _
  change x4 = pw_g h 5 k.toNat at hx4r
  refine pw_ld E (pc' := 9) (st' := [.ref 16, pw_i x4]) rfl (fun _ => rfl) ?_
  refine pw_getR (b := 23) I E (c := 0) (k := 1) (pc' := 12) rfl rfl rfl rfl rfl rfl rfl ?_
  refine pw_ld E (pc' := 13) (st' := [.ref 16, .ref 23, pw_i x4]) rfl (fun _ => rfl) ?_
  refine pw_getR (b := 17) I E (c := 0) (k := 0) (pc' := 16) rfl rfl rfl rfl rfl rfl rfl ?_
  refine pw_ld E (pc' := 17) (st' := [pw_i k, .ref 17, .ref 23, pw_i x4]) rfl (fun _ => rfl) ?_
  obtain ⟨f5l, f5h, -⟩ := pw_obj (c := 1) I rfl
  refine pw_call (m' := 60) (As := [.ref 17, pw_i k]) (rest := [.ref 23, pw_i x4]) (ls'' := [some (.ref 17), some (pw_i k)]) (Nat.le_trans (by decide) hd) E rfl (fun _ => pw_iV rfl rfl rfl rfl (pw_cellI f5h rfl)) (rfl : pm_ent 60 = some (2, 2, 6, 0, pmc_60)) rfl rfl (cm_60 (pw_dp hd (by decide)) I (k) (by omega) (by omega)) ?_
  rintro u7 v6 ⟨rfl, x8, rfl, hx8a, hx8b, hx8r⟩
  refine ⟨_, rfl, ?_⟩
  show pw X d h 159 20 [some (.ref 16), some (pw_i k), some (pw_i mo)] [pw_i x8, .ref 23, pw_i x4] _
  change x8 = pw_g h 4 k.toNat at hx8r
  refine pw_ld E (pc' := 21) (st' := [pw_i mo, pw_i x8, .ref 23, pw_i x4]) rfl (fun _ => rfl) ?_
  obtain ⟨f9l, f9h, -⟩ := pw_obj (c := 7) I rfl
  refine pw_call (m' := 2) (As := [.ref 23, pw_i x8, pw_i mo]) (rest := [pw_i x4]) (ls'' := [some (.ref 23), some (pw_i x8), some (pw_i mo)]) (Nat.le_trans (by decide) hd) E rfl (fun _ => pw_iV rfl rfl rfl rfl (pw_cellI f9h rfl)) (rfl : pm_ent 2 = some (3, 3, 0, 0, pmc_2)) rfl rfl (cm_2 (pw_dp hd (by decide)) I (x8) (by omega) (by omega) (mo) (by omega) (by omega)) ?_
  rintro u11 v10 ⟨rfl, x12, rfl, hx12a, hx12b⟩
  refine ⟨_, rfl, ?_⟩
  show pw X d h 159 24 [some (.ref 16), some (pw_i k), some (pw_i mo)] [pw_i x12, pw_i x4] _
  refine pw_if2 E (pc' := 31) rfl (by decide) (by omega) (by omega) (by omega) (by omega) ?_ ?_
  · intro hc13
    change x12 ≤ x4 at hc13
    refine pw_ld E (pc' := 32) (st' := [pw_i 0]) rfl (fun _ => rfl) ?_
    refine pw_zret E rfl (by omega) ?_
    exact ⟨rfl, ⟨_, rfl, by omega, by omega⟩⟩
  · intro hc14
    change ¬ (x12 ≤ x4) at hc14
    refine pw_ld E (pc' := 28) (st' := [pw_i 1]) rfl (fun _ => rfl) ?_
    refine pw_goto E (pc' := 32) rfl (by decide) ?_
    refine pw_zret E rfl (by omega) ?_
    exact ⟨rfl, ⟨_, rfl, by omega, by omega⟩⟩
set_option maxHeartbeats 4000000 in
theorem cm_130 {X : List (Nat × List Value)} {d : Nat} {h : pm_H} (hd : 5 ≤ d) (I : pw_I h) (b : Int) (hb1 : (-2147483648) ≤ b) (hb2 : b ≤ 2147483647) (e : Int) (he1 : (-2147483648) ≤ e) (he2 : e ≤ 2147483647) : pw X d h 130 0 [some (.ref 16), some (pw_i b), some (pw_i e)] [] (fun h' v => pw_I h' ∧ pw_E [17, 18, 22, 23] h h' ∧ ∃ a : Int, v = .inl (some (pw_i a)) ∧ (-2147483648) ≤ a ∧ a ≤ 2147483647) := by
  have E : pm_ent 130 = some (3, 3, 11, 0, pmc_130) := rfl
  have E0 : pw_E [17, 18, 22, 23] h h := pw_E.rf _ _
  refine pw_ld E (pc' := 1) (st' := [pw_i b]) rfl (fun _ => rfl) ?_
  refine pw_ld E (pc' := 2) (st' := [pw_i e, pw_i b]) rfl (fun _ => rfl) ?_
  refine pw_call (m' := 131) (As := [pw_i b, pw_i e]) (rest := []) (ls'' := [some (pw_i b), some (pw_i e)]) (Nat.le_trans (by decide) hd) E rfl (fun _ => pw_iS rfl rfl rfl) (rfl : pm_ent 131 = some (2, 2, 11, 1, pmc_131)) rfl rfl (cm_131 (pw_dp hd (by decide)) I (b) (by omega) (by omega) (e) (by omega) (by omega)) ?_
  rintro u2 v1 ⟨rfl, x3, rfl, hx3a, hx3b, hx3r⟩
  refine ⟨_, rfl, ?_⟩
  show pw X d h 130 5 [some (.ref 16), some (pw_i b), some (pw_i e)] [pw_i x3] _
  change (x3 = 1 ∧ 0 ≤ b ∧ b ≤ 11 ∧ 0 ≤ e ∧ e ≤ 11) ∨ x3 = 0 at hx3r
  rcases (by omega : x3 = 1 ∨ x3 = 0) with hb4 | hb4
  · skip
    refine pw_if E (pc' := 10) rfl (by decide) (by omega) (by omega) ?_ ?_
    · intro hc5
      change x3 ≠ (0 : Int) at hc5
      refine pw_ld E (pc' := 11) (st' := [.ref 16]) rfl (fun _ => rfl) ?_
      refine pw_ld E (pc' := 12) (st' := [pw_i b, .ref 16]) rfl (fun _ => rfl) ?_
      refine pw_ld E (pc' := 13) (st' := [pw_i e, pw_i b, .ref 16]) rfl (fun _ => rfl) ?_
      refine pw_ld E (pc' := 14) (st' := [pw_i 0, pw_i e, pw_i b, .ref 16]) rfl (fun _ => rfl) ?_
      obtain ⟨f6l, f6h, -⟩ := pw_obj (c := 0) I rfl
      refine pw_call (m' := 132) (As := [.ref 16, pw_i b, pw_i e, pw_i 0]) (rest := []) (ls'' := [some (.ref 16), some (pw_i b), some (pw_i e), some (pw_i 0), none, none, none]) (Nat.le_trans (by decide) hd) E rfl (fun _ => pw_iV rfl rfl rfl rfl (pw_cellI f6h rfl)) (rfl : pm_ent 132 = some (4, 7, 11, 4, pmc_132)) rfl rfl (cm_132 (pw_dp hd (by decide)) I (b) (by omega) (by omega) (e) (by omega) (by omega) (0) (by omega) (by omega)) ?_
      rintro h7 v8 ⟨h7I, h7E, rfl⟩
      refine ⟨_, rfl, ?_⟩
      have h7F := E0.tr (h7E.wk (W' := [17, 18, 22, 23]) (by first | rfl | simp))
      show pw X d h7 130 17 [some (.ref 16), some (pw_i b), some (pw_i e)] [] _
      refine pw_ld E (pc' := 18) (st' := [.ref 16]) rfl (fun _ => rfl) ?_
      refine pw_getR (b := 32) h7I E (c := 0) (k := 7) (pc' := 21) rfl rfl rfl rfl rfl rfl rfl ?_
      refine pw_ld E (pc' := 22) (st' := [.ref 16, .ref 32]) rfl (fun _ => rfl) ?_
      refine pw_getR (b := 38) h7I E (c := 0) (k := 8) (pc' := 25) rfl rfl rfl rfl rfl rfl rfl ?_
      obtain ⟨f9l, f9h, -⟩ := pw_obj (c := 16) h7I rfl
      refine pw_call (m' := 83) (As := [.ref 32, .ref 38]) (rest := []) (ls'' := [some (.ref 32), some (.ref 38), none, none, none, none]) (Nat.le_trans (by decide) hd) E rfl (fun _ => pw_iV rfl rfl rfl rfl (pw_cellI f9h rfl)) (rfl : pm_ent 83 = some (2, 6, 8, 1, pmc_83)) rfl rfl (cm_83 (pw_dp hd (by decide)) h7I 22 (by unfold pw_Fr; omega)) ?_
      rintro h10 v11 ⟨h10I, h10E, x12, rfl, hx12a, hx12b⟩
      refine ⟨_, rfl, ?_⟩
      have h10F := h7F.tr (h10E.wk (W' := [17, 18, 22, 23]) (by first | rfl | simp))
      show pw X d h10 130 28 [some (.ref 16), some (pw_i b), some (pw_i e)] [pw_i x12] _
      refine pw_if E (pc' := 33) rfl (by decide) (by omega) (by omega) ?_ ?_
      · intro hc13
        change x12 ≠ (0 : Int) at hc13
        refine pw_ld E (pc' := 34) (st' := [.ref 16]) rfl (fun _ => rfl) ?_
        refine pw_ld E (pc' := 35) (st' := [pw_i b, .ref 16]) rfl (fun _ => rfl) ?_
        refine pw_ld E (pc' := 36) (st' := [pw_i e, pw_i b, .ref 16]) rfl (fun _ => rfl) ?_
        refine pw_ld E (pc' := 37) (st' := [pw_i 1, pw_i e, pw_i b, .ref 16]) rfl (fun _ => rfl) ?_
        obtain ⟨f14l, f14h, -⟩ := pw_obj (c := 0) h10I rfl
        refine pw_call (m' := 132) (As := [.ref 16, pw_i b, pw_i e, pw_i 1]) (rest := []) (ls'' := [some (.ref 16), some (pw_i b), some (pw_i e), some (pw_i 1), none, none, none]) (Nat.le_trans (by decide) hd) E rfl (fun _ => pw_iV rfl rfl rfl rfl (pw_cellI f14h rfl)) (rfl : pm_ent 132 = some (4, 7, 11, 4, pmc_132)) rfl rfl (cm_132 (pw_dp hd (by decide)) h10I (b) (by omega) (by omega) (e) (by omega) (by omega) (1) (by omega) (by omega)) ?_
        rintro h15 v16 ⟨h15I, h15E, rfl⟩
        refine ⟨_, rfl, ?_⟩
        have h15F := h10F.tr (h15E.wk (W' := [17, 18, 22, 23]) (by first | rfl | simp))
        show pw X d h15 130 40 [some (.ref 16), some (pw_i b), some (pw_i e)] [] _
        refine pw_ld E (pc' := 41) (st' := [.ref 16]) rfl (fun _ => rfl) ?_
        refine pw_getR (b := 32) h15I E (c := 0) (k := 7) (pc' := 44) rfl rfl rfl rfl rfl rfl rfl ?_
        refine pw_ld E (pc' := 45) (st' := [.ref 16, .ref 32]) rfl (fun _ => rfl) ?_
        refine pw_getR (b := 39) h15I E (c := 0) (k := 9) (pc' := 48) rfl rfl rfl rfl rfl rfl rfl ?_
        obtain ⟨f17l, f17h, -⟩ := pw_obj (c := 16) h15I rfl
        refine pw_call (m' := 83) (As := [.ref 32, .ref 39]) (rest := []) (ls'' := [some (.ref 32), some (.ref 39), none, none, none, none]) (Nat.le_trans (by decide) hd) E rfl (fun _ => pw_iV rfl rfl rfl rfl (pw_cellI f17h rfl)) (rfl : pm_ent 83 = some (2, 6, 8, 1, pmc_83)) rfl rfl (cm_83 (pw_dp hd (by decide)) h15I 23 (by unfold pw_Fr; omega)) ?_
        rintro h18 v19 ⟨h18I, h18E, x20, rfl, hx20a, hx20b⟩
        refine ⟨_, rfl, ?_⟩
        have h18F := h15F.tr (h18E.wk (W' := [17, 18, 22, 23]) (by first | rfl | simp))
        show pw X d h18 130 51 [some (.ref 16), some (pw_i b), some (pw_i e)] [pw_i x20] _
        refine pw_if E (pc' := 56) rfl (by decide) (by omega) (by omega) ?_ ?_
        · intro hc21
          change x20 ≠ (0 : Int) at hc21
          refine pw_ld E (pc' := 57) (st' := [.ref 16]) rfl (fun _ => rfl) ?_
          refine pw_getR (b := 38) h18I E (c := 0) (k := 8) (pc' := 60) rfl rfl rfl rfl rfl rfl rfl ?_
          obtain ⟨f22l, f22h, -⟩ := pw_obj (c := 22) h18I rfl
          refine pw_call (m' := 8) (As := [.ref 38]) (rest := []) (ls'' := [some (.ref 38)]) (Nat.le_trans (by decide) hd) E rfl (fun _ => pw_iV rfl rfl rfl rfl (pw_cellI f22h rfl)) (rfl : pm_ent 8 = some (1, 1, 1, 0, pmc_8)) rfl rfl (cm_8 (pw_dp hd (by decide)) h18I 22 (by unfold pw_Fr; omega)) ?_
          rintro u24 v23 ⟨rfl, x25, rfl, hx25a, hx25b⟩
          refine ⟨_, rfl, ?_⟩
          show pw X d h18 130 63 [some (.ref 16), some (pw_i b), some (pw_i e)] [pw_i x25] _
          refine pw_if E (pc' := 80) rfl (by decide) (by omega) (by omega) ?_ ?_
          · intro hc26
            change (0 : Int) < x25 at hc26
            refine pw_ld E (pc' := 81) (st' := [pw_i 0]) rfl (fun _ => rfl) ?_
            refine pw_iret E rfl ?_
            exact ⟨h18I, h18F, ⟨_, rfl, by omega, by omega⟩⟩
          · intro hc27
            change ¬ ((0 : Int) < x25) at hc27
            refine pw_ld E (pc' := 67) (st' := [.ref 16]) rfl (fun _ => rfl) ?_
            refine pw_getR (b := 39) h18I E (c := 0) (k := 9) (pc' := 70) rfl rfl rfl rfl rfl rfl rfl ?_
            obtain ⟨f28l, f28h, -⟩ := pw_obj (c := 23) h18I rfl
            refine pw_call (m' := 8) (As := [.ref 39]) (rest := []) (ls'' := [some (.ref 39)]) (Nat.le_trans (by decide) hd) E rfl (fun _ => pw_iV rfl rfl rfl rfl (pw_cellI f28h rfl)) (rfl : pm_ent 8 = some (1, 1, 1, 0, pmc_8)) rfl rfl (cm_8 (pw_dp hd (by decide)) h18I 23 (by unfold pw_Fr; omega)) ?_
            rintro u30 v29 ⟨rfl, x31, rfl, hx31a, hx31b⟩
            refine ⟨_, rfl, ?_⟩
            show pw X d h18 130 73 [some (.ref 16), some (pw_i b), some (pw_i e)] [pw_i x31] _
            refine pw_if E (pc' := 80) rfl (by decide) (by omega) (by omega) ?_ ?_
            · intro hc32
              change x31 < (0 : Int) at hc32
              refine pw_ld E (pc' := 81) (st' := [pw_i 0]) rfl (fun _ => rfl) ?_
              refine pw_iret E rfl ?_
              exact ⟨h18I, h18F, ⟨_, rfl, by omega, by omega⟩⟩
            · intro hc33
              change ¬ (x31 < (0 : Int)) at hc33
              refine pw_ld E (pc' := 77) (st' := [pw_i 1]) rfl (fun _ => rfl) ?_
              refine pw_goto E (pc' := 81) rfl (by decide) ?_
              refine pw_iret E rfl ?_
              exact ⟨h18I, h18F, ⟨_, rfl, by omega, by omega⟩⟩
        · intro hc34
          change ¬ (x20 ≠ (0 : Int)) at hc34
          refine pw_ld E (pc' := 55) (st' := [pw_i ((-1))]) rfl (fun _ => rfl) ?_
          refine pw_iret E rfl ?_
          exact ⟨h18I, h18F, ⟨_, rfl, by omega, by omega⟩⟩
      · intro hc35
        change ¬ (x12 ≠ (0 : Int)) at hc35
        refine pw_ld E (pc' := 32) (st' := [pw_i ((-1))]) rfl (fun _ => rfl) ?_
        refine pw_iret E rfl ?_
        exact ⟨h10I, h10F, ⟨_, rfl, by omega, by omega⟩⟩
    · intro hc36
      change ¬ (x3 ≠ (0 : Int)) at hc36
      exfalso; omega
  · skip
    refine pw_if E (pc' := 10) rfl (by decide) (by omega) (by omega) ?_ ?_
    · intro hc38
      change x3 ≠ (0 : Int) at hc38
      exfalso; omega
    · intro hc39
      change ¬ (x3 ≠ (0 : Int)) at hc39
      refine pw_ld E (pc' := 9) (st' := [pw_i ((-1))]) rfl (fun _ => rfl) ?_
      refine pw_iret E rfl ?_
      exact ⟨I, E0, ⟨_, rfl, by omega, by omega⟩⟩
set_option maxHeartbeats 4000000 in
theorem cm_134 {X : List (Nat × List Value)} {d : Nat} {h : pm_H} (hd : 4 ≤ d) (I : pw_I h) (b : Int) (hb1 : (-2147483648) ≤ b) (hb2 : b ≤ 2147483647) (e : Int) (he1 : (-2147483648) ≤ e) (he2 : e ≤ 2147483647) : pw X d h 134 0 [some (.ref 16), some (pw_i b), some (pw_i e), none, none, none, none, none, none, none, none, none, none] [] (fun h' v => h = h' ∧ ∃ a : Int, v = .inl (some (pw_i a)) ∧ (-2147483648) ≤ a ∧ a ≤ 2147483647) := by
  have E : pm_ent 134 = some (3, 13, 11, 0, pmc_134) := rfl
  refine pw_ld E (pc' := 1) (st' := [pw_i b]) rfl (fun _ => rfl) ?_
  refine pw_ld E (pc' := 2) (st' := [pw_i e, pw_i b]) rfl (fun _ => rfl) ?_
  refine pw_call (m' := 131) (As := [pw_i b, pw_i e]) (rest := []) (ls'' := [some (pw_i b), some (pw_i e)]) (Nat.le_trans (by decide) hd) E rfl (fun _ => pw_iS rfl rfl rfl) (rfl : pm_ent 131 = some (2, 2, 11, 1, pmc_131)) rfl rfl (cm_131 (pw_dp hd (by decide)) I (b) (by omega) (by omega) (e) (by omega) (by omega)) ?_
  rintro u2 v1 ⟨rfl, x3, rfl, hx3a, hx3b, hx3r⟩
  refine ⟨_, rfl, ?_⟩
  show pw X d h 134 5 [some (.ref 16), some (pw_i b), some (pw_i e), none, none, none, none, none, none, none, none, none, none] [pw_i x3] _
  change (x3 = 1 ∧ 0 ≤ b ∧ b ≤ 11 ∧ 0 ≤ e ∧ e ≤ 11) ∨ x3 = 0 at hx3r
  rcases (by omega : x3 = 1 ∨ x3 = 0) with hb4 | hb4
  · skip
    refine pw_if E (pc' := 30) rfl (by decide) (by omega) (by omega) ?_ ?_
    · intro hc5
      change x3 = (0 : Int) at hc5
      exfalso; omega
    · intro hc6
      change ¬ (x3 = (0 : Int)) at hc6
      refine pw_ld E (pc' := 9) (st' := [.ref 16]) rfl (fun _ => rfl) ?_
      refine pw_getR (b := 17) I E (c := 0) (k := 0) (pc' := 12) rfl rfl rfl rfl rfl rfl rfl ?_
      refine pw_ld E (pc' := 13) (st' := [pw_i 0, .ref 17]) rfl (fun _ => rfl) ?_
      obtain ⟨f7l, f7h, -⟩ := pw_obj (c := 1) I rfl
      refine pw_call (m' := 62) (As := [.ref 17, pw_i 0]) (rest := []) (ls'' := [some (.ref 17), some (pw_i 0), none, none]) (Nat.le_trans (by decide) hd) E rfl (fun _ => pw_iV rfl rfl rfl rfl (pw_cellI f7h rfl)) (rfl : pm_ent 62 = some (2, 4, 6, 0, pmc_62)) rfl rfl (cm_62 (pw_dp hd (by decide)) I (0) (by omega) (by omega)) ?_
      rintro u9 v8 ⟨rfl, x10, rfl, hx10a, hx10b⟩
      refine ⟨_, rfl, ?_⟩
      show pw X d h 134 16 [some (.ref 16), some (pw_i b), some (pw_i e), none, none, none, none, none, none, none, none, none, none] [pw_i x10] _
      refine pw_if E (pc' := 30) rfl (by decide) (by omega) (by omega) ?_ ?_
      · intro hc11
        change x10 = (0 : Int) at hc11
        refine pw_ld E (pc' := 31) (st' := [pw_i ((-1))]) rfl (fun _ => rfl) ?_
        refine pw_iret E rfl ?_
        exact ⟨rfl, ⟨_, rfl, by omega, by omega⟩⟩
      · intro hc12
        change ¬ (x10 = (0 : Int)) at hc12
        refine pw_ld E (pc' := 20) (st' := [.ref 16]) rfl (fun _ => rfl) ?_
        refine pw_getR (b := 17) I E (c := 0) (k := 0) (pc' := 23) rfl rfl rfl rfl rfl rfl rfl ?_
        refine pw_ld E (pc' := 24) (st' := [pw_i 1, .ref 17]) rfl (fun _ => rfl) ?_
        obtain ⟨f13l, f13h, -⟩ := pw_obj (c := 1) I rfl
        refine pw_call (m' := 62) (As := [.ref 17, pw_i 1]) (rest := []) (ls'' := [some (.ref 17), some (pw_i 1), none, none]) (Nat.le_trans (by decide) hd) E rfl (fun _ => pw_iV rfl rfl rfl rfl (pw_cellI f13h rfl)) (rfl : pm_ent 62 = some (2, 4, 6, 0, pmc_62)) rfl rfl (cm_62 (pw_dp hd (by decide)) I (1) (by omega) (by omega)) ?_
        rintro u15 v14 ⟨rfl, x16, rfl, hx16a, hx16b⟩
        refine ⟨_, rfl, ?_⟩
        show pw X d h 134 27 [some (.ref 16), some (pw_i b), some (pw_i e), none, none, none, none, none, none, none, none, none, none] [pw_i x16] _
        refine pw_if E (pc' := 32) rfl (by decide) (by omega) (by omega) ?_ ?_
        · intro hc17
          change x16 ≠ (0 : Int) at hc17
          refine pw_ld E (pc' := 33) (st' := [pw_i ((-1))]) rfl (fun _ => rfl) ?_
          refine pw_istn E (pc' := 34) (ls' := [some (.ref 16), some (pw_i b), some (pw_i e), some (pw_i ((-1))), none, none, none, none, none, none, none, none, none]) rfl rfl rfl rfl ?_
          refine pw_ld E (pc' := 35) (st' := [.long (Int64.ofNat 0)]) rfl (fun _ => rfl) ?_
          refine pw_lst E (pc' := 37) (ls' := [some (.ref 16), some (pw_i b), some (pw_i e), some (pw_i ((-1))), some (.long (Int64.ofNat 0)), none, none, none, none, none, none, none, none]) rfl rfl rfl rfl ?_
          refine pw_ld E (pc' := 38) (st' := [.long (Int64.ofNat 1)]) rfl (fun _ => rfl) ?_
          refine pw_lst E (pc' := 40) (ls' := [some (.ref 16), some (pw_i b), some (pw_i e), some (pw_i ((-1))), some (.long (Int64.ofNat 0)), none, some (.long (Int64.ofNat 1)), none, none, none, none, none, none]) rfl rfl rfl rfl ?_
          refine pw_ld E (pc' := 41) (st' := [pw_i 0]) rfl (fun _ => rfl) ?_
          refine pw_ist E (pc' := 43) (ls' := [some (.ref 16), some (pw_i b), some (pw_i e), some (pw_i ((-1))), some (.long (Int64.ofNat 0)), none, some (.long (Int64.ofNat 1)), none, some (pw_i 0), none, none, none, none]) rfl rfl rfl rfl ?_
          have L43 : ∀ (n43 : Nat) (k43_3 : Int) (k43_4 : Int64) (k43_6 : Int64) (k43_8 : Int) (k43_9 : Option Value) (k43_11 : Option Value), (-2147483648) ≤ k43_3 → k43_3 ≤ 2147483647 → 0 ≤ k43_8 → k43_8 ≤ 24 → (24 - k43_8).toNat = n43 → pw X d h 134 43 [some (.ref 16), some (pw_i b), some (pw_i e), some (pw_i k43_3), some (.long k43_4), none, some (.long k43_6), none, some (pw_i k43_8), k43_9, none, k43_11, none] [] (fun h' v => h = h' ∧ ∃ a : Int, v = .inl (some (pw_i a)) ∧ (-2147483648) ≤ a ∧ a ≤ 2147483647) := by
            intro n43
            induction n43 using Nat.strongRecOn with
            | ind n43 ih43 =>
              intro k43_3 k43_4 k43_6 k43_8 k43_9 k43_11 k43_3a k43_3b k43_8a k43_8b hm43
              refine pw_ld E (pc' := 45) (st' := [pw_i k43_8]) rfl (fun _ => rfl) ?_
              refine pw_bip E (pc' := 47) rfl rfl (by decide) ?_
              refine pw_if2 E (pc' := 153) rfl (by decide) (by omega) (by omega) (by decide) (by decide) ?_ ?_
              · intro hc18
                change (24 : Int) ≤ k43_8 at hc18
                refine pw_ld E (pc' := 154) (st' := [pw_i k43_3]) rfl (fun _ => rfl) ?_
                refine pw_iret E rfl ?_
                exact ⟨rfl, ⟨_, rfl, by omega, by omega⟩⟩
              · intro hc19
                change ¬ ((24 : Int) ≤ k43_8) at hc19
                refine pw_ld E (pc' := 51) (st' := [.ref 16]) rfl (fun _ => rfl) ?_
                refine pw_getR (b := 17) I E (c := 0) (k := 0) (pc' := 54) rfl rfl rfl rfl rfl rfl rfl ?_
                refine pw_ld E (pc' := 56) (st' := [pw_i k43_8, .ref 17]) rfl (fun _ => rfl) ?_
                obtain ⟨f20l, f20h, -⟩ := pw_obj (c := 1) I rfl
                refine pw_call (m' := 59) (As := [.ref 17, pw_i k43_8]) (rest := []) (ls'' := [some (.ref 17), some (pw_i k43_8)]) (Nat.le_trans (by decide) hd) E rfl (fun _ => pw_iV rfl rfl rfl rfl (pw_cellI f20h rfl)) (rfl : pm_ent 59 = some (2, 2, 6, 1, pmc_59)) rfl rfl (cm_59 (pw_dp hd (by decide)) I (k43_8) (by omega) (by omega)) ?_
                rintro u22 v21 ⟨rfl, x23, rfl, hx23a, hx23b, hx23r⟩
                refine ⟨_, rfl, ?_⟩
                show pw X d h 134 59 [some (.ref 16), some (pw_i b), some (pw_i e), some (pw_i k43_3), some (.long k43_4), none, some (.long k43_6), none, some (pw_i k43_8), k43_9, none, k43_11, none] [pw_i x23] _
                change x23 = pw_g h 2 k43_8.toNat at hx23r
                rcases (by omega : x23 = 1 ∨ x23 = 0) with hb24 | hb24
                · skip
                  refine pw_if E (pc' := 147) rfl (by decide) (by omega) (by omega) ?_ ?_
                  · intro hc25
                    change x23 = (0 : Int) at hc25
                    exfalso; omega
                  · intro hc26
                    change ¬ (x23 = (0 : Int)) at hc26
                    refine pw_ld E (pc' := 63) (st' := [.ref 16]) rfl (fun _ => rfl) ?_
                    refine pw_getR (b := 26) I E (c := 0) (k := 2) (pc' := 66) rfl rfl rfl rfl rfl rfl rfl ?_
                    refine pw_ld E (pc' := 68) (st' := [pw_i k43_8, .ref 26]) rfl (fun _ => rfl) ?_
                    refine pw_ld E (pc' := 69) (st' := [pw_i b, pw_i k43_8, .ref 26]) rfl (fun _ => rfl) ?_
                    refine pw_ld E (pc' := 70) (st' := [pw_i e, pw_i b, pw_i k43_8, .ref 26]) rfl (fun _ => rfl) ?_
                    obtain ⟨f27l, f27h, -⟩ := pw_obj (c := 10) I rfl
                    refine pw_call (m' := 23) (As := [.ref 26, pw_i k43_8, pw_i b, pw_i e]) (rest := []) (ls'' := [some (.ref 26), some (pw_i k43_8), some (pw_i b), some (pw_i e)]) (Nat.le_trans (by decide) hd) E rfl (fun _ => pw_iV rfl rfl rfl rfl (pw_cellI f27h rfl)) (rfl : pm_ent 23 = some (4, 4, 2, 1, pmc_23)) rfl rfl (cm_23 (pw_dp hd (by decide)) I 10 (by unfold pw_Lg; omega) (k43_8) (by omega) (by omega) (b) (by omega) (by omega) (e) (by omega) (by omega)) ?_
                    rintro u29 v28 ⟨rfl, x30, rfl, hx30a, hx30b⟩
                    refine ⟨_, rfl, ?_⟩
                    show pw X d h 134 73 [some (.ref 16), some (pw_i b), some (pw_i e), some (pw_i k43_3), some (.long k43_4), none, some (.long k43_6), none, some (pw_i k43_8), k43_9, none, k43_11, none] [pw_i x30] _
                    refine pw_if E (pc' := 147) rfl (by decide) (by omega) (by omega) ?_ ?_
                    · intro hc31
                      change x30 ≠ (0 : Int) at hc31
                      refine pw_inc E (pc' := 150) (ls' := [some (.ref 16), some (pw_i b), some (pw_i e), some (pw_i k43_3), some (.long k43_4), none, some (.long k43_6), none, some (pw_i (k43_8 + 1)), k43_9, none, k43_11, none]) rfl rfl rfl rfl ?_
                      refine pw_goto E (pc' := 43) rfl (by decide) ?_
                      exact ih43 _ (by omega) (k43_3) (k43_4) (k43_6) (k43_8 + 1) k43_9 k43_11  (by omega) (by omega) (by omega) (by omega)  rfl
                    · intro hc32
                      change ¬ (x30 ≠ (0 : Int)) at hc32
                      refine pw_ld E (pc' := 77) (st' := [.ref 16]) rfl (fun _ => rfl) ?_
                      refine pw_getR (b := 17) I E (c := 0) (k := 0) (pc' := 80) rfl rfl rfl rfl rfl rfl rfl ?_
                      refine pw_ld E (pc' := 82) (st' := [pw_i k43_8, .ref 17]) rfl (fun _ => rfl) ?_
                      obtain ⟨f33l, f33h, -⟩ := pw_obj (c := 1) I rfl
                      refine pw_call (m' := 61) (As := [.ref 17, pw_i k43_8]) (rest := []) (ls'' := [some (.ref 17), some (pw_i k43_8)]) (Nat.le_trans (by decide) hd) E rfl (fun _ => pw_iV rfl rfl rfl rfl (pw_cellI f33h rfl)) (rfl : pm_ent 61 = some (2, 2, 6, 0, pmc_61)) rfl rfl (cm_61 (pw_dp hd (by decide)) I (k43_8) (by omega) (by omega)) ?_
                      rintro u35 v34 ⟨rfl, x36, rfl, hx36a, hx36b, hx36r⟩
                      refine ⟨_, rfl, ?_⟩
                      show pw X d h 134 85 [some (.ref 16), some (pw_i b), some (pw_i e), some (pw_i k43_3), some (.long k43_4), none, some (.long k43_6), none, some (pw_i k43_8), k43_9, none, k43_11, none] [pw_i x36] _
                      change x36 = pw_g h 6 k43_8.toNat at hx36r
                      refine pw_ld E (pc' := 86) (st' := [.long ((Int32.ofInt x36).toInt64)]) rfl (fun _ => rfl) ?_
                      refine pw_ld E (pc' := 87) (st' := [.ref 16, .long ((Int32.ofInt x36).toInt64)]) rfl (fun _ => rfl) ?_
                      refine pw_ld E (pc' := 89) (st' := [pw_i k43_8, .ref 16, .long ((Int32.ofInt x36).toInt64)]) rfl (fun _ => rfl) ?_
                      refine pw_ld E (pc' := 90) (st' := [pw_i b, pw_i k43_8, .ref 16, .long ((Int32.ofInt x36).toInt64)]) rfl (fun _ => rfl) ?_
                      refine pw_ld E (pc' := 91) (st' := [pw_i e, pw_i b, pw_i k43_8, .ref 16, .long ((Int32.ofInt x36).toInt64)]) rfl (fun _ => rfl) ?_
                      obtain ⟨f37l, f37h, -⟩ := pw_obj (c := 0) I rfl
                      refine pw_call (m' := 135) (As := [.ref 16, pw_i k43_8, pw_i b, pw_i e]) (rest := [.long ((Int32.ofInt x36).toInt64)]) (ls'' := [some (.ref 16), some (pw_i k43_8), some (pw_i b), some (pw_i e)]) (Nat.le_trans (by decide) hd) E rfl (fun _ => pw_iV rfl rfl rfl rfl (pw_cellI f37h rfl)) (rfl : pm_ent 135 = some (4, 4, 11, 0, pmc_135)) rfl rfl (cm_135 (pw_dp hd (by decide)) I (k43_8) (by omega) (by omega) (b) (by omega) (by omega) (e) (by omega) (by omega)) ?_
                      rintro u39 v38 ⟨rfl, x40, rfl, hx40a, hx40b⟩
                      refine ⟨_, rfl, ?_⟩
                      show pw X d h 134 94 [some (.ref 16), some (pw_i b), some (pw_i e), some (pw_i k43_3), some (.long k43_4), none, some (.long k43_6), none, some (pw_i k43_8), k43_9, none, k43_11, none] [pw_i x40, .long ((Int32.ofInt x36).toInt64)] _
                      refine pw_ld E (pc' := 95) (st' := [.long ((Int32.ofInt x40).toInt64), .long ((Int32.ofInt x36).toInt64)]) rfl (fun _ => rfl) ?_
                      refine pw_ld E (pc' := 96) (st' := [.long (((Int32.ofInt x36).toInt64) * ((Int32.ofInt x40).toInt64))]) rfl (fun _ => rfl) ?_
                      refine pw_lst E (pc' := 98) (ls' := [some (.ref 16), some (pw_i b), some (pw_i e), some (pw_i k43_3), some (.long k43_4), none, some (.long k43_6), none, some (pw_i k43_8), some (.long (((Int32.ofInt x36).toInt64) * ((Int32.ofInt x40).toInt64))), none, k43_11, none]) rfl rfl rfl rfl ?_
                      refine pw_ld E (pc' := 99) (st' := [.ref 16]) rfl (fun _ => rfl) ?_
                      refine pw_getR (b := 17) I E (c := 0) (k := 0) (pc' := 102) rfl rfl rfl rfl rfl rfl rfl ?_
                      refine pw_ld E (pc' := 103) (st' := [.ref 16, .ref 17]) rfl (fun _ => rfl) ?_
                      refine pw_getR (b := 17) I E (c := 0) (k := 0) (pc' := 106) rfl rfl rfl rfl rfl rfl rfl ?_
                      refine pw_ld E (pc' := 108) (st' := [pw_i k43_8, .ref 17, .ref 17]) rfl (fun _ => rfl) ?_
                      obtain ⟨f41l, f41h, -⟩ := pw_obj (c := 1) I rfl
                      refine pw_call (m' := 60) (As := [.ref 17, pw_i k43_8]) (rest := [.ref 17]) (ls'' := [some (.ref 17), some (pw_i k43_8)]) (Nat.le_trans (by decide) hd) E rfl (fun _ => pw_iV rfl rfl rfl rfl (pw_cellI f41h rfl)) (rfl : pm_ent 60 = some (2, 2, 6, 0, pmc_60)) rfl rfl (cm_60 (pw_dp hd (by decide)) I (k43_8) (by omega) (by omega)) ?_
                      rintro u43 v42 ⟨rfl, x44, rfl, hx44a, hx44b, hx44r⟩
                      refine ⟨_, rfl, ?_⟩
                      show pw X d h 134 111 [some (.ref 16), some (pw_i b), some (pw_i e), some (pw_i k43_3), some (.long k43_4), none, some (.long k43_6), none, some (pw_i k43_8), some (.long (((Int32.ofInt x36).toInt64) * ((Int32.ofInt x40).toInt64))), none, k43_11, none] [pw_i x44, .ref 17] _
                      change x44 = pw_g h 4 k43_8.toNat at hx44r
                      obtain ⟨f45l, f45h, -⟩ := pw_obj (c := 1) I rfl
                      refine pw_call (m' := 62) (As := [.ref 17, pw_i x44]) (rest := []) (ls'' := [some (.ref 17), some (pw_i x44), none, none]) (Nat.le_trans (by decide) hd) E rfl (fun _ => pw_iV rfl rfl rfl rfl (pw_cellI f45h rfl)) (rfl : pm_ent 62 = some (2, 4, 6, 0, pmc_62)) rfl rfl (cm_62 (pw_dp hd (by decide)) I (x44) (by omega) (by omega)) ?_
                      rintro u47 v46 ⟨rfl, x48, rfl, hx48a, hx48b⟩
                      refine ⟨_, rfl, ?_⟩
                      show pw X d h 134 114 [some (.ref 16), some (pw_i b), some (pw_i e), some (pw_i k43_3), some (.long k43_4), none, some (.long k43_6), none, some (pw_i k43_8), some (.long (((Int32.ofInt x36).toInt64) * ((Int32.ofInt x40).toInt64))), none, k43_11, none] [pw_i x48] _
                      refine pw_ld E (pc' := 115) (st' := [.long ((Int32.ofInt x48).toInt64)]) rfl (fun _ => rfl) ?_
                      refine pw_lst E (pc' := 117) (ls' := [some (.ref 16), some (pw_i b), some (pw_i e), some (pw_i k43_3), some (.long k43_4), none, some (.long k43_6), none, some (pw_i k43_8), some (.long (((Int32.ofInt x36).toInt64) * ((Int32.ofInt x40).toInt64))), none, some (.long ((Int32.ofInt x48).toInt64)), none]) rfl rfl rfl rfl ?_
                      refine pw_ld E (pc' := 118) (st' := [pw_i k43_3]) rfl (fun _ => rfl) ?_
                      refine pw_ld E (pc' := 119) (st' := [pw_i ((-1)), pw_i k43_3]) rfl (fun _ => rfl) ?_
                      refine pw_if2 E (pc' := 136) rfl (by decide) (by omega) (by omega) (by decide) (by decide) ?_ ?_
                      · intro hc49
                        change k43_3 = ((-1) : Int) at hc49
                        refine pw_ld E (pc' := 138) (st' := [pw_i k43_8]) rfl (fun _ => rfl) ?_
                        refine pw_istn E (pc' := 139) (ls' := [some (.ref 16), some (pw_i b), some (pw_i e), some (pw_i k43_8), some (.long k43_4), none, some (.long k43_6), none, some (pw_i k43_8), some (.long (((Int32.ofInt x36).toInt64) * ((Int32.ofInt x40).toInt64))), none, some (.long ((Int32.ofInt x48).toInt64)), none]) rfl rfl rfl rfl ?_
                        refine pw_ld E (pc' := 141) (st' := [.long (((Int32.ofInt x36).toInt64) * ((Int32.ofInt x40).toInt64))]) rfl (fun _ => rfl) ?_
                        refine pw_lst E (pc' := 143) (ls' := [some (.ref 16), some (pw_i b), some (pw_i e), some (pw_i k43_8), some (.long (((Int32.ofInt x36).toInt64) * ((Int32.ofInt x40).toInt64))), none, some (.long k43_6), none, some (pw_i k43_8), some (.long (((Int32.ofInt x36).toInt64) * ((Int32.ofInt x40).toInt64))), none, some (.long ((Int32.ofInt x48).toInt64)), none]) rfl rfl rfl rfl ?_
                        refine pw_ld E (pc' := 145) (st' := [.long ((Int32.ofInt x48).toInt64)]) rfl (fun _ => rfl) ?_
                        refine pw_lst E (pc' := 147) (ls' := [some (.ref 16), some (pw_i b), some (pw_i e), some (pw_i k43_8), some (.long (((Int32.ofInt x36).toInt64) * ((Int32.ofInt x40).toInt64))), none, some (.long ((Int32.ofInt x48).toInt64)), none, some (pw_i k43_8), some (.long (((Int32.ofInt x36).toInt64) * ((Int32.ofInt x40).toInt64))), none, some (.long ((Int32.ofInt x48).toInt64)), none]) rfl rfl rfl rfl ?_
                        refine pw_inc E (pc' := 150) (ls' := [some (.ref 16), some (pw_i b), some (pw_i e), some (pw_i k43_8), some (.long (((Int32.ofInt x36).toInt64) * ((Int32.ofInt x40).toInt64))), none, some (.long ((Int32.ofInt x48).toInt64)), none, some (pw_i (k43_8 + 1)), some (.long (((Int32.ofInt x36).toInt64) * ((Int32.ofInt x40).toInt64))), none, some (.long ((Int32.ofInt x48).toInt64)), none]) rfl rfl rfl rfl ?_
                        refine pw_goto E (pc' := 43) rfl (by decide) ?_
                        exact ih43 _ (by omega) (k43_8) (((Int32.ofInt x36).toInt64) * ((Int32.ofInt x40).toInt64)) ((Int32.ofInt x48).toInt64) (k43_8 + 1) (some (.long (((Int32.ofInt x36).toInt64) * ((Int32.ofInt x40).toInt64)))) (some (.long ((Int32.ofInt x48).toInt64)))  (by omega) (by omega) (by omega) (by omega)  rfl
                      · intro hc50
                        change ¬ (k43_3 = ((-1) : Int)) at hc50
                        refine pw_ld E (pc' := 124) (st' := [.long (((Int32.ofInt x36).toInt64) * ((Int32.ofInt x40).toInt64))]) rfl (fun _ => rfl) ?_
                        refine pw_ld E (pc' := 126) (st' := [.long k43_6, .long (((Int32.ofInt x36).toInt64) * ((Int32.ofInt x40).toInt64))]) rfl (fun _ => rfl) ?_
                        refine pw_ld E (pc' := 127) (st' := [.long ((((Int32.ofInt x36).toInt64) * ((Int32.ofInt x40).toInt64)) * k43_6)]) rfl (fun _ => rfl) ?_
                        refine pw_ld E (pc' := 129) (st' := [.long k43_4, .long ((((Int32.ofInt x36).toInt64) * ((Int32.ofInt x40).toInt64)) * k43_6)]) rfl (fun _ => rfl) ?_
                        refine pw_ld E (pc' := 131) (st' := [.long ((Int32.ofInt x48).toInt64), .long k43_4, .long ((((Int32.ofInt x36).toInt64) * ((Int32.ofInt x40).toInt64)) * k43_6)]) rfl (fun _ => rfl) ?_
                        refine pw_ld E (pc' := 132) (st' := [.long (k43_4 * ((Int32.ofInt x48).toInt64)), .long ((((Int32.ofInt x36).toInt64) * ((Int32.ofInt x40).toInt64)) * k43_6)]) rfl (fun _ => rfl) ?_
                        refine pw_lcmp E (pc' := 133) rfl rfl (fun c51 hc51 => ?_)
                        refine pw_if E (pc' := 147) rfl (by decide) (by omega) (by omega) ?_ ?_
                        · intro hc52
                          change c51 ≤ (0 : Int) at hc52
                          refine pw_inc E (pc' := 150) (ls' := [some (.ref 16), some (pw_i b), some (pw_i e), some (pw_i k43_3), some (.long k43_4), none, some (.long k43_6), none, some (pw_i (k43_8 + 1)), some (.long (((Int32.ofInt x36).toInt64) * ((Int32.ofInt x40).toInt64))), none, some (.long ((Int32.ofInt x48).toInt64)), none]) rfl rfl rfl rfl ?_
                          refine pw_goto E (pc' := 43) rfl (by decide) ?_
                          exact ih43 _ (by omega) (k43_3) (k43_4) (k43_6) (k43_8 + 1) (some (.long (((Int32.ofInt x36).toInt64) * ((Int32.ofInt x40).toInt64)))) (some (.long ((Int32.ofInt x48).toInt64)))  (by omega) (by omega) (by omega) (by omega)  rfl
                        · intro hc53
                          change ¬ (c51 ≤ (0 : Int)) at hc53
                          refine pw_ld E (pc' := 138) (st' := [pw_i k43_8]) rfl (fun _ => rfl) ?_
                          refine pw_istn E (pc' := 139) (ls' := [some (.ref 16), some (pw_i b), some (pw_i e), some (pw_i k43_8), some (.long k43_4), none, some (.long k43_6), none, some (pw_i k43_8), some (.long (((Int32.ofInt x36).toInt64) * ((Int32.ofInt x40).toInt64))), none, some (.long ((Int32.ofInt x48).toInt64)), none]) rfl rfl rfl rfl ?_
                          refine pw_ld E (pc' := 141) (st' := [.long (((Int32.ofInt x36).toInt64) * ((Int32.ofInt x40).toInt64))]) rfl (fun _ => rfl) ?_
                          refine pw_lst E (pc' := 143) (ls' := [some (.ref 16), some (pw_i b), some (pw_i e), some (pw_i k43_8), some (.long (((Int32.ofInt x36).toInt64) * ((Int32.ofInt x40).toInt64))), none, some (.long k43_6), none, some (pw_i k43_8), some (.long (((Int32.ofInt x36).toInt64) * ((Int32.ofInt x40).toInt64))), none, some (.long ((Int32.ofInt x48).toInt64)), none]) rfl rfl rfl rfl ?_
                          refine pw_ld E (pc' := 145) (st' := [.long ((Int32.ofInt x48).toInt64)]) rfl (fun _ => rfl) ?_
                          refine pw_lst E (pc' := 147) (ls' := [some (.ref 16), some (pw_i b), some (pw_i e), some (pw_i k43_8), some (.long (((Int32.ofInt x36).toInt64) * ((Int32.ofInt x40).toInt64))), none, some (.long ((Int32.ofInt x48).toInt64)), none, some (pw_i k43_8), some (.long (((Int32.ofInt x36).toInt64) * ((Int32.ofInt x40).toInt64))), none, some (.long ((Int32.ofInt x48).toInt64)), none]) rfl rfl rfl rfl ?_
                          refine pw_inc E (pc' := 150) (ls' := [some (.ref 16), some (pw_i b), some (pw_i e), some (pw_i k43_8), some (.long (((Int32.ofInt x36).toInt64) * ((Int32.ofInt x40).toInt64))), none, some (.long ((Int32.ofInt x48).toInt64)), none, some (pw_i (k43_8 + 1)), some (.long (((Int32.ofInt x36).toInt64) * ((Int32.ofInt x40).toInt64))), none, some (.long ((Int32.ofInt x48).toInt64)), none]) rfl rfl rfl rfl ?_
                          refine pw_goto E (pc' := 43) rfl (by decide) ?_
                          exact ih43 _ (by omega) (k43_8) (((Int32.ofInt x36).toInt64) * ((Int32.ofInt x40).toInt64)) ((Int32.ofInt x48).toInt64) (k43_8 + 1) (some (.long (((Int32.ofInt x36).toInt64) * ((Int32.ofInt x40).toInt64)))) (some (.long ((Int32.ofInt x48).toInt64)))  (by omega) (by omega) (by omega) (by omega)  rfl
                · skip
                  refine pw_if E (pc' := 147) rfl (by decide) (by omega) (by omega) ?_ ?_
                  · intro hc55
                    change x23 = (0 : Int) at hc55
                    refine pw_inc E (pc' := 150) (ls' := [some (.ref 16), some (pw_i b), some (pw_i e), some (pw_i k43_3), some (.long k43_4), none, some (.long k43_6), none, some (pw_i (k43_8 + 1)), k43_9, none, k43_11, none]) rfl rfl rfl rfl ?_
                    refine pw_goto E (pc' := 43) rfl (by decide) ?_
                    exact ih43 _ (by omega) (k43_3) (k43_4) (k43_6) (k43_8 + 1) k43_9 k43_11  (by omega) (by omega) (by omega) (by omega)  rfl
                  · intro hc56
                    change ¬ (x23 = (0 : Int)) at hc56
                    exfalso; omega
          exact L43 _ ((-1)) (Int64.ofNat 0) (Int64.ofNat 1) (0) (none) (none)  (by omega) (by omega) (by omega) (by omega)  rfl
        · intro hc57
          change ¬ (x16 ≠ (0 : Int)) at hc57
          refine pw_ld E (pc' := 31) (st' := [pw_i ((-1))]) rfl (fun _ => rfl) ?_
          refine pw_iret E rfl ?_
          exact ⟨rfl, ⟨_, rfl, by omega, by omega⟩⟩
  · skip
    refine pw_if E (pc' := 30) rfl (by decide) (by omega) (by omega) ?_ ?_
    · intro hc59
      change x3 = (0 : Int) at hc59
      refine pw_ld E (pc' := 31) (st' := [pw_i ((-1))]) rfl (fun _ => rfl) ?_
      refine pw_iret E rfl ?_
      exact ⟨rfl, ⟨_, rfl, by omega, by omega⟩⟩
    · intro hc60
      change ¬ (x3 = (0 : Int)) at hc60
      exfalso; omega
set_option maxHeartbeats 4000000 in
theorem cm_136 {X : List (Nat × List Value)} {d : Nat} {h : pm_H} (hd : 5 ≤ d) (I : pw_I h) (b : Int) (hb1 : (-2147483648) ≤ b) (hb2 : b ≤ 2147483647) (e : Int) (he1 : (-2147483648) ≤ e) (he2 : e ≤ 2147483647) (wt : Int) (hwt1 : (-2147483648) ≤ wt) (hwt2 : wt ≤ 2147483647) : pw X d h 136 0 [some (.ref 16), some (pw_i b), some (pw_i e), some (pw_i wt)] [] (fun h' v => pw_I h' ∧ pw_E [17, 18, 19, 22] h h' ∧ ∃ w : Int64, v = .inl (some (.long w))) := by
  have E : pm_ent 136 = some (4, 4, 11, 2, pmc_136) := rfl
  have E0 : pw_E [17, 18, 19, 22] h h := pw_E.rf _ _
  refine pw_ld E (pc' := 1) (st' := [pw_i b]) rfl (fun _ => rfl) ?_
  refine pw_ld E (pc' := 2) (st' := [pw_i e, pw_i b]) rfl (fun _ => rfl) ?_
  refine pw_call (m' := 131) (As := [pw_i b, pw_i e]) (rest := []) (ls'' := [some (pw_i b), some (pw_i e)]) (Nat.le_trans (by decide) hd) E rfl (fun _ => pw_iS rfl rfl rfl) (rfl : pm_ent 131 = some (2, 2, 11, 1, pmc_131)) rfl rfl (cm_131 (pw_dp hd (by decide)) I (b) (by omega) (by omega) (e) (by omega) (by omega)) ?_
  rintro u2 v1 ⟨rfl, x3, rfl, hx3a, hx3b, hx3r⟩
  refine ⟨_, rfl, ?_⟩
  show pw X d h 136 5 [some (.ref 16), some (pw_i b), some (pw_i e), some (pw_i wt)] [pw_i x3] _
  change (x3 = 1 ∧ 0 ≤ b ∧ b ≤ 11 ∧ 0 ≤ e ∧ e ≤ 11) ∨ x3 = 0 at hx3r
  rcases (by omega : x3 = 1 ∨ x3 = 0) with hb4 | hb4
  · skip
    refine pw_if E (pc' := 15) rfl (by decide) (by omega) (by omega) ?_ ?_
    · intro hc5
      change x3 = (0 : Int) at hc5
      exfalso; omega
    · intro hc6
      change ¬ (x3 = (0 : Int)) at hc6
      refine pw_ld E (pc' := 9) (st' := [pw_i wt]) rfl (fun _ => rfl) ?_
      refine pw_call (m' := 137) (As := [pw_i wt]) (rest := []) (ls'' := [some (pw_i wt)]) (Nat.le_trans (by decide) hd) E rfl (fun _ => pw_iS rfl rfl rfl) (rfl : pm_ent 137 = some (1, 1, 11, 1, pmc_137)) rfl rfl (cm_137 (pw_dp hd (by decide)) I (wt) (by omega) (by omega)) ?_
      rintro u8 v7 ⟨rfl, x9, rfl, hx9a, hx9b, hx9r⟩
      refine ⟨_, rfl, ?_⟩
      show pw X d h 136 12 [some (.ref 16), some (pw_i b), some (pw_i e), some (pw_i wt)] [pw_i x9] _
      change (x9 = 1 ∧ 0 ≤ wt ∧ wt ≤ 1) ∨ (x9 = 0 ∧ ¬ (0 ≤ wt ∧ wt ≤ 1)) at hx9r
      rcases (by omega : x9 = 1 ∨ x9 = 0) with hb10 | hb10
      · skip
        refine pw_if E (pc' := 19) rfl (by decide) (by omega) (by omega) ?_ ?_
        · intro hc11
          change x9 ≠ (0 : Int) at hc11
          refine pw_ld E (pc' := 20) (st' := [.ref 16]) rfl (fun _ => rfl) ?_
          refine pw_ld E (pc' := 21) (st' := [pw_i b, .ref 16]) rfl (fun _ => rfl) ?_
          refine pw_ld E (pc' := 22) (st' := [pw_i e, pw_i b, .ref 16]) rfl (fun _ => rfl) ?_
          obtain ⟨f12l, f12h, -⟩ := pw_obj (c := 0) I rfl
          refine pw_call (m' := 138) (As := [.ref 16, pw_i b, pw_i e]) (rest := []) (ls'' := [some (.ref 16), some (pw_i b), some (pw_i e), none]) (Nat.le_trans (by decide) hd) E rfl (fun _ => pw_iV rfl rfl rfl rfl (pw_cellI f12h rfl)) (rfl : pm_ent 138 = some (3, 4, 11, 4, pmc_138)) rfl rfl (cm_138 (pw_dp hd (by decide)) I (b) (by omega) (by omega) (e) (by omega) (by omega)) ?_
          rintro h13 v14 ⟨h13I, h13E, rfl⟩
          refine ⟨_, rfl, ?_⟩
          have h13F := E0.tr (h13E.wk (W' := [17, 18, 19, 22]) (by first | rfl | simp))
          show pw X d h13 136 25 [some (.ref 16), some (pw_i b), some (pw_i e), some (pw_i wt)] [] _
          refine pw_ld E (pc' := 26) (st' := [.ref 16]) rfl (fun _ => rfl) ?_
          refine pw_getR (b := 32) h13I E (c := 0) (k := 7) (pc' := 29) rfl rfl rfl rfl rfl rfl rfl ?_
          obtain ⟨f15l, f15h, -⟩ := pw_obj (c := 16) h13I rfl
          refine pw_call (m' := 86) (As := [.ref 32]) (rest := []) (ls'' := [some (.ref 32)]) (Nat.le_trans (by decide) hd) E rfl (fun _ => pw_iV rfl rfl rfl rfl (pw_cellI f15h rfl)) (rfl : pm_ent 86 = some (1, 1, 8, 1, pmc_86)) rfl rfl (cm_86 (pw_dp hd (by decide)) h13I ) ?_
          rintro u17 v16 ⟨rfl, x18, rfl, hx18a, hx18b⟩
          refine ⟨_, rfl, ?_⟩
          show pw X d h13 136 32 [some (.ref 16), some (pw_i b), some (pw_i e), some (pw_i wt)] [pw_i x18] _
          refine pw_if E (pc' := 57) rfl (by decide) (by omega) (by omega) ?_ ?_
          · intro hc19
            change x18 ≠ (0 : Int) at hc19
            refine pw_ld E (pc' := 60) (st' := [.long (Int64.ofNat 18446744073709551615)]) rfl (fun _ => rfl) ?_
            refine pw_lret E rfl ?_
            exact ⟨h13I, h13F, ⟨_, rfl⟩⟩
          · intro hc20
            change ¬ (x18 ≠ (0 : Int)) at hc20
            refine pw_ld E (pc' := 36) (st' := [.ref 16]) rfl (fun _ => rfl) ?_
            refine pw_getR (b := 32) h13I E (c := 0) (k := 7) (pc' := 39) rfl rfl rfl rfl rfl rfl rfl ?_
            refine pw_ld E (pc' := 40) (st' := [pw_i 0, .ref 32]) rfl (fun _ => rfl) ?_
            obtain ⟨f21l, f21h, -⟩ := pw_obj (c := 16) h13I rfl
            refine pw_call (m' := 84) (As := [.ref 32, pw_i 0]) (rest := []) (ls'' := [some (.ref 32), some (pw_i 0), none, none]) (Nat.le_trans (by decide) hd) E rfl (fun _ => pw_iV rfl rfl rfl rfl (pw_cellI f21h rfl)) (rfl : pm_ent 84 = some (2, 4, 8, 0, pmc_84)) rfl rfl (cm_84 (pw_dp hd (by decide)) h13I (0) (by omega) (by omega)) ?_
            rintro u23 v22 ⟨rfl, x24, rfl, hx24a, hx24b⟩
            refine ⟨_, rfl, ?_⟩
            show pw X d h13 136 43 [some (.ref 16), some (pw_i b), some (pw_i e), some (pw_i wt)] [pw_i x24] _
            refine pw_ld E (pc' := 44) (st' := [.ref 16, pw_i x24]) rfl (fun _ => rfl) ?_
            refine pw_getR (b := 32) h13I E (c := 0) (k := 7) (pc' := 47) rfl rfl rfl rfl rfl rfl rfl ?_
            refine pw_ld E (pc' := 48) (st' := [pw_i 1, .ref 32, pw_i x24]) rfl (fun _ => rfl) ?_
            obtain ⟨f25l, f25h, -⟩ := pw_obj (c := 16) h13I rfl
            refine pw_call (m' := 84) (As := [.ref 32, pw_i 1]) (rest := [pw_i x24]) (ls'' := [some (.ref 32), some (pw_i 1), none, none]) (Nat.le_trans (by decide) hd) E rfl (fun _ => pw_iV rfl rfl rfl rfl (pw_cellI f25h rfl)) (rfl : pm_ent 84 = some (2, 4, 8, 0, pmc_84)) rfl rfl (cm_84 (pw_dp hd (by decide)) h13I (1) (by omega) (by omega)) ?_
            rintro u27 v26 ⟨rfl, x28, rfl, hx28a, hx28b⟩
            refine ⟨_, rfl, ?_⟩
            show pw X d h13 136 51 [some (.ref 16), some (pw_i b), some (pw_i e), some (pw_i wt)] [pw_i x28, pw_i x24] _
            refine pw_add E (pc' := 52) rfl rfl ?_
            refine pw_bip E (pc' := 54) rfl rfl (by decide) ?_
            refine pw_if2 E (pc' := 61) rfl (by decide) (by omega) (by omega) (by decide) (by decide) ?_ ?_
            · intro hc29
              change x24 + x28 ≤ (14 : Int) at hc29
              refine pw_ld E (pc' := 62) (st' := [.ref 16]) rfl (fun _ => rfl) ?_
              refine pw_getR (b := 32) h13I E (c := 0) (k := 7) (pc' := 65) rfl rfl rfl rfl rfl rfl rfl ?_
              refine pw_ld E (pc' := 66) (st' := [.ref 16, .ref 32]) rfl (fun _ => rfl) ?_
              refine pw_getR (b := 38) h13I E (c := 0) (k := 8) (pc' := 69) rfl rfl rfl rfl rfl rfl rfl ?_
              obtain ⟨f30l, f30h, -⟩ := pw_obj (c := 16) h13I rfl
              refine pw_call (m' := 87) (As := [.ref 32, .ref 38]) (rest := []) (ls'' := [some (.ref 32), some (.ref 38), none, none, none, none, none, none, none, none, none]) (Nat.le_trans (by decide) hd) E rfl (fun _ => pw_iV rfl rfl rfl rfl (pw_cellI f30h rfl)) (rfl : pm_ent 87 = some (2, 11, 8, 4, pmc_87)) rfl rfl (cm_87 (pw_dp hd (by decide)) h13I 22 (by unfold pw_Fr; omega)) ?_
              rintro h31 v32 ⟨h31I, h31E, rfl⟩
              refine ⟨_, rfl, ?_⟩
              have h31F := h13F.tr (h31E.wk (W' := [17, 18, 19, 22]) (by first | rfl | simp))
              show pw X d h31 136 72 [some (.ref 16), some (pw_i b), some (pw_i e), some (pw_i wt)] [] _
              refine pw_ld E (pc' := 73) (st' := [.ref 16]) rfl (fun _ => rfl) ?_
              refine pw_getR (b := 38) h31I E (c := 0) (k := 8) (pc' := 76) rfl rfl rfl rfl rfl rfl rfl ?_
              refine pw_ld E (pc' := 77) (st' := [pw_i wt, .ref 38]) rfl (fun _ => rfl) ?_
              obtain ⟨f33l, f33h, -⟩ := pw_obj (c := 22) h31I rfl
              refine pw_call (m' := 9) (As := [.ref 38, pw_i wt]) (rest := []) (ls'' := [some (.ref 38), some (pw_i wt)]) (Nat.le_trans (by decide) hd) E rfl (fun _ => pw_iV rfl rfl rfl rfl (pw_cellI f33h rfl)) (rfl : pm_ent 9 = some (2, 2, 1, 2, pmc_9)) rfl rfl (cm_9 (pw_dp hd (by decide)) h31I 22 (by unfold pw_Fr; omega) (wt) (by omega) (by omega)) ?_
              rintro u35 v34 ⟨rfl, w36, rfl⟩
              refine ⟨_, rfl, ?_⟩
              show pw X d h31 136 80 [some (.ref 16), some (pw_i b), some (pw_i e), some (pw_i wt)] [.long w36] _
              refine pw_lret E rfl ?_
              exact ⟨h31I, h31F, ⟨_, rfl⟩⟩
            · intro hc37
              change ¬ (x24 + x28 ≤ (14 : Int)) at hc37
              refine pw_ld E (pc' := 60) (st' := [.long (Int64.ofNat 18446744073709551615)]) rfl (fun _ => rfl) ?_
              refine pw_lret E rfl ?_
              exact ⟨h13I, h13F, ⟨_, rfl⟩⟩
        · intro hc38
          change ¬ (x9 ≠ (0 : Int)) at hc38
          exfalso; omega
      · skip
        refine pw_if E (pc' := 19) rfl (by decide) (by omega) (by omega) ?_ ?_
        · intro hc40
          change x9 ≠ (0 : Int) at hc40
          exfalso; omega
        · intro hc41
          change ¬ (x9 ≠ (0 : Int)) at hc41
          refine pw_ld E (pc' := 18) (st' := [.long (Int64.ofNat 18446744073709551615)]) rfl (fun _ => rfl) ?_
          refine pw_lret E rfl ?_
          exact ⟨I, E0, ⟨_, rfl⟩⟩
  · skip
    refine pw_if E (pc' := 15) rfl (by decide) (by omega) (by omega) ?_ ?_
    · intro hc43
      change x3 = (0 : Int) at hc43
      refine pw_ld E (pc' := 18) (st' := [.long (Int64.ofNat 18446744073709551615)]) rfl (fun _ => rfl) ?_
      refine pw_lret E rfl ?_
      exact ⟨I, E0, ⟨_, rfl⟩⟩
    · intro hc44
      change ¬ (x3 = (0 : Int)) at hc44
      exfalso; omega
set_option maxHeartbeats 4000000 in
theorem cm_139 {X : List (Nat × List Value)} {d : Nat} {h : pm_H} (hd : 5 ≤ d) (I : pw_I h) (mo : Int) (hmo1 : (-2147483648) ≤ mo) (hmo2 : mo ≤ 2147483647) (wt : Int) (hwt1 : (-2147483648) ≤ wt) (hwt2 : wt ≤ 2147483647) : pw X d h 139 0 [some (.ref 16), some (pw_i mo), some (pw_i wt), none, none] [] (fun h' v => pw_I h' ∧ pw_E [17, 18, 22, 23] h h' ∧ ∃ w : Int64, v = .inl (some (.long w))) := by
  have E : pm_ent 139 = some (3, 5, 11, 2, pmc_139) := rfl
  have E0 : pw_E [17, 18, 22, 23] h h := pw_E.rf _ _
  refine pw_ld E (pc' := 1) (st' := [pw_i mo]) rfl (fun _ => rfl) ?_
  refine pw_ld E (pc' := 2) (st' := [pw_i 1, pw_i mo]) rfl (fun _ => rfl) ?_
  refine pw_bip E (pc' := 4) rfl rfl (by decide) ?_
  refine pw_call (m' := 121) (As := [pw_i mo, pw_i 1, pw_i 11]) (rest := []) (ls'' := [some (pw_i mo), some (pw_i 1), some (pw_i 11)]) (Nat.le_trans (by decide) hd) E rfl (fun _ => pw_iS rfl rfl rfl) (rfl : pm_ent 121 = some (3, 3, 11, 1, pmc_121)) rfl rfl (cm_121 (pw_dp hd (by decide)) I (mo) (by omega) (by omega) (1) (by omega) (by omega) (11) (by omega) (by omega)) ?_
  rintro u2 v1 ⟨rfl, x3, rfl, hx3a, hx3b, hx3r⟩
  refine ⟨_, rfl, ?_⟩
  show pw X d h 139 7 [some (.ref 16), some (pw_i mo), some (pw_i wt), none, none] [pw_i x3] _
  change (x3 = 1 ∧ 1 ≤ mo ∧ mo ≤ 11) ∨ (x3 = 0 ∧ ¬ (1 ≤ mo ∧ mo ≤ 11)) at hx3r
  rcases (by omega : x3 = 1 ∨ x3 = 0) with hb4 | hb4
  · skip
    refine pw_if E (pc' := 19) rfl (by decide) (by omega) (by omega) ?_ ?_
    · intro hc5
      change x3 = (0 : Int) at hc5
      exfalso; omega
    · intro hc6
      change ¬ (x3 = (0 : Int)) at hc6
      refine pw_ld E (pc' := 11) (st' := [pw_i wt]) rfl (fun _ => rfl) ?_
      refine pw_ld E (pc' := 12) (st' := [pw_i 0, pw_i wt]) rfl (fun _ => rfl) ?_
      refine pw_ld E (pc' := 13) (st' := [pw_i 2, pw_i 0, pw_i wt]) rfl (fun _ => rfl) ?_
      refine pw_call (m' := 121) (As := [pw_i wt, pw_i 0, pw_i 2]) (rest := []) (ls'' := [some (pw_i wt), some (pw_i 0), some (pw_i 2)]) (Nat.le_trans (by decide) hd) E rfl (fun _ => pw_iS rfl rfl rfl) (rfl : pm_ent 121 = some (3, 3, 11, 1, pmc_121)) rfl rfl (cm_121 (pw_dp hd (by decide)) I (wt) (by omega) (by omega) (0) (by omega) (by omega) (2) (by omega) (by omega)) ?_
      rintro u8 v7 ⟨rfl, x9, rfl, hx9a, hx9b, hx9r⟩
      refine ⟨_, rfl, ?_⟩
      show pw X d h 139 16 [some (.ref 16), some (pw_i mo), some (pw_i wt), none, none] [pw_i x9] _
      change (x9 = 1 ∧ 0 ≤ wt ∧ wt ≤ 2) ∨ (x9 = 0 ∧ ¬ (0 ≤ wt ∧ wt ≤ 2)) at hx9r
      rcases (by omega : x9 = 1 ∨ x9 = 0) with hb10 | hb10
      · skip
        refine pw_if E (pc' := 23) rfl (by decide) (by omega) (by omega) ?_ ?_
        · intro hc11
          change x9 ≠ (0 : Int) at hc11
          refine pw_ld E (pc' := 24) (st' := [pw_i 0]) rfl (fun _ => rfl) ?_
          refine pw_istn E (pc' := 25) (ls' := [some (.ref 16), some (pw_i mo), some (pw_i wt), some (pw_i 0), none]) rfl rfl rfl rfl ?_
          refine pw_ld E (pc' := 26) (st' := [.ref 16]) rfl (fun _ => rfl) ?_
          refine pw_getR (b := 39) I E (c := 0) (k := 9) (pc' := 29) rfl rfl rfl rfl rfl rfl rfl ?_
          refine pw_ld E (pc' := 30) (st' := [.long (Int64.ofNat 0), .ref 39]) rfl (fun _ => rfl) ?_
          refine pw_ld E (pc' := 31) (st' := [.long (Int64.ofNat 1), .long (Int64.ofNat 0), .ref 39]) rfl (fun _ => rfl) ?_
          obtain ⟨f12l, f12h, -⟩ := pw_obj (c := 23) I rfl
          refine pw_call (m' := 6) (As := [.ref 39, .long (Int64.ofNat 0), .long (Int64.ofNat 1)]) (rest := []) (ls'' := [some (.ref 39), some (.long (Int64.ofNat 0)), none, some (.long (Int64.ofNat 1)), none, none, none]) (Nat.le_trans (by decide) hd) E rfl (fun _ => pw_iV rfl rfl rfl rfl (pw_cellI f12h rfl)) (rfl : pm_ent 6 = some (3, 7, 1, 4, pmc_6)) rfl rfl (cm_6 (pw_dp hd (by decide)) I 23 (by unfold pw_Fr; omega) (Int64.ofNat 0) (Int64.ofNat 1)) ?_
          rintro h13 v14 ⟨h13I, h13E, rfl⟩
          refine ⟨_, rfl, ?_⟩
          have h13F := E0.tr (h13E.wk (W' := [17, 18, 22, 23]) (by first | rfl | simp))
          show pw X d h13 139 34 [some (.ref 16), some (pw_i mo), some (pw_i wt), some (pw_i 0), none] [] _
          refine pw_ld E (pc' := 35) (st' := [pw_i 1]) rfl (fun _ => rfl) ?_
          refine pw_ist E (pc' := 37) (ls' := [some (.ref 16), some (pw_i mo), some (pw_i wt), some (pw_i 0), some (pw_i 1)]) rfl rfl rfl rfl ?_
          have L37 : ∀ (n37 : Nat) (k37_3 : Int) (k37_4 : Int) (h37 : pm_H), pw_I h37 → pw_E [17, 18, 22, 23] h h37 → 0 ≤ k37_3 → k37_3 ≤ 11 → 1 ≤ k37_4 → k37_4 ≤ 12 → k37_3 + 1 ≤ k37_4 + 0 → (12 - k37_4).toNat = n37 → pw X d h37 139 37 [some (.ref 16), some (pw_i mo), some (pw_i wt), some (pw_i k37_3), some (pw_i k37_4)] [] (fun h' v => pw_I h' ∧ pw_E [17, 18, 22, 23] h h' ∧ ∃ w : Int64, v = .inl (some (.long w))) := by
            intro n37
            induction n37 using Nat.strongRecOn with
            | ind n37 ih37 =>
              intro k37_3 k37_4 h37 I37 E37 k37_3a k37_3b k37_4a k37_4b hx37_0 hm37
              refine pw_ld E (pc' := 39) (st' := [pw_i k37_4]) rfl (fun _ => rfl) ?_
              refine pw_ld E (pc' := 40) (st' := [pw_i mo, pw_i k37_4]) rfl (fun _ => rfl) ?_
              refine pw_if2 E (pc' := 108) rfl (by decide) (by omega) (by omega) (by omega) (by omega) ?_ ?_
              · intro hc15
                change mo < k37_4 at hc15
                refine pw_ld E (pc' := 109) (st' := [pw_i wt]) rfl (fun _ => rfl) ?_
                refine pw_if E (pc' := 115) rfl (by decide) (by omega) (by omega) ?_ ?_
                · intro hc16
                  change wt ≠ (0 : Int) at hc16
                  refine pw_ld E (pc' := 116) (st' := [pw_i k37_3]) rfl (fun _ => rfl) ?_
                  refine pw_if E (pc' := 125) rfl (by decide) (by omega) (by omega) ?_ ?_
                  · intro hc17
                    change k37_3 ≠ (0 : Int) at hc17
                    refine pw_ld E (pc' := 126) (st' := [.ref 16]) rfl (fun _ => rfl) ?_
                    refine pw_getR (b := 39) I37 E (c := 0) (k := 9) (pc' := 129) rfl rfl rfl rfl rfl rfl rfl ?_
                    refine pw_ld E (pc' := 130) (st' := [pw_i wt, .ref 39]) rfl (fun _ => rfl) ?_
                    refine pw_ld E (pc' := 131) (st' := [pw_i 1, pw_i wt, .ref 39]) rfl (fun _ => rfl) ?_
                    refine pw_sub E (pc' := 132) rfl rfl ?_
                    obtain ⟨f18l, f18h, -⟩ := pw_obj (c := 23) I37 rfl
                    refine pw_call (m' := 9) (As := [.ref 39, pw_i (wt - 1)]) (rest := []) (ls'' := [some (.ref 39), some (pw_i (wt - 1))]) (Nat.le_trans (by decide) hd) E rfl (fun _ => pw_iV rfl rfl rfl rfl (pw_cellI f18h rfl)) (rfl : pm_ent 9 = some (2, 2, 1, 2, pmc_9)) rfl rfl (cm_9 (pw_dp hd (by decide)) I37 23 (by unfold pw_Fr; omega) (wt - 1) (by omega) (by omega)) ?_
                    rintro u20 v19 ⟨rfl, w21, rfl⟩
                    refine ⟨_, rfl, ?_⟩
                    show pw X d h37 139 135 [some (.ref 16), some (pw_i mo), some (pw_i wt), some (pw_i k37_3), some (pw_i k37_4)] [.long w21] _
                    refine pw_lret E rfl ?_
                    exact ⟨I37, E37, ⟨_, rfl⟩⟩
                  · intro hc22
                    change ¬ (k37_3 ≠ (0 : Int)) at hc22
                    refine pw_ld E (pc' := 122) (st' := [.long (Int64.ofNat 18446744073709551615)]) rfl (fun _ => rfl) ?_
                    refine pw_goto E (pc' := 135) rfl (by decide) ?_
                    refine pw_lret E rfl ?_
                    exact ⟨I37, E37, ⟨_, rfl⟩⟩
                · intro hc23
                  change ¬ (wt ≠ (0 : Int)) at hc23
                  refine pw_ld E (pc' := 113) (st' := [pw_i k37_3]) rfl (fun _ => rfl) ?_
                  refine pw_ld E (pc' := 114) (st' := [.long ((Int32.ofInt k37_3).toInt64)]) rfl (fun _ => rfl) ?_
                  refine pw_lret E rfl ?_
                  exact ⟨I37, E37, ⟨_, rfl⟩⟩
              · intro hc24
                change ¬ (mo < k37_4) at hc24
                refine pw_ld E (pc' := 44) (st' := [.ref 16]) rfl (fun _ => rfl) ?_
                refine pw_ld E (pc' := 46) (st' := [pw_i k37_4, .ref 16]) rfl (fun _ => rfl) ?_
                refine pw_ld E (pc' := 47) (st' := [pw_i 1, pw_i k37_4, .ref 16]) rfl (fun _ => rfl) ?_
                refine pw_sub E (pc' := 48) rfl rfl ?_
                refine pw_ld E (pc' := 50) (st' := [pw_i k37_4, pw_i (k37_4 - 1), .ref 16]) rfl (fun _ => rfl) ?_
                obtain ⟨f25l, f25h, -⟩ := pw_obj (c := 0) I37 rfl
                refine pw_call (m' := 138) (As := [.ref 16, pw_i (k37_4 - 1), pw_i k37_4]) (rest := []) (ls'' := [some (.ref 16), some (pw_i (k37_4 - 1)), some (pw_i k37_4), none]) (Nat.le_trans (by decide) hd) E rfl (fun _ => pw_iV rfl rfl rfl rfl (pw_cellI f25h rfl)) (rfl : pm_ent 138 = some (3, 4, 11, 4, pmc_138)) rfl rfl (cm_138 (pw_dp hd (by decide)) I37 (k37_4 - 1) (by omega) (by omega) (k37_4) (by omega) (by omega)) ?_
                rintro h26 v27 ⟨h26I, h26E, rfl⟩
                refine ⟨_, rfl, ?_⟩
                have h26F := E37.tr (h26E.wk (W' := [17, 18, 22, 23]) (by first | rfl | simp))
                show pw X d h26 139 53 [some (.ref 16), some (pw_i mo), some (pw_i wt), some (pw_i k37_3), some (pw_i k37_4)] [] _
                refine pw_ld E (pc' := 54) (st' := [.ref 16]) rfl (fun _ => rfl) ?_
                refine pw_getR (b := 32) h26I E (c := 0) (k := 7) (pc' := 57) rfl rfl rfl rfl rfl rfl rfl ?_
                refine pw_ld E (pc' := 58) (st' := [.ref 16, .ref 32]) rfl (fun _ => rfl) ?_
                refine pw_getR (b := 38) h26I E (c := 0) (k := 8) (pc' := 61) rfl rfl rfl rfl rfl rfl rfl ?_
                obtain ⟨f28l, f28h, -⟩ := pw_obj (c := 16) h26I rfl
                refine pw_call (m' := 83) (As := [.ref 32, .ref 38]) (rest := []) (ls'' := [some (.ref 32), some (.ref 38), none, none, none, none]) (Nat.le_trans (by decide) hd) E rfl (fun _ => pw_iV rfl rfl rfl rfl (pw_cellI f28h rfl)) (rfl : pm_ent 83 = some (2, 6, 8, 1, pmc_83)) rfl rfl (cm_83 (pw_dp hd (by decide)) h26I 22 (by unfold pw_Fr; omega)) ?_
                rintro h29 v30 ⟨h29I, h29E, x31, rfl, hx31a, hx31b⟩
                refine ⟨_, rfl, ?_⟩
                have h29F := h26F.tr (h29E.wk (W' := [17, 18, 22, 23]) (by first | rfl | simp))
                show pw X d h29 139 64 [some (.ref 16), some (pw_i mo), some (pw_i wt), some (pw_i k37_3), some (pw_i k37_4)] [pw_i x31] _
                refine pw_if E (pc' := 102) rfl (by decide) (by omega) (by omega) ?_ ?_
                · intro hc32
                  change x31 = (0 : Int) at hc32
                  refine pw_inc E (pc' := 105) (ls' := [some (.ref 16), some (pw_i mo), some (pw_i wt), some (pw_i k37_3), some (pw_i (k37_4 + 1))]) rfl rfl rfl rfl ?_
                  refine pw_goto E (pc' := 37) rfl (by decide) ?_
                  exact ih37 _ (by omega) (k37_3) (k37_4 + 1) h29 h29I h29F (by omega) (by omega) (by omega) (by omega) (by omega) rfl
                · intro hc33
                  change ¬ (x31 = (0 : Int)) at hc33
                  refine pw_inc E (pc' := 70) (ls' := [some (.ref 16), some (pw_i mo), some (pw_i wt), some (pw_i (k37_3 + 1)), some (pw_i k37_4)]) rfl rfl rfl rfl ?_
                  refine pw_ld E (pc' := 71) (st' := [.ref 16]) rfl (fun _ => rfl) ?_
                  refine pw_getR (b := 38) h29I E (c := 0) (k := 8) (pc' := 74) rfl rfl rfl rfl rfl rfl rfl ?_
                  obtain ⟨f34l, f34h, -⟩ := pw_obj (c := 22) h29I rfl
                  refine pw_call (m' := 10) (As := [.ref 38]) (rest := []) (ls'' := [some (.ref 38)]) (Nat.le_trans (by decide) hd) E rfl (fun _ => pw_iV rfl rfl rfl rfl (pw_cellI f34h rfl)) (rfl : pm_ent 10 = some (1, 1, 1, 4, pmc_10)) rfl rfl (cm_10 (pw_dp hd (by decide)) h29I 22 (by unfold pw_Fr; omega)) ?_
                  rintro h35 v36 ⟨h35I, h35E, rfl⟩
                  refine ⟨_, rfl, ?_⟩
                  have h35F := h29F.tr (h35E.wk (W' := [17, 18, 22, 23]) (by first | rfl | simp))
                  show pw X d h35 139 77 [some (.ref 16), some (pw_i mo), some (pw_i wt), some (pw_i (k37_3 + 1)), some (pw_i k37_4)] [] _
                  refine pw_ld E (pc' := 78) (st' := [.ref 16]) rfl (fun _ => rfl) ?_
                  refine pw_getR (b := 39) h35I E (c := 0) (k := 9) (pc' := 81) rfl rfl rfl rfl rfl rfl rfl ?_
                  refine pw_ld E (pc' := 82) (st' := [.ref 16, .ref 39]) rfl (fun _ => rfl) ?_
                  refine pw_getR (b := 38) h35I E (c := 0) (k := 8) (pc' := 85) rfl rfl rfl rfl rfl rfl rfl ?_
                  obtain ⟨f37l, f37h, -⟩ := pw_obj (c := 23) h35I rfl
                  refine pw_call (m' := 11) (As := [.ref 39, .ref 38]) (rest := []) (ls'' := [some (.ref 39), some (.ref 38)]) (Nat.le_trans (by decide) hd) E rfl (fun _ => pw_iV rfl rfl rfl rfl (pw_cellI f37h rfl)) (rfl : pm_ent 11 = some (2, 2, 1, 1, pmc_11)) rfl rfl (cm_11 (pw_dp hd (by decide)) h35I 23 (by unfold pw_Fr; omega) 22 (by unfold pw_Fr; omega)) ?_
                  rintro u39 v38 ⟨rfl, x40, rfl, hx40a, hx40b⟩
                  refine ⟨_, rfl, ?_⟩
                  show pw X d h35 139 88 [some (.ref 16), some (pw_i mo), some (pw_i wt), some (pw_i (k37_3 + 1)), some (pw_i k37_4)] [pw_i x40] _
                  refine pw_if E (pc' := 102) rfl (by decide) (by omega) (by omega) ?_ ?_
                  · intro hc41
                    change x40 = (0 : Int) at hc41
                    refine pw_inc E (pc' := 105) (ls' := [some (.ref 16), some (pw_i mo), some (pw_i wt), some (pw_i (k37_3 + 1)), some (pw_i (k37_4 + 1))]) rfl rfl rfl rfl ?_
                    refine pw_goto E (pc' := 37) rfl (by decide) ?_
                    exact ih37 _ (by omega) (k37_3 + 1) (k37_4 + 1) h35 h35I h35F (by omega) (by omega) (by omega) (by omega) (by omega) rfl
                  · intro hc42
                    change ¬ (x40 = (0 : Int)) at hc42
                    refine pw_ld E (pc' := 92) (st' := [.ref 16]) rfl (fun _ => rfl) ?_
                    refine pw_getR (b := 39) h35I E (c := 0) (k := 9) (pc' := 95) rfl rfl rfl rfl rfl rfl rfl ?_
                    refine pw_ld E (pc' := 96) (st' := [.ref 16, .ref 39]) rfl (fun _ => rfl) ?_
                    refine pw_getR (b := 38) h35I E (c := 0) (k := 8) (pc' := 99) rfl rfl rfl rfl rfl rfl rfl ?_
                    obtain ⟨f43l, f43h, -⟩ := pw_obj (c := 23) h35I rfl
                    refine pw_call (m' := 12) (As := [.ref 39, .ref 38]) (rest := []) (ls'' := [some (.ref 39), some (.ref 38)]) (Nat.le_trans (by decide) hd) E rfl (fun _ => pw_iV rfl rfl rfl rfl (pw_cellI f43h rfl)) (rfl : pm_ent 12 = some (2, 2, 1, 4, pmc_12)) rfl rfl (cm_12 (pw_dp hd (by decide)) h35I 23 (by unfold pw_Fr; omega) 22 (by unfold pw_Fr; omega)) ?_
                    rintro h44 v45 ⟨h44I, h44E, rfl⟩
                    refine ⟨_, rfl, ?_⟩
                    have h44F := h35F.tr (h44E.wk (W' := [17, 18, 22, 23]) (by first | rfl | simp))
                    show pw X d h44 139 102 [some (.ref 16), some (pw_i mo), some (pw_i wt), some (pw_i (k37_3 + 1)), some (pw_i k37_4)] [] _
                    refine pw_inc E (pc' := 105) (ls' := [some (.ref 16), some (pw_i mo), some (pw_i wt), some (pw_i (k37_3 + 1)), some (pw_i (k37_4 + 1))]) rfl rfl rfl rfl ?_
                    refine pw_goto E (pc' := 37) rfl (by decide) ?_
                    exact ih37 _ (by omega) (k37_3 + 1) (k37_4 + 1) h44 h44I h44F (by omega) (by omega) (by omega) (by omega) (by omega) rfl
          exact L37 _ (0) (1) h13 h13I h13F (by omega) (by omega) (by omega) (by omega) (by omega) rfl
        · intro hc46
          change ¬ (x9 ≠ (0 : Int)) at hc46
          exfalso; omega
      · skip
        refine pw_if E (pc' := 23) rfl (by decide) (by omega) (by omega) ?_ ?_
        · intro hc48
          change x9 ≠ (0 : Int) at hc48
          exfalso; omega
        · intro hc49
          change ¬ (x9 ≠ (0 : Int)) at hc49
          refine pw_ld E (pc' := 22) (st' := [.long (Int64.ofNat 18446744073709551615)]) rfl (fun _ => rfl) ?_
          refine pw_lret E rfl ?_
          exact ⟨I, E0, ⟨_, rfl⟩⟩
  · skip
    refine pw_if E (pc' := 19) rfl (by decide) (by omega) (by omega) ?_ ?_
    · intro hc51
      change x3 = (0 : Int) at hc51
      refine pw_ld E (pc' := 22) (st' := [.long (Int64.ofNat 18446744073709551615)]) rfl (fun _ => rfl) ?_
      refine pw_lret E rfl ?_
      exact ⟨I, E0, ⟨_, rfl⟩⟩
    · intro hc52
      change ¬ (x3 = (0 : Int)) at hc52
      exfalso; omega
set_option maxHeartbeats 4000000 in
theorem cm_140 {X : List (Nat × List Value)} {d : Nat} {h : pm_H} (hd : 3 ≤ d) (I : pw_I h) (x : Int64) (y : Int64) (z : Int64) : pw X d h 140 0 [some (.ref 16), some (.long x), none, some (.long y), none, some (.long z), none] [] (fun h' v => pw_I h' ∧ pw_E [24, 25] h h' ∧ ∃ a : Int, v = .inl (some (pw_i a)) ∧ (-2147483648) ≤ a ∧ a ≤ 2147483647) := by
  have E : pm_ent 140 = some (4, 7, 11, 0, pmc_140) := rfl
  have E0 : pw_E [24, 25] h h := pw_E.rf _ _
  refine pw_ld E (pc' := 1) (st' := [.ref 16]) rfl (fun _ => rfl) ?_
  refine pw_getR (b := 40) I E (c := 0) (k := 10) (pc' := 4) rfl rfl rfl rfl rfl rfl rfl ?_
  refine pw_ld E (pc' := 5) (st' := [.long x, .ref 40]) rfl (fun _ => rfl) ?_
  obtain ⟨f1l, f1h, -⟩ := pw_obj (c := 24) I rfl
  refine pw_call (m' := 97) (As := [.ref 40, .long x]) (rest := []) (ls'' := [some (.ref 40), some (.long x), none, none, none, none]) (Nat.le_trans (by decide) hd) E rfl (fun _ => pw_iV rfl rfl rfl rfl (pw_cellI f1h rfl)) (rfl : pm_ent 97 = some (2, 6, 9, 4, pmc_97)) rfl rfl (cm_97 (pw_dp hd (by decide)) I (x)) ?_
  rintro h2 v3 ⟨h2I, h2E, rfl⟩
  refine ⟨_, rfl, ?_⟩
  have h2F := E0.tr (h2E.wk (W' := [24, 25]) (by first | rfl | simp))
  show pw X d h2 140 8 [some (.ref 16), some (.long x), none, some (.long y), none, some (.long z), none] [] _
  refine pw_ld E (pc' := 9) (st' := [.ref 16]) rfl (fun _ => rfl) ?_
  refine pw_getR (b := 40) h2I E (c := 0) (k := 10) (pc' := 12) rfl rfl rfl rfl rfl rfl rfl ?_
  refine pw_ld E (pc' := 13) (st' := [.long y, .ref 40]) rfl (fun _ => rfl) ?_
  obtain ⟨f4l, f4h, -⟩ := pw_obj (c := 24) h2I rfl
  refine pw_call (m' := 97) (As := [.ref 40, .long y]) (rest := []) (ls'' := [some (.ref 40), some (.long y), none, none, none, none]) (Nat.le_trans (by decide) hd) E rfl (fun _ => pw_iV rfl rfl rfl rfl (pw_cellI f4h rfl)) (rfl : pm_ent 97 = some (2, 6, 9, 4, pmc_97)) rfl rfl (cm_97 (pw_dp hd (by decide)) h2I (y)) ?_
  rintro h5 v6 ⟨h5I, h5E, rfl⟩
  refine ⟨_, rfl, ?_⟩
  have h5F := h2F.tr (h5E.wk (W' := [24, 25]) (by first | rfl | simp))
  show pw X d h5 140 16 [some (.ref 16), some (.long x), none, some (.long y), none, some (.long z), none] [] _
  refine pw_ld E (pc' := 17) (st' := [.ref 16]) rfl (fun _ => rfl) ?_
  refine pw_getR (b := 40) h5I E (c := 0) (k := 10) (pc' := 20) rfl rfl rfl rfl rfl rfl rfl ?_
  refine pw_ld E (pc' := 22) (st' := [.long z, .ref 40]) rfl (fun _ => rfl) ?_
  obtain ⟨f7l, f7h, -⟩ := pw_obj (c := 24) h5I rfl
  refine pw_call (m' := 97) (As := [.ref 40, .long z]) (rest := []) (ls'' := [some (.ref 40), some (.long z), none, none, none, none]) (Nat.le_trans (by decide) hd) E rfl (fun _ => pw_iV rfl rfl rfl rfl (pw_cellI f7h rfl)) (rfl : pm_ent 97 = some (2, 6, 9, 4, pmc_97)) rfl rfl (cm_97 (pw_dp hd (by decide)) h5I (z)) ?_
  rintro h8 v9 ⟨h8I, h8E, rfl⟩
  refine ⟨_, rfl, ?_⟩
  have h8F := h5F.tr (h8E.wk (W' := [24, 25]) (by first | rfl | simp))
  show pw X d h8 140 25 [some (.ref 16), some (.long x), none, some (.long y), none, some (.long z), none] [] _
  refine pw_ld E (pc' := 26) (st' := [.ref 16]) rfl (fun _ => rfl) ?_
  refine pw_getR (b := 40) h8I E (c := 0) (k := 10) (pc' := 29) rfl rfl rfl rfl rfl rfl rfl ?_
  obtain ⟨f10l, f10h, -⟩ := pw_obj (c := 24) h8I rfl
  refine pw_call (m' := 98) (As := [.ref 40]) (rest := []) (ls'' := [some (.ref 40)]) (Nat.le_trans (by decide) hd) E rfl (fun _ => pw_iV rfl rfl rfl rfl (pw_cellI f10h rfl)) (rfl : pm_ent 98 = some (1, 1, 9, 0, pmc_98)) rfl rfl (cm_98 (pw_dp hd (by decide)) h8I ) ?_
  rintro u12 v11 ⟨rfl, x13, rfl, hx13a, hx13b⟩
  refine ⟨_, rfl, ?_⟩
  show pw X d h8 140 32 [some (.ref 16), some (.long x), none, some (.long y), none, some (.long z), none] [pw_i x13] _
  refine pw_iret E rfl ?_
  exact ⟨h8I, h8F, ⟨_, rfl, by omega, by omega⟩⟩

