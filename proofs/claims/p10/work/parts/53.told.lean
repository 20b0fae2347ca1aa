/-! contracts (printed by wip/tool/pwspec.py) -/
set_option maxHeartbeats 4000000 in
theorem cm_124 {X : List (Nat × List Value)} {d : Nat} {h : pm_H} (hd : 3 ≤ d) (I : pw_I h) (k : Int) (hk1 : (-2147483648) ≤ k) (hk2 : k ≤ 2147483647) : pw X d h 124 0 [some (.ref 16), some (pw_i k)] [] (fun h' v => h = h' ∧ ∃ a : Int, v = .inl (some (pw_i a)) ∧ 0 ≤ a ∧ a ≤ 1 ∧ ((a = 1 ∧ 0 ≤ k ∧ k ≤ 23) ∨ a = 0)) := by
  have E : pm_ent 124 = some (2, 2, 11, 1, pmc_124) := rfl
  refine pw_ld E (pc' := 1) (st' := [pw_i k]) rfl (fun _ => rfl) ?_
  refine pw_call (m' := 120) (As := [pw_i k]) (rest := []) (ls'' := [some (pw_i k)]) (by omega) E rfl (fun _ => pw_iS rfl rfl rfl) (rfl : pm_ent 120 = some (1, 1, 11, 1, pmc_120)) rfl rfl (cm_120 (by omega) I (k) (by omega) (by omega)) ?_
  rintro u2 v1 ⟨rfl, x3, rfl, hx3a, hx3b, hx3r⟩
  refine ⟨_, rfl, ?_⟩
  show pw X d h 124 4 [some (.ref 16), some (pw_i k)] [pw_i x3] _
  have hx3r : (x3 = 1 ∧ 0 ≤ k ∧ k ≤ 23) ∨ (x3 = 0 ∧ ¬ (0 ≤ k ∧ k ≤ 23)) := hx3r
  rcases (by omega : x3 = 1 ∨ x3 = 0) with hb4 | hb4
  · have hb4 : x3 = 1 := by omega
    refine pw_if E (pc' := 22) rfl (by decide) (by omega) (by omega) ?_ ?_
    · intro hc5
      have hc5 : x3 = (0 : Int) := hc5
      exfalso; omega
    · intro hc6
      have hc6 : ¬ (x3 = (0 : Int)) := hc6
      refine pw_ld E (pc' := 8) (st' := [.ref 16]) rfl (fun _ => rfl) ?_
      refine pw_getR (b := 17) I E (c := 0) (k := 0) (pc' := 11) rfl rfl rfl rfl rfl rfl rfl ?_
      refine pw_ld E (pc' := 12) (st' := [pw_i k, .ref 17]) rfl (fun _ => rfl) ?_
      obtain ⟨f7l, f7h, -⟩ := pw_obj (c := 1) I rfl
      refine pw_call (m' := 59) (As := [.ref 17, pw_i k]) (rest := []) (ls'' := [some (.ref 17), some (pw_i k)]) (by omega) E rfl (fun _ => pw_iV rfl rfl rfl rfl (pw_cellI f7h rfl)) (rfl : pm_ent 59 = some (2, 2, 6, 1, pmc_59)) rfl rfl (cm_59 (by omega) I (k) (by omega) (by omega)) ?_
      rintro u9 v8 ⟨rfl, x10, rfl, hx10a, hx10b, hx10r⟩
      refine ⟨_, rfl, ?_⟩
      show pw X d h 124 15 [some (.ref 16), some (pw_i k)] [pw_i x10] _
      have hx10r : x10 = pw_g h 2 k.toNat := hx10r
      rcases (by omega : x10 = 1 ∨ x10 = 0) with hb11 | hb11
      · have hb11 : x10 = 1 := by omega
        refine pw_if E (pc' := 22) rfl (by decide) (by omega) (by omega) ?_ ?_
        · intro hc12
          have hc12 : x10 = (0 : Int) := hc12
          exfalso; omega
        · intro hc13
          have hc13 : ¬ (x10 = (0 : Int)) := hc13
          refine pw_ld E (pc' := 19) (st' := [pw_i 1]) rfl (fun _ => rfl) ?_
          refine pw_goto E (pc' := 23) rfl (by decide) ?_
          refine pw_zret E rfl (by omega) ?_
          exact ⟨rfl, ⟨_, rfl, by omega, by omega, by omega⟩⟩
      · have hb14 : x10 = 0 := by omega
        refine pw_if E (pc' := 22) rfl (by decide) (by omega) (by omega) ?_ ?_
        · intro hc15
          have hc15 : x10 = (0 : Int) := hc15
          refine pw_ld E (pc' := 23) (st' := [pw_i 0]) rfl (fun _ => rfl) ?_
          refine pw_zret E rfl (by omega) ?_
          exact ⟨rfl, ⟨_, rfl, by omega, by omega, by omega⟩⟩
        · intro hc16
          have hc16 : ¬ (x10 = (0 : Int)) := hc16
          exfalso; omega
  · have hb17 : x3 = 0 := by omega
    refine pw_if E (pc' := 22) rfl (by decide) (by omega) (by omega) ?_ ?_
    · intro hc18
      have hc18 : x3 = (0 : Int) := hc18
      refine pw_ld E (pc' := 23) (st' := [pw_i 0]) rfl (fun _ => rfl) ?_
      refine pw_zret E rfl (by omega) ?_
      exact ⟨rfl, ⟨_, rfl, by omega, by omega, by omega⟩⟩
    · intro hc19
      have hc19 : ¬ (x3 = (0 : Int)) := hc19
      exfalso; omega
set_option maxHeartbeats 4000000 in
theorem cm_119 {X : List (Nat × List Value)} {d : Nat} {h : pm_H} (hd : 3 ≤ d) (I : pw_I h) (k : Int) (hk1 : (-2147483648) ≤ k) (hk2 : k ≤ 2147483647) (b : Int) (hb1 : (-2147483648) ≤ b) (hb2 : b ≤ 2147483647) (w : Int) (hw1 : (-2147483648) ≤ w) (hw2 : w ≤ 2147483647) (mx : Int) (hmx1 : (-2147483648) ≤ mx) (hmx2 : mx ≤ 2147483647) (z : Int) (hz1 : 0 ≤ z) (hz2 : z ≤ 1) : pw X d h 119 0 [some (.ref 16), some (pw_i k), some (pw_i b), some (pw_i w), some (pw_i mx), some (pw_i z)] [] (fun h' v => pw_I h' ∧ pw_E [2, 3, 4, 5, 6] h h' ∧ ∃ a : Int, v = .inl (some (pw_i a)) ∧ 0 ≤ a ∧ a ≤ 1 ∧ ((a = 1 ∧ 0 ≤ k ∧ k ≤ 23 ∧ 0 ≤ b ∧ b ≤ 1 ∧ 0 ≤ w ∧ w ≤ 999 ∧ 0 ≤ mx ∧ mx ≤ 99) ∨ (a = 0 ∧ ¬ (0 ≤ k ∧ k ≤ 23 ∧ 0 ≤ b ∧ b ≤ 1 ∧ 0 ≤ w ∧ w ≤ 999 ∧ 0 ≤ mx ∧ mx ≤ 99)))) := by
  have E : pm_ent 119 = some (6, 6, 11, 1, pmc_119) := rfl
  have E0 : pw_E [2, 3, 4, 5, 6] h h := pw_E.rf _ _
  refine pw_ld E (pc' := 1) (st' := [pw_i k]) rfl (fun _ => rfl) ?_
  refine pw_call (m' := 120) (As := [pw_i k]) (rest := []) (ls'' := [some (pw_i k)]) (by omega) E rfl (fun _ => pw_iS rfl rfl rfl) (rfl : pm_ent 120 = some (1, 1, 11, 1, pmc_120)) rfl rfl (cm_120 (by omega) I (k) (by omega) (by omega)) ?_
  rintro u2 v1 ⟨rfl, x3, rfl, hx3a, hx3b, hx3r⟩
  refine ⟨_, rfl, ?_⟩
  show pw X d h 119 4 [some (.ref 16), some (pw_i k), some (pw_i b), some (pw_i w), some (pw_i mx), some (pw_i z)] [pw_i x3] _
  have hx3r : (x3 = 1 ∧ 0 ≤ k ∧ k ≤ 23) ∨ (x3 = 0 ∧ ¬ (0 ≤ k ∧ k ≤ 23)) := hx3r
  rcases (by omega : x3 = 1 ∨ x3 = 0) with hb4 | hb4
  · have hb4 : x3 = 1 := by omega
    refine pw_if E (pc' := 36) rfl (by decide) (by omega) (by omega) ?_ ?_
    · intro hc5
      have hc5 : x3 = (0 : Int) := hc5
      exfalso; omega
    · intro hc6
      have hc6 : ¬ (x3 = (0 : Int)) := hc6
      refine pw_ld E (pc' := 8) (st' := [pw_i b]) rfl (fun _ => rfl) ?_
      refine pw_call (m' := 122) (As := [pw_i b]) (rest := []) (ls'' := [some (pw_i b)]) (by omega) E rfl (fun _ => pw_iS rfl rfl rfl) (rfl : pm_ent 122 = some (1, 1, 11, 1, pmc_122)) rfl rfl (cm_122 (by omega) I (b) (by omega) (by omega)) ?_
      rintro u8 v7 ⟨rfl, x9, rfl, hx9a, hx9b, hx9r⟩
      refine ⟨_, rfl, ?_⟩
      show pw X d h 119 11 [some (.ref 16), some (pw_i k), some (pw_i b), some (pw_i w), some (pw_i mx), some (pw_i z)] [pw_i x9] _
      have hx9r : (x9 = 1 ∧ 0 ≤ b ∧ b ≤ 1) ∨ (x9 = 0 ∧ ¬ (0 ≤ b ∧ b ≤ 1)) := hx9r
      rcases (by omega : x9 = 1 ∨ x9 = 0) with hb10 | hb10
      · have hb10 : x9 = 1 := by omega
        refine pw_if E (pc' := 36) rfl (by decide) (by omega) (by omega) ?_ ?_
        · intro hc11
          have hc11 : x9 = (0 : Int) := hc11
          exfalso; omega
        · intro hc12
          have hc12 : ¬ (x9 = (0 : Int)) := hc12
          refine pw_ld E (pc' := 15) (st' := [pw_i w]) rfl (fun _ => rfl) ?_
          refine pw_ld E (pc' := 16) (st' := [pw_i 0, pw_i w]) rfl (fun _ => rfl) ?_
          refine pw_sip E (pc' := 19) rfl rfl (by decide) ?_
          refine pw_call (m' := 121) (As := [pw_i w, pw_i 0, pw_i 999]) (rest := []) (ls'' := [some (pw_i w), some (pw_i 0), some (pw_i 999)]) (by omega) E rfl (fun _ => pw_iS rfl rfl rfl) (rfl : pm_ent 121 = some (3, 3, 11, 1, pmc_121)) rfl rfl (cm_121 (by omega) I (w) (by omega) (by omega) (0) (by omega) (by omega) (999) (by omega) (by omega)) ?_
          rintro u14 v13 ⟨rfl, x15, rfl, hx15a, hx15b, hx15r⟩
          refine ⟨_, rfl, ?_⟩
          show pw X d h 119 22 [some (.ref 16), some (pw_i k), some (pw_i b), some (pw_i w), some (pw_i mx), some (pw_i z)] [pw_i x15] _
          have hx15r : (x15 = 1 ∧ 0 ≤ w ∧ w ≤ 999) ∨ (x15 = 0 ∧ ¬ (0 ≤ w ∧ w ≤ 999)) := hx15r
          rcases (by omega : x15 = 1 ∨ x15 = 0) with hb16 | hb16
          · have hb16 : x15 = 1 := by omega
            refine pw_if E (pc' := 36) rfl (by decide) (by omega) (by omega) ?_ ?_
            · intro hc17
              have hc17 : x15 = (0 : Int) := hc17
              exfalso; omega
            · intro hc18
              have hc18 : ¬ (x15 = (0 : Int)) := hc18
              refine pw_ld E (pc' := 27) (st' := [pw_i mx]) rfl (fun _ => rfl) ?_
              refine pw_ld E (pc' := 28) (st' := [pw_i 0, pw_i mx]) rfl (fun _ => rfl) ?_
              refine pw_bip E (pc' := 30) rfl rfl (by decide) ?_
              refine pw_call (m' := 121) (As := [pw_i mx, pw_i 0, pw_i 99]) (rest := []) (ls'' := [some (pw_i mx), some (pw_i 0), some (pw_i 99)]) (by omega) E rfl (fun _ => pw_iS rfl rfl rfl) (rfl : pm_ent 121 = some (3, 3, 11, 1, pmc_121)) rfl rfl (cm_121 (by omega) I (mx) (by omega) (by omega) (0) (by omega) (by omega) (99) (by omega) (by omega)) ?_
              rintro u20 v19 ⟨rfl, x21, rfl, hx21a, hx21b, hx21r⟩
              refine ⟨_, rfl, ?_⟩
              show pw X d h 119 33 [some (.ref 16), some (pw_i k), some (pw_i b), some (pw_i w), some (pw_i mx), some (pw_i z)] [pw_i x21] _
              have hx21r : (x21 = 1 ∧ 0 ≤ mx ∧ mx ≤ 99) ∨ (x21 = 0 ∧ ¬ (0 ≤ mx ∧ mx ≤ 99)) := hx21r
              rcases (by omega : x21 = 1 ∨ x21 = 0) with hb22 | hb22
              · have hb22 : x21 = 1 := by omega
                refine pw_if E (pc' := 38) rfl (by decide) (by omega) (by omega) ?_ ?_
                · intro hc23
                  have hc23 : x21 ≠ (0 : Int) := hc23
                  refine pw_ld E (pc' := 39) (st' := [.ref 16]) rfl (fun _ => rfl) ?_
                  refine pw_getR (b := 17) I E (c := 0) (k := 0) (pc' := 42) rfl rfl rfl rfl rfl rfl rfl ?_
                  refine pw_ld E (pc' := 43) (st' := [pw_i k, .ref 17]) rfl (fun _ => rfl) ?_
                  refine pw_ld E (pc' := 44) (st' := [pw_i b, pw_i k, .ref 17]) rfl (fun _ => rfl) ?_
                  refine pw_ld E (pc' := 45) (st' := [pw_i w, pw_i b, pw_i k, .ref 17]) rfl (fun _ => rfl) ?_
                  refine pw_ld E (pc' := 47) (st' := [pw_i mx, pw_i w, pw_i b, pw_i k, .ref 17]) rfl (fun _ => rfl) ?_
                  refine pw_ld E (pc' := 49) (st' := [pw_i z, pw_i mx, pw_i w, pw_i b, pw_i k, .ref 17]) rfl (fun _ => rfl) ?_
                  obtain ⟨f24l, f24h, -⟩ := pw_obj (c := 1) I rfl
                  refine pw_call (m' := 58) (As := [.ref 17, pw_i k, pw_i b, pw_i w, pw_i mx, pw_i z]) (rest := []) (ls'' := [some (.ref 17), some (pw_i k), some (pw_i b), some (pw_i w), some (pw_i mx), some (pw_i z)]) (by omega) E rfl (fun _ => pw_iV rfl rfl rfl rfl (pw_cellI f24h rfl)) (rfl : pm_ent 58 = some (6, 6, 6, 4, pmc_58)) rfl rfl (cm_58 (by omega) I (k) (by omega) (by omega) (b) (by omega) (by omega) (w) (by omega) (by omega) (mx) (by omega) (by omega) (z) (by omega) (by omega)) ?_
                  rintro h25 v26 ⟨h25I, h25E, rfl⟩
                  refine ⟨_, rfl, ?_⟩
                  have h25F := E0.tr (h25E.wk (W' := [2, 3, 4, 5, 6]) (by first | rfl | simp))
                  show pw X d h25 119 52 [some (.ref 16), some (pw_i k), some (pw_i b), some (pw_i w), some (pw_i mx), some (pw_i z)] [] _
                  refine pw_ld E (pc' := 53) (st' := [pw_i 1]) rfl (fun _ => rfl) ?_
                  refine pw_zret E rfl (by omega) ?_
                  exact ⟨h25I, h25F, ⟨_, rfl, by omega, by omega, by omega⟩⟩
                · intro hc27
                  have hc27 : ¬ (x21 ≠ (0 : Int)) := hc27
                  exfalso; omega
              · have hb28 : x21 = 0 := by omega
                refine pw_if E (pc' := 38) rfl (by decide) (by omega) (by omega) ?_ ?_
                · intro hc29
                  have hc29 : x21 ≠ (0 : Int) := hc29
                  exfalso; omega
                · intro hc30
                  have hc30 : ¬ (x21 ≠ (0 : Int)) := hc30
                  refine pw_ld E (pc' := 37) (st' := [pw_i 0]) rfl (fun _ => rfl) ?_
                  refine pw_zret E rfl (by omega) ?_
                  exact ⟨I, E0, ⟨_, rfl, by omega, by omega, by omega⟩⟩
          · have hb31 : x15 = 0 := by omega
            refine pw_if E (pc' := 36) rfl (by decide) (by omega) (by omega) ?_ ?_
            · intro hc32
              have hc32 : x15 = (0 : Int) := hc32
              refine pw_ld E (pc' := 37) (st' := [pw_i 0]) rfl (fun _ => rfl) ?_
              refine pw_zret E rfl (by omega) ?_
              exact ⟨I, E0, ⟨_, rfl, by omega, by omega, by omega⟩⟩
            · intro hc33
              have hc33 : ¬ (x15 = (0 : Int)) := hc33
              exfalso; omega
      · have hb34 : x9 = 0 := by omega
        refine pw_if E (pc' := 36) rfl (by decide) (by omega) (by omega) ?_ ?_
        · intro hc35
          have hc35 : x9 = (0 : Int) := hc35
          refine pw_ld E (pc' := 37) (st' := [pw_i 0]) rfl (fun _ => rfl) ?_
          refine pw_zret E rfl (by omega) ?_
          exact ⟨I, E0, ⟨_, rfl, by omega, by omega, by omega⟩⟩
        · intro hc36
          have hc36 : ¬ (x9 = (0 : Int)) := hc36
          exfalso; omega
  · have hb37 : x3 = 0 := by omega
    refine pw_if E (pc' := 36) rfl (by decide) (by omega) (by omega) ?_ ?_
    · intro hc38
      have hc38 : x3 = (0 : Int) := hc38
      refine pw_ld E (pc' := 37) (st' := [pw_i 0]) rfl (fun _ => rfl) ?_
      refine pw_zret E rfl (by omega) ?_
      exact ⟨I, E0, ⟨_, rfl, by omega, by omega, by omega⟩⟩
    · intro hc39
      have hc39 : ¬ (x3 = (0 : Int)) := hc39
      exfalso; omega
set_option maxHeartbeats 4000000 in
theorem cm_123 {X : List (Nat × List Value)} {d : Nat} {h : pm_H} (hd : 4 ≤ d) (I : pw_I h) (k : Int) (hk1 : (-2147483648) ≤ k) (hk2 : k ≤ 2147483647) (mo : Int) (hmo1 : (-2147483648) ≤ mo) (hmo2 : mo ≤ 2147483647) (wh : Int) (hwh1 : (-2147483648) ≤ wh) (hwh2 : wh ≤ 2147483647) (hf : Int) (hhf1 : (-2147483648) ≤ hf) (hhf2 : hf ≤ 2147483647) : pw X d h 123 0 [some (.ref 16), some (pw_i k), some (pw_i mo), some (pw_i wh), some (pw_i hf)] [] (fun h' v => pw_I h' ∧ pw_E [11] h h' ∧ ∃ a : Int, v = .inl (some (pw_i a)) ∧ 0 ≤ a ∧ a ≤ 1) := by
  have E : pm_ent 123 = some (5, 5, 11, 1, pmc_123) := rfl
  have E0 : pw_E [11] h h := pw_E.rf _ _
  refine pw_ld E (pc' := 1) (st' := [.ref 16]) rfl (fun _ => rfl) ?_
  refine pw_ld E (pc' := 2) (st' := [pw_i k, .ref 16]) rfl (fun _ => rfl) ?_
  obtain ⟨f1l, f1h, -⟩ := pw_obj (c := 0) I rfl
  refine pw_call (m' := 124) (As := [.ref 16, pw_i k]) (rest := []) (ls'' := [some (.ref 16), some (pw_i k)]) (by omega) E rfl (fun _ => pw_iV rfl rfl rfl rfl (pw_cellI f1h rfl)) (rfl : pm_ent 124 = some (2, 2, 11, 1, pmc_124)) rfl rfl (cm_124 (by omega) I (k) (by omega) (by omega)) ?_
  rintro u3 v2 ⟨rfl, x4, rfl, hx4a, hx4b, hx4r⟩
  refine ⟨_, rfl, ?_⟩
  show pw X d h 123 5 [some (.ref 16), some (pw_i k), some (pw_i mo), some (pw_i wh), some (pw_i hf)] [pw_i x4] _
  have hx4r : (x4 = 1 ∧ 0 ≤ k ∧ k ≤ 23) ∨ x4 = 0 := hx4r
  rcases (by omega : x4 = 1 ∨ x4 = 0) with hb5 | hb5
  · have hb5 : x4 = 1 := by omega
    refine pw_if E (pc' := 15) rfl (by decide) (by omega) (by omega) ?_ ?_
    · intro hc6
      have hc6 : x4 = (0 : Int) := hc6
      exfalso; omega
    · intro hc7
      have hc7 : ¬ (x4 = (0 : Int)) := hc7
      refine pw_ld E (pc' := 9) (st' := [pw_i mo]) rfl (fun _ => rfl) ?_
      refine pw_call (m' := 125) (As := [pw_i mo]) (rest := []) (ls'' := [some (pw_i mo)]) (by omega) E rfl (fun _ => pw_iS rfl rfl rfl) (rfl : pm_ent 125 = some (1, 1, 11, 1, pmc_125)) rfl rfl (cm_125 (by omega) I (mo) (by omega) (by omega)) ?_
      rintro u9 v8 ⟨rfl, x10, rfl, hx10a, hx10b, hx10r⟩
      refine ⟨_, rfl, ?_⟩
      show pw X d h 123 12 [some (.ref 16), some (pw_i k), some (pw_i mo), some (pw_i wh), some (pw_i hf)] [pw_i x10] _
      have hx10r : (x10 = 1 ∧ 0 ≤ mo ∧ mo ≤ 11) ∨ (x10 = 0 ∧ ¬ (0 ≤ mo ∧ mo ≤ 11)) := hx10r
      rcases (by omega : x10 = 1 ∨ x10 = 0) with hb11 | hb11
      · have hb11 : x10 = 1 := by omega
        refine pw_if E (pc' := 17) rfl (by decide) (by omega) (by omega) ?_ ?_
        · intro hc12
          have hc12 : x10 ≠ (0 : Int) := hc12
          refine pw_ld E (pc' := 18) (st' := [pw_i wh]) rfl (fun _ => rfl) ?_
          refine pw_ld E (pc' := 19) (st' := [pw_i ((-1)), pw_i wh]) rfl (fun _ => rfl) ?_
          refine pw_if2 E (pc' := 39) rfl (by decide) (by omega) (by omega) (by decide) (by decide) ?_ ?_
          · intro hc13
            have hc13 : wh ≠ ((-1) : Int) := hc13
            refine pw_ld E (pc' := 40) (st' := [pw_i wh]) rfl (fun _ => rfl) ?_
            refine pw_ld E (pc' := 41) (st' := [pw_i 0, pw_i wh]) rfl (fun _ => rfl) ?_
            refine pw_bip E (pc' := 43) rfl rfl (by decide) ?_
            refine pw_call (m' := 121) (As := [pw_i wh, pw_i 0, pw_i 99]) (rest := []) (ls'' := [some (pw_i wh), some (pw_i 0), some (pw_i 99)]) (by omega) E rfl (fun _ => pw_iS rfl rfl rfl) (rfl : pm_ent 121 = some (3, 3, 11, 1, pmc_121)) rfl rfl (cm_121 (by omega) I (wh) (by omega) (by omega) (0) (by omega) (by omega) (99) (by omega) (by omega)) ?_
            rintro u15 v14 ⟨rfl, x16, rfl, hx16a, hx16b, hx16r⟩
            refine ⟨_, rfl, ?_⟩
            show pw X d h 123 46 [some (.ref 16), some (pw_i k), some (pw_i mo), some (pw_i wh), some (pw_i hf)] [pw_i x16] _
            have hx16r : (x16 = 1 ∧ 0 ≤ wh ∧ wh ≤ 99) ∨ (x16 = 0 ∧ ¬ (0 ≤ wh ∧ wh ≤ 99)) := hx16r
            rcases (by omega : x16 = 1 ∨ x16 = 0) with hb17 | hb17
            · have hb17 : x16 = 1 := by omega
              refine pw_if E (pc' := 51) rfl (by decide) (by omega) (by omega) ?_ ?_
              · intro hc18
                have hc18 : x16 ≠ (0 : Int) := hc18
                refine pw_ld E (pc' := 53) (st' := [pw_i hf]) rfl (fun _ => rfl) ?_
                refine pw_ld E (pc' := 54) (st' := [pw_i ((-1)), pw_i hf]) rfl (fun _ => rfl) ?_
                refine pw_if2 E (pc' := 68) rfl (by decide) (by omega) (by omega) (by decide) (by decide) ?_ ?_
                · intro hc19
                  have hc19 : hf ≠ ((-1) : Int) := hc19
                  refine pw_ld E (pc' := 70) (st' := [pw_i hf]) rfl (fun _ => rfl) ?_
                  refine pw_ld E (pc' := 71) (st' := [pw_i 0, pw_i hf]) rfl (fun _ => rfl) ?_
                  refine pw_bip E (pc' := 73) rfl rfl (by decide) ?_
                  refine pw_call (m' := 121) (As := [pw_i hf, pw_i 0, pw_i 99]) (rest := []) (ls'' := [some (pw_i hf), some (pw_i 0), some (pw_i 99)]) (by omega) E rfl (fun _ => pw_iS rfl rfl rfl) (rfl : pm_ent 121 = some (3, 3, 11, 1, pmc_121)) rfl rfl (cm_121 (by omega) I (hf) (by omega) (by omega) (0) (by omega) (by omega) (99) (by omega) (by omega)) ?_
                  rintro u21 v20 ⟨rfl, x22, rfl, hx22a, hx22b, hx22r⟩
                  refine ⟨_, rfl, ?_⟩
                  show pw X d h 123 76 [some (.ref 16), some (pw_i k), some (pw_i mo), some (pw_i wh), some (pw_i hf)] [pw_i x22] _
                  have hx22r : (x22 = 1 ∧ 0 ≤ hf ∧ hf ≤ 99) ∨ (x22 = 0 ∧ ¬ (0 ≤ hf ∧ hf ≤ 99)) := hx22r
                  rcases (by omega : x22 = 1 ∨ x22 = 0) with hb23 | hb23
                  · have hb23 : x22 = 1 := by omega
                    refine pw_if E (pc' := 81) rfl (by decide) (by omega) (by omega) ?_ ?_
                    · intro hc24
                      have hc24 : x22 ≠ (0 : Int) := hc24
                      refine pw_ld E (pc' := 82) (st' := [.ref 16]) rfl (fun _ => rfl) ?_
                      refine pw_getR (b := 26) I E (c := 0) (k := 2) (pc' := 85) rfl rfl rfl rfl rfl rfl rfl ?_
                      refine pw_ld E (pc' := 86) (st' := [pw_i k, .ref 26]) rfl (fun _ => rfl) ?_
                      refine pw_ld E (pc' := 87) (st' := [pw_i mo, pw_i k, .ref 26]) rfl (fun _ => rfl) ?_
                      refine pw_ld E (pc' := 88) (st' := [pw_i wh, pw_i mo, pw_i k, .ref 26]) rfl (fun _ => rfl) ?_
                      refine pw_ld E (pc' := 90) (st' := [pw_i hf, pw_i wh, pw_i mo, pw_i k, .ref 26]) rfl (fun _ => rfl) ?_
                      obtain ⟨f25l, f25h, -⟩ := pw_obj (c := 10) I rfl
                      refine pw_call (m' := 18) (As := [.ref 26, pw_i k, pw_i mo, pw_i wh, pw_i hf]) (rest := []) (ls'' := [some (.ref 26), some (pw_i k), some (pw_i mo), some (pw_i wh), some (pw_i hf)]) (by omega) E rfl (fun _ => pw_iV rfl rfl rfl rfl (pw_cellI f25h rfl)) (rfl : pm_ent 18 = some (5, 5, 2, 4, pmc_18)) rfl rfl (cm_18 (by omega) I 10 (by unfold pw_Lg; omega) (k) (by omega) (by omega) (mo) (by omega) (by omega) (wh) (by omega) (by omega) (hf) (by omega) (by omega)) ?_
                      rintro h26 v27 ⟨h26I, h26E, rfl⟩
                      refine ⟨_, rfl, ?_⟩
                      have h26F := E0.tr (h26E.wk (W' := [11]) (by first | rfl | simp))
                      show pw X d h26 123 93 [some (.ref 16), some (pw_i k), some (pw_i mo), some (pw_i wh), some (pw_i hf)] [] _
                      refine pw_ld E (pc' := 94) (st' := [pw_i 1]) rfl (fun _ => rfl) ?_
                      refine pw_zret E rfl (by omega) ?_
                      exact ⟨h26I, h26F, ⟨_, rfl, by omega, by omega⟩⟩
                    · intro hc28
                      have hc28 : ¬ (x22 ≠ (0 : Int)) := hc28
                      exfalso; omega
                  · have hb29 : x22 = 0 := by omega
                    refine pw_if E (pc' := 81) rfl (by decide) (by omega) (by omega) ?_ ?_
                    · intro hc30
                      have hc30 : x22 ≠ (0 : Int) := hc30
                      exfalso; omega
                    · intro hc31
                      have hc31 : ¬ (x22 ≠ (0 : Int)) := hc31
                      refine pw_ld E (pc' := 80) (st' := [pw_i 0]) rfl (fun _ => rfl) ?_
                      refine pw_zret E rfl (by omega) ?_
                      exact ⟨I, E0, ⟨_, rfl, by omega, by omega⟩⟩
                · intro hc32
                  have hc32 : ¬ (hf ≠ ((-1) : Int)) := hc32
                  refine pw_ld E (pc' := 58) (st' := [.ref 16]) rfl (fun _ => rfl) ?_
                  refine pw_getR (b := 26) I E (c := 0) (k := 2) (pc' := 61) rfl rfl rfl rfl rfl rfl rfl ?_
                  refine pw_ld E (pc' := 62) (st' := [pw_i k, .ref 26]) rfl (fun _ => rfl) ?_
                  refine pw_ld E (pc' := 63) (st' := [pw_i mo, pw_i k, .ref 26]) rfl (fun _ => rfl) ?_
                  obtain ⟨f33l, f33h, -⟩ := pw_obj (c := 10) I rfl
                  refine pw_call (m' := 17) (As := [.ref 26, pw_i k, pw_i mo]) (rest := []) (ls'' := [some (.ref 26), some (pw_i k), some (pw_i mo)]) (by omega) E rfl (fun _ => pw_iV rfl rfl rfl rfl (pw_cellI f33h rfl)) (rfl : pm_ent 17 = some (3, 3, 2, 4, pmc_17)) rfl rfl (cm_17 (by omega) I 10 (by unfold pw_Lg; omega) (k) (by omega) (by omega) (mo) (by omega) (by omega)) ?_
                  rintro h34 v35 ⟨h34I, h34E, rfl⟩
                  refine ⟨_, rfl, ?_⟩
                  have h34F := E0.tr (h34E.wk (W' := [11]) (by first | rfl | simp))
                  show pw X d h34 123 66 [some (.ref 16), some (pw_i k), some (pw_i mo), some (pw_i wh), some (pw_i hf)] [] _
                  refine pw_ld E (pc' := 67) (st' := [pw_i 1]) rfl (fun _ => rfl) ?_
                  refine pw_zret E rfl (by omega) ?_
                  exact ⟨h34I, h34F, ⟨_, rfl, by omega, by omega⟩⟩
              · intro hc36
                have hc36 : ¬ (x16 ≠ (0 : Int)) := hc36
                exfalso; omega
            · have hb37 : x16 = 0 := by omega
              refine pw_if E (pc' := 51) rfl (by decide) (by omega) (by omega) ?_ ?_
              · intro hc38
                have hc38 : x16 ≠ (0 : Int) := hc38
                exfalso; omega
              · intro hc39
                have hc39 : ¬ (x16 ≠ (0 : Int)) := hc39
                refine pw_ld E (pc' := 50) (st' := [pw_i 0]) rfl (fun _ => rfl) ?_
                refine pw_zret E rfl (by omega) ?_
                exact ⟨I, E0, ⟨_, rfl, by omega, by omega⟩⟩
          · intro hc40
            have hc40 : ¬ (wh ≠ ((-1) : Int)) := hc40
            refine pw_ld E (pc' := 24) (st' := [pw_i hf]) rfl (fun _ => rfl) ?_
            refine pw_ld E (pc' := 25) (st' := [pw_i ((-1)), pw_i hf]) rfl (fun _ => rfl) ?_
            refine pw_if2 E (pc' := 39) rfl (by decide) (by omega) (by omega) (by decide) (by decide) ?_ ?_
            · intro hc41
              have hc41 : hf ≠ ((-1) : Int) := hc41
              refine pw_ld E (pc' := 40) (st' := [pw_i wh]) rfl (fun _ => rfl) ?_
              refine pw_ld E (pc' := 41) (st' := [pw_i 0, pw_i wh]) rfl (fun _ => rfl) ?_
              refine pw_bip E (pc' := 43) rfl rfl (by decide) ?_
              refine pw_call (m' := 121) (As := [pw_i wh, pw_i 0, pw_i 99]) (rest := []) (ls'' := [some (pw_i wh), some (pw_i 0), some (pw_i 99)]) (by omega) E rfl (fun _ => pw_iS rfl rfl rfl) (rfl : pm_ent 121 = some (3, 3, 11, 1, pmc_121)) rfl rfl (cm_121 (by omega) I (wh) (by omega) (by omega) (0) (by omega) (by omega) (99) (by omega) (by omega)) ?_
              rintro u43 v42 ⟨rfl, x44, rfl, hx44a, hx44b, hx44r⟩
              refine ⟨_, rfl, ?_⟩
              show pw X d h 123 46 [some (.ref 16), some (pw_i k), some (pw_i mo), some (pw_i wh), some (pw_i hf)] [pw_i x44] _
              have hx44r : (x44 = 1 ∧ 0 ≤ wh ∧ wh ≤ 99) ∨ (x44 = 0 ∧ ¬ (0 ≤ wh ∧ wh ≤ 99)) := hx44r
              rcases (by omega : x44 = 1 ∨ x44 = 0) with hb45 | hb45
              · have hb45 : x44 = 1 := by omega
                refine pw_if E (pc' := 51) rfl (by decide) (by omega) (by omega) ?_ ?_
                · intro hc46
                  have hc46 : x44 ≠ (0 : Int) := hc46
                  exfalso; omega
                · intro hc47
                  have hc47 : ¬ (x44 ≠ (0 : Int)) := hc47
                  exfalso; omega
              · have hb48 : x44 = 0 := by omega
                refine pw_if E (pc' := 51) rfl (by decide) (by omega) (by omega) ?_ ?_
                · intro hc49
                  have hc49 : x44 ≠ (0 : Int) := hc49
                  exfalso; omega
                · intro hc50
                  have hc50 : ¬ (x44 ≠ (0 : Int)) := hc50
                  refine pw_ld E (pc' := 50) (st' := [pw_i 0]) rfl (fun _ => rfl) ?_
                  refine pw_zret E rfl (by omega) ?_
                  exact ⟨I, E0, ⟨_, rfl, by omega, by omega⟩⟩
            · intro hc51
              have hc51 : ¬ (hf ≠ ((-1) : Int)) := hc51
              refine pw_ld E (pc' := 29) (st' := [.ref 16]) rfl (fun _ => rfl) ?_
              refine pw_getR (b := 26) I E (c := 0) (k := 2) (pc' := 32) rfl rfl rfl rfl rfl rfl rfl ?_
              refine pw_ld E (pc' := 33) (st' := [pw_i k, .ref 26]) rfl (fun _ => rfl) ?_
              refine pw_ld E (pc' := 34) (st' := [pw_i mo, pw_i k, .ref 26]) rfl (fun _ => rfl) ?_
              obtain ⟨f52l, f52h, -⟩ := pw_obj (c := 10) I rfl
              refine pw_call (m' := 16) (As := [.ref 26, pw_i k, pw_i mo]) (rest := []) (ls'' := [some (.ref 26), some (pw_i k), some (pw_i mo)]) (by omega) E rfl (fun _ => pw_iV rfl rfl rfl rfl (pw_cellI f52h rfl)) (rfl : pm_ent 16 = some (3, 3, 2, 4, pmc_16)) rfl rfl (cm_16 (by omega) I 10 (by unfold pw_Lg; omega) (k) (by omega) (by omega) (mo) (by omega) (by omega)) ?_
              rintro h53 v54 ⟨h53I, h53E, rfl⟩
              refine ⟨_, rfl, ?_⟩
              have h53F := E0.tr (h53E.wk (W' := [11]) (by first | rfl | simp))
              show pw X d h53 123 37 [some (.ref 16), some (pw_i k), some (pw_i mo), some (pw_i wh), some (pw_i hf)] [] _
              refine pw_ld E (pc' := 38) (st' := [pw_i 1]) rfl (fun _ => rfl) ?_
              refine pw_zret E rfl (by omega) ?_
              exact ⟨h53I, h53F, ⟨_, rfl, by omega, by omega⟩⟩
        · intro hc55
          have hc55 : ¬ (x10 ≠ (0 : Int)) := hc55
          exfalso; omega
      · have hb56 : x10 = 0 := by omega
        refine pw_if E (pc' := 17) rfl (by decide) (by omega) (by omega) ?_ ?_
        · intro hc57
          have hc57 : x10 ≠ (0 : Int) := hc57
          exfalso; omega
        · intro hc58
          have hc58 : ¬ (x10 ≠ (0 : Int)) := hc58
          refine pw_ld E (pc' := 16) (st' := [pw_i 0]) rfl (fun _ => rfl) ?_
          refine pw_zret E rfl (by omega) ?_
          exact ⟨I, E0, ⟨_, rfl, by omega, by omega⟩⟩
  · have hb59 : x4 = 0 := by omega
    refine pw_if E (pc' := 15) rfl (by decide) (by omega) (by omega) ?_ ?_
    · intro hc60
      have hc60 : x4 = (0 : Int) := hc60
      refine pw_ld E (pc' := 16) (st' := [pw_i 0]) rfl (fun _ => rfl) ?_
      refine pw_zret E rfl (by omega) ?_
      exact ⟨I, E0, ⟨_, rfl, by omega, by omega⟩⟩
    · intro hc61
      have hc61 : ¬ (x4 = (0 : Int)) := hc61
      exfalso; omega
set_option maxHeartbeats 4000000 in
theorem cm_126 {X : List (Nat × List Value)} {d : Nat} {h : pm_H} (hd : 4 ≤ d) (I : pw_I h) (k : Int) (hk1 : (-2147483648) ≤ k) (hk2 : k ≤ 2147483647) (mo : Int) (hmo1 : (-2147483648) ≤ mo) (hmo2 : mo ≤ 2147483647) (wh : Int) (hwh1 : (-2147483648) ≤ wh) (hwh2 : wh ≤ 2147483647) (hf : Int) (hhf1 : (-2147483648) ≤ hf) (hhf2 : hf ≤ 2147483647) : pw X d h 126 0 [some (.ref 16), some (pw_i k), some (pw_i mo), some (pw_i wh), some (pw_i hf)] [] (fun h' v => pw_I h' ∧ pw_E [13] h h' ∧ ∃ a : Int, v = .inl (some (pw_i a)) ∧ 0 ≤ a ∧ a ≤ 1) := by
  have E : pm_ent 126 = some (5, 5, 11, 1, pmc_126) := rfl
  have E0 : pw_E [13] h h := pw_E.rf _ _
  refine pw_ld E (pc' := 1) (st' := [.ref 16]) rfl (fun _ => rfl) ?_
  refine pw_ld E (pc' := 2) (st' := [pw_i k, .ref 16]) rfl (fun _ => rfl) ?_
  obtain ⟨f1l, f1h, -⟩ := pw_obj (c := 0) I rfl
  refine pw_call (m' := 124) (As := [.ref 16, pw_i k]) (rest := []) (ls'' := [some (.ref 16), some (pw_i k)]) (by omega) E rfl (fun _ => pw_iV rfl rfl rfl rfl (pw_cellI f1h rfl)) (rfl : pm_ent 124 = some (2, 2, 11, 1, pmc_124)) rfl rfl (cm_124 (by omega) I (k) (by omega) (by omega)) ?_
  rintro u3 v2 ⟨rfl, x4, rfl, hx4a, hx4b, hx4r⟩
  refine ⟨_, rfl, ?_⟩
  show pw X d h 126 5 [some (.ref 16), some (pw_i k), some (pw_i mo), some (pw_i wh), some (pw_i hf)] [pw_i x4] _
  have hx4r : (x4 = 1 ∧ 0 ≤ k ∧ k ≤ 23) ∨ x4 = 0 := hx4r
  rcases (by omega : x4 = 1 ∨ x4 = 0) with hb5 | hb5
  · have hb5 : x4 = 1 := by omega
    refine pw_if E (pc' := 36) rfl (by decide) (by omega) (by omega) ?_ ?_
    · intro hc6
      have hc6 : x4 = (0 : Int) := hc6
      exfalso; omega
    · intro hc7
      have hc7 : ¬ (x4 = (0 : Int)) := hc7
      refine pw_ld E (pc' := 9) (st' := [pw_i mo]) rfl (fun _ => rfl) ?_
      refine pw_call (m' := 125) (As := [pw_i mo]) (rest := []) (ls'' := [some (pw_i mo)]) (by omega) E rfl (fun _ => pw_iS rfl rfl rfl) (rfl : pm_ent 125 = some (1, 1, 11, 1, pmc_125)) rfl rfl (cm_125 (by omega) I (mo) (by omega) (by omega)) ?_
      rintro u9 v8 ⟨rfl, x10, rfl, hx10a, hx10b, hx10r⟩
      refine ⟨_, rfl, ?_⟩
      show pw X d h 126 12 [some (.ref 16), some (pw_i k), some (pw_i mo), some (pw_i wh), some (pw_i hf)] [pw_i x10] _
      have hx10r : (x10 = 1 ∧ 0 ≤ mo ∧ mo ≤ 11) ∨ (x10 = 0 ∧ ¬ (0 ≤ mo ∧ mo ≤ 11)) := hx10r
      rcases (by omega : x10 = 1 ∨ x10 = 0) with hb11 | hb11
      · have hb11 : x10 = 1 := by omega
        refine pw_if E (pc' := 36) rfl (by decide) (by omega) (by omega) ?_ ?_
        · intro hc12
          have hc12 : x10 = (0 : Int) := hc12
          exfalso; omega
        · intro hc13
          have hc13 : ¬ (x10 = (0 : Int)) := hc13
          refine pw_ld E (pc' := 16) (st' := [pw_i wh]) rfl (fun _ => rfl) ?_
          refine pw_ld E (pc' := 17) (st' := [pw_i 0, pw_i wh]) rfl (fun _ => rfl) ?_
          refine pw_bip E (pc' := 19) rfl rfl (by decide) ?_
          refine pw_call (m' := 121) (As := [pw_i wh, pw_i 0, pw_i 99]) (rest := []) (ls'' := [some (pw_i wh), some (pw_i 0), some (pw_i 99)]) (by omega) E rfl (fun _ => pw_iS rfl rfl rfl) (rfl : pm_ent 121 = some (3, 3, 11, 1, pmc_121)) rfl rfl (cm_121 (by omega) I (wh) (by omega) (by omega) (0) (by omega) (by omega) (99) (by omega) (by omega)) ?_
          rintro u15 v14 ⟨rfl, x16, rfl, hx16a, hx16b, hx16r⟩
          refine ⟨_, rfl, ?_⟩
          show pw X d h 126 22 [some (.ref 16), some (pw_i k), some (pw_i mo), some (pw_i wh), some (pw_i hf)] [pw_i x16] _
          have hx16r : (x16 = 1 ∧ 0 ≤ wh ∧ wh ≤ 99) ∨ (x16 = 0 ∧ ¬ (0 ≤ wh ∧ wh ≤ 99)) := hx16r
          rcases (by omega : x16 = 1 ∨ x16 = 0) with hb17 | hb17
          · have hb17 : x16 = 1 := by omega
            refine pw_if E (pc' := 36) rfl (by decide) (by omega) (by omega) ?_ ?_
            · intro hc18
              have hc18 : x16 = (0 : Int) := hc18
              exfalso; omega
            · intro hc19
              have hc19 : ¬ (x16 = (0 : Int)) := hc19
              refine pw_ld E (pc' := 27) (st' := [pw_i hf]) rfl (fun _ => rfl) ?_
              refine pw_ld E (pc' := 28) (st' := [pw_i 0, pw_i hf]) rfl (fun _ => rfl) ?_
              refine pw_bip E (pc' := 30) rfl rfl (by decide) ?_
              refine pw_call (m' := 121) (As := [pw_i hf, pw_i 0, pw_i 99]) (rest := []) (ls'' := [some (pw_i hf), some (pw_i 0), some (pw_i 99)]) (by omega) E rfl (fun _ => pw_iS rfl rfl rfl) (rfl : pm_ent 121 = some (3, 3, 11, 1, pmc_121)) rfl rfl (cm_121 (by omega) I (hf) (by omega) (by omega) (0) (by omega) (by omega) (99) (by omega) (by omega)) ?_
              rintro u21 v20 ⟨rfl, x22, rfl, hx22a, hx22b, hx22r⟩
              refine ⟨_, rfl, ?_⟩
              show pw X d h 126 33 [some (.ref 16), some (pw_i k), some (pw_i mo), some (pw_i wh), some (pw_i hf)] [pw_i x22] _
              have hx22r : (x22 = 1 ∧ 0 ≤ hf ∧ hf ≤ 99) ∨ (x22 = 0 ∧ ¬ (0 ≤ hf ∧ hf ≤ 99)) := hx22r
              rcases (by omega : x22 = 1 ∨ x22 = 0) with hb23 | hb23
              · have hb23 : x22 = 1 := by omega
                refine pw_if E (pc' := 38) rfl (by decide) (by omega) (by omega) ?_ ?_
                · intro hc24
                  have hc24 : x22 ≠ (0 : Int) := hc24
                  refine pw_ld E (pc' := 39) (st' := [.ref 16]) rfl (fun _ => rfl) ?_
                  refine pw_getR (b := 28) I E (c := 0) (k := 3) (pc' := 42) rfl rfl rfl rfl rfl rfl rfl ?_
                  refine pw_ld E (pc' := 43) (st' := [pw_i k, .ref 28]) rfl (fun _ => rfl) ?_
                  refine pw_ld E (pc' := 44) (st' := [pw_i mo, pw_i k, .ref 28]) rfl (fun _ => rfl) ?_
                  refine pw_ld E (pc' := 45) (st' := [pw_i wh, pw_i mo, pw_i k, .ref 28]) rfl (fun _ => rfl) ?_
                  refine pw_ld E (pc' := 47) (st' := [pw_i hf, pw_i wh, pw_i mo, pw_i k, .ref 28]) rfl (fun _ => rfl) ?_
                  obtain ⟨f25l, f25h, -⟩ := pw_obj (c := 12) I rfl
                  refine pw_call (m' := 18) (As := [.ref 28, pw_i k, pw_i mo, pw_i wh, pw_i hf]) (rest := []) (ls'' := [some (.ref 28), some (pw_i k), some (pw_i mo), some (pw_i wh), some (pw_i hf)]) (by omega) E rfl (fun _ => pw_iV rfl rfl rfl rfl (pw_cellI f25h rfl)) (rfl : pm_ent 18 = some (5, 5, 2, 4, pmc_18)) rfl rfl (cm_18 (by omega) I 12 (by unfold pw_Lg; omega) (k) (by omega) (by omega) (mo) (by omega) (by omega) (wh) (by omega) (by omega) (hf) (by omega) (by omega)) ?_
                  rintro h26 v27 ⟨h26I, h26E, rfl⟩
                  refine ⟨_, rfl, ?_⟩
                  have h26F := E0.tr (h26E.wk (W' := [13]) (by first | rfl | simp))
                  show pw X d h26 126 50 [some (.ref 16), some (pw_i k), some (pw_i mo), some (pw_i wh), some (pw_i hf)] [] _
                  refine pw_ld E (pc' := 51) (st' := [pw_i 1]) rfl (fun _ => rfl) ?_
                  refine pw_zret E rfl (by omega) ?_
                  exact ⟨h26I, h26F, ⟨_, rfl, by omega, by omega⟩⟩
                · intro hc28
                  have hc28 : ¬ (x22 ≠ (0 : Int)) := hc28
                  exfalso; omega
              · have hb29 : x22 = 0 := by omega
                refine pw_if E (pc' := 38) rfl (by decide) (by omega) (by omega) ?_ ?_
                · intro hc30
                  have hc30 : x22 ≠ (0 : Int) := hc30
                  exfalso; omega
                · intro hc31
                  have hc31 : ¬ (x22 ≠ (0 : Int)) := hc31
                  refine pw_ld E (pc' := 37) (st' := [pw_i 0]) rfl (fun _ => rfl) ?_
                  refine pw_zret E rfl (by omega) ?_
                  exact ⟨I, E0, ⟨_, rfl, by omega, by omega⟩⟩
          · have hb32 : x16 = 0 := by omega
            refine pw_if E (pc' := 36) rfl (by decide) (by omega) (by omega) ?_ ?_
            · intro hc33
              have hc33 : x16 = (0 : Int) := hc33
              refine pw_ld E (pc' := 37) (st' := [pw_i 0]) rfl (fun _ => rfl) ?_
              refine pw_zret E rfl (by omega) ?_
              exact ⟨I, E0, ⟨_, rfl, by omega, by omega⟩⟩
            · intro hc34
              have hc34 : ¬ (x16 = (0 : Int)) := hc34
              exfalso; omega
      · have hb35 : x10 = 0 := by omega
        refine pw_if E (pc' := 36) rfl (by decide) (by omega) (by omega) ?_ ?_
        · intro hc36
          have hc36 : x10 = (0 : Int) := hc36
          refine pw_ld E (pc' := 37) (st' := [pw_i 0]) rfl (fun _ => rfl) ?_
          refine pw_zret E rfl (by omega) ?_
          exact ⟨I, E0, ⟨_, rfl, by omega, by omega⟩⟩
        · intro hc37
          have hc37 : ¬ (x10 = (0 : Int)) := hc37
          exfalso; omega
  · have hb38 : x4 = 0 := by omega
    refine pw_if E (pc' := 36) rfl (by decide) (by omega) (by omega) ?_ ?_
    · intro hc39
      have hc39 : x4 = (0 : Int) := hc39
      refine pw_ld E (pc' := 37) (st' := [pw_i 0]) rfl (fun _ => rfl) ?_
      refine pw_zret E rfl (by omega) ?_
      exact ⟨I, E0, ⟨_, rfl, by omega, by omega⟩⟩
    · intro hc40
      have hc40 : ¬ (x4 = (0 : Int)) := hc40
      exfalso; omega
set_option maxHeartbeats 4000000 in
theorem cm_127 {X : List (Nat × List Value)} {d : Nat} {h : pm_H} (hd : 2 ≤ d) (I : pw_I h) (n : Int) (hn1 : (-2147483648) ≤ n) (hn2 : n ≤ 2147483647) : pw X d h 127 0 [some (.ref 16), some (pw_i n)] [] (fun h' v => pw_I h' ∧ pw_E [0] h h' ∧ ∃ a : Int, v = .inl (some (pw_i a)) ∧ 0 ≤ a ∧ a ≤ 1 ∧ ((a = 1 ∧ 0 ≤ n ∧ n ≤ 10) ∨ (a = 0 ∧ ¬ (0 ≤ n ∧ n ≤ 10)))) := by
  have E : pm_ent 127 = some (2, 2, 11, 1, pmc_127) := rfl
  have E0 : pw_E [0] h h := pw_E.rf _ _
  refine pw_ld E (pc' := 1) (st' := [pw_i n]) rfl (fun _ => rfl) ?_
  refine pw_ld E (pc' := 2) (st' := [pw_i 0, pw_i n]) rfl (fun _ => rfl) ?_
  refine pw_bip E (pc' := 4) rfl rfl (by decide) ?_
  refine pw_call (m' := 121) (As := [pw_i n, pw_i 0, pw_i 10]) (rest := []) (ls'' := [some (pw_i n), some (pw_i 0), some (pw_i 10)]) (by omega) E rfl (fun _ => pw_iS rfl rfl rfl) (rfl : pm_ent 121 = some (3, 3, 11, 1, pmc_121)) rfl rfl (cm_121 (by omega) I (n) (by omega) (by omega) (0) (by omega) (by omega) (10) (by omega) (by omega)) ?_
  rintro u2 v1 ⟨rfl, x3, rfl, hx3a, hx3b, hx3r⟩
  refine ⟨_, rfl, ?_⟩
  show pw X d h 127 7 [some (.ref 16), some (pw_i n)] [pw_i x3] _
  have hx3r : (x3 = 1 ∧ 0 ≤ n ∧ n ≤ 10) ∨ (x3 = 0 ∧ ¬ (0 ≤ n ∧ n ≤ 10)) := hx3r
  rcases (by omega : x3 = 1 ∨ x3 = 0) with hb4 | hb4
  · have hb4 : x3 = 1 := by omega
    refine pw_if E (pc' := 12) rfl (by decide) (by omega) (by omega) ?_ ?_
    · intro hc5
      have hc5 : x3 ≠ (0 : Int) := hc5
      refine pw_ld E (pc' := 13) (st' := [.ref 16]) rfl (fun _ => rfl) ?_
      refine pw_ld E (pc' := 14) (st' := [pw_i n, .ref 16]) rfl (fun _ => rfl) ?_
      refine pw_putI I E (c := 0) (k := 6) (pc' := 17) rfl rfl rfl rfl (by omega) (by omega) (by omega) (by omega) rfl rfl ?_
      intro h6I h6E
      generalize h6w : pw_w h 0 6 (pw_i n) = h6 at h6I h6E ⊢
      have h6F := E0.tr (h6E.wk (W' := [0]) (by first | rfl | simp))
      refine pw_ld E (pc' := 18) (st' := [pw_i 1]) rfl (fun _ => rfl) ?_
      refine pw_zret E rfl (by omega) ?_
      exact ⟨h6I, h6F, ⟨_, rfl, by omega, by omega, by omega⟩⟩
    · intro hc7
      have hc7 : ¬ (x3 ≠ (0 : Int)) := hc7
      exfalso; omega
  · have hb8 : x3 = 0 := by omega
    refine pw_if E (pc' := 12) rfl (by decide) (by omega) (by omega) ?_ ?_
    · intro hc9
      have hc9 : x3 ≠ (0 : Int) := hc9
      exfalso; omega
    · intro hc10
      have hc10 : ¬ (x3 ≠ (0 : Int)) := hc10
      refine pw_ld E (pc' := 11) (st' := [pw_i 0]) rfl (fun _ => rfl) ?_
      refine pw_zret E rfl (by omega) ?_
      exact ⟨I, E0, ⟨_, rfl, by omega, by omega, by omega⟩⟩
set_option maxHeartbeats 4000000 in
theorem cm_128 {X : List (Nat × List Value)} {d : Nat} {h : pm_H} (hd : 3 ≤ d) (I : pw_I h) (b : Int) (hb1 : (-2147483648) ≤ b) (hb2 : b ≤ 2147483647) (mo : Int) (hmo1 : (-2147483648) ≤ mo) (hmo2 : mo ≤ 2147483647) (fl : Int) (hfl1 : (-2147483648) ≤ fl) (hfl2 : fl ≤ 2147483647) (tr : Int) (htr1 : (-2147483648) ≤ tr) (htr2 : tr ≤ 2147483647) : pw X d h 128 0 [some (.ref 16), some (pw_i b), some (pw_i mo), some (pw_i fl), some (pw_i tr)] [] (fun h' v => pw_I h' ∧ pw_E [8, 9] h h' ∧ ∃ a : Int, v = .inl (some (pw_i a)) ∧ 0 ≤ a ∧ a ≤ 1 ∧ ((a = 1 ∧ 0 ≤ b ∧ b ≤ 1 ∧ 0 ≤ mo ∧ mo ≤ 11 ∧ 0 ≤ fl ∧ fl ≤ 999 ∧ (-99) ≤ tr ∧ tr ≤ 99) ∨ (a = 0 ∧ ¬ (0 ≤ b ∧ b ≤ 1 ∧ 0 ≤ mo ∧ mo ≤ 11 ∧ 0 ≤ fl ∧ fl ≤ 999 ∧ (-99) ≤ tr ∧ tr ≤ 99)))) := by
  have E : pm_ent 128 = some (5, 5, 11, 1, pmc_128) := rfl
  have E0 : pw_E [8, 9] h h := pw_E.rf _ _
  refine pw_ld E (pc' := 1) (st' := [pw_i b]) rfl (fun _ => rfl) ?_
  refine pw_call (m' := 122) (As := [pw_i b]) (rest := []) (ls'' := [some (pw_i b)]) (by omega) E rfl (fun _ => pw_iS rfl rfl rfl) (rfl : pm_ent 122 = some (1, 1, 11, 1, pmc_122)) rfl rfl (cm_122 (by omega) I (b) (by omega) (by omega)) ?_
  rintro u2 v1 ⟨rfl, x3, rfl, hx3a, hx3b, hx3r⟩
  refine ⟨_, rfl, ?_⟩
  show pw X d h 128 4 [some (.ref 16), some (pw_i b), some (pw_i mo), some (pw_i fl), some (pw_i tr)] [pw_i x3] _
  have hx3r : (x3 = 1 ∧ 0 ≤ b ∧ b ≤ 1) ∨ (x3 = 0 ∧ ¬ (0 ≤ b ∧ b ≤ 1)) := hx3r
  rcases (by omega : x3 = 1 ∨ x3 = 0) with hb4 | hb4
  · have hb4 : x3 = 1 := by omega
    refine pw_if E (pc' := 37) rfl (by decide) (by omega) (by omega) ?_ ?_
    · intro hc5
      have hc5 : x3 = (0 : Int) := hc5
      exfalso; omega
    · intro hc6
      have hc6 : ¬ (x3 = (0 : Int)) := hc6
      refine pw_ld E (pc' := 8) (st' := [pw_i mo]) rfl (fun _ => rfl) ?_
      refine pw_call (m' := 125) (As := [pw_i mo]) (rest := []) (ls'' := [some (pw_i mo)]) (by omega) E rfl (fun _ => pw_iS rfl rfl rfl) (rfl : pm_ent 125 = some (1, 1, 11, 1, pmc_125)) rfl rfl (cm_125 (by omega) I (mo) (by omega) (by omega)) ?_
      rintro u8 v7 ⟨rfl, x9, rfl, hx9a, hx9b, hx9r⟩
      refine ⟨_, rfl, ?_⟩
      show pw X d h 128 11 [some (.ref 16), some (pw_i b), some (pw_i mo), some (pw_i fl), some (pw_i tr)] [pw_i x9] _
      have hx9r : (x9 = 1 ∧ 0 ≤ mo ∧ mo ≤ 11) ∨ (x9 = 0 ∧ ¬ (0 ≤ mo ∧ mo ≤ 11)) := hx9r
      rcases (by omega : x9 = 1 ∨ x9 = 0) with hb10 | hb10
      · have hb10 : x9 = 1 := by omega
        refine pw_if E (pc' := 37) rfl (by decide) (by omega) (by omega) ?_ ?_
        · intro hc11
          have hc11 : x9 = (0 : Int) := hc11
          exfalso; omega
        · intro hc12
          have hc12 : ¬ (x9 = (0 : Int)) := hc12
          refine pw_ld E (pc' := 15) (st' := [pw_i fl]) rfl (fun _ => rfl) ?_
          refine pw_ld E (pc' := 16) (st' := [pw_i 0, pw_i fl]) rfl (fun _ => rfl) ?_
          refine pw_sip E (pc' := 19) rfl rfl (by decide) ?_
          refine pw_call (m' := 121) (As := [pw_i fl, pw_i 0, pw_i 999]) (rest := []) (ls'' := [some (pw_i fl), some (pw_i 0), some (pw_i 999)]) (by omega) E rfl (fun _ => pw_iS rfl rfl rfl) (rfl : pm_ent 121 = some (3, 3, 11, 1, pmc_121)) rfl rfl (cm_121 (by omega) I (fl) (by omega) (by omega) (0) (by omega) (by omega) (999) (by omega) (by omega)) ?_
          rintro u14 v13 ⟨rfl, x15, rfl, hx15a, hx15b, hx15r⟩
          refine ⟨_, rfl, ?_⟩
          show pw X d h 128 22 [some (.ref 16), some (pw_i b), some (pw_i mo), some (pw_i fl), some (pw_i tr)] [pw_i x15] _
          have hx15r : (x15 = 1 ∧ 0 ≤ fl ∧ fl ≤ 999) ∨ (x15 = 0 ∧ ¬ (0 ≤ fl ∧ fl ≤ 999)) := hx15r
          rcases (by omega : x15 = 1 ∨ x15 = 0) with hb16 | hb16
          · have hb16 : x15 = 1 := by omega
            refine pw_if E (pc' := 37) rfl (by decide) (by omega) (by omega) ?_ ?_
            · intro hc17
              have hc17 : x15 = (0 : Int) := hc17
              exfalso; omega
            · intro hc18
              have hc18 : ¬ (x15 = (0 : Int)) := hc18
              refine pw_ld E (pc' := 27) (st' := [pw_i tr]) rfl (fun _ => rfl) ?_
              refine pw_bip E (pc' := 29) rfl rfl (by decide) ?_
              refine pw_bip E (pc' := 31) rfl rfl (by decide) ?_
              refine pw_call (m' := 121) (As := [pw_i tr, pw_i ((-99)), pw_i 99]) (rest := []) (ls'' := [some (pw_i tr), some (pw_i ((-99))), some (pw_i 99)]) (by omega) E rfl (fun _ => pw_iS rfl rfl rfl) (rfl : pm_ent 121 = some (3, 3, 11, 1, pmc_121)) rfl rfl (cm_121 (by omega) I (tr) (by omega) (by omega) ((-99)) (by omega) (by omega) (99) (by omega) (by omega)) ?_
              rintro u20 v19 ⟨rfl, x21, rfl, hx21a, hx21b, hx21r⟩
              refine ⟨_, rfl, ?_⟩
              show pw X d h 128 34 [some (.ref 16), some (pw_i b), some (pw_i mo), some (pw_i fl), some (pw_i tr)] [pw_i x21] _
              have hx21r : (x21 = 1 ∧ (-99) ≤ tr ∧ tr ≤ 99) ∨ (x21 = 0 ∧ ¬ ((-99) ≤ tr ∧ tr ≤ 99)) := hx21r
              rcases (by omega : x21 = 1 ∨ x21 = 0) with hb22 | hb22
              · have hb22 : x21 = 1 := by omega
                refine pw_if E (pc' := 39) rfl (by decide) (by omega) (by omega) ?_ ?_
                · intro hc23
                  have hc23 : x21 ≠ (0 : Int) := hc23
                  refine pw_ld E (pc' := 40) (st' := [.ref 16]) rfl (fun _ => rfl) ?_
                  refine pw_getR (b := 23) I E (c := 0) (k := 1) (pc' := 43) rfl rfl rfl rfl rfl rfl rfl ?_
                  refine pw_ld E (pc' := 44) (st' := [pw_i b, .ref 23]) rfl (fun _ => rfl) ?_
                  refine pw_ld E (pc' := 45) (st' := [pw_i mo, pw_i b, .ref 23]) rfl (fun _ => rfl) ?_
                  refine pw_ld E (pc' := 46) (st' := [pw_i fl, pw_i mo, pw_i b, .ref 23]) rfl (fun _ => rfl) ?_
                  refine pw_ld E (pc' := 48) (st' := [pw_i tr, pw_i fl, pw_i mo, pw_i b, .ref 23]) rfl (fun _ => rfl) ?_
                  obtain ⟨f24l, f24h, -⟩ := pw_obj (c := 7) I rfl
                  refine pw_call (m' := 1) (As := [.ref 23, pw_i b, pw_i mo, pw_i fl, pw_i tr]) (rest := []) (ls'' := [some (.ref 23), some (pw_i b), some (pw_i mo), some (pw_i fl), some (pw_i tr), none]) (by omega) E rfl (fun _ => pw_iV rfl rfl rfl rfl (pw_cellI f24h rfl)) (rfl : pm_ent 1 = some (5, 6, 0, 4, pmc_1)) rfl rfl (cm_1 (by omega) I (b) (by omega) (by omega) (mo) (by omega) (by omega) (fl) (by omega) (by omega) (tr) (by omega) (by omega)) ?_
                  rintro h25 v26 ⟨h25I, h25E, rfl⟩
                  refine ⟨_, rfl, ?_⟩
                  have h25F := E0.tr (h25E.wk (W' := [8, 9]) (by first | rfl | simp))
                  show pw X d h25 128 51 [some (.ref 16), some (pw_i b), some (pw_i mo), some (pw_i fl), some (pw_i tr)] [] _
                  refine pw_ld E (pc' := 52) (st' := [pw_i 1]) rfl (fun _ => rfl) ?_
                  refine pw_zret E rfl (by omega) ?_
                  exact ⟨h25I, h25F, ⟨_, rfl, by omega, by omega, by omega⟩⟩
                · intro hc27
                  have hc27 : ¬ (x21 ≠ (0 : Int)) := hc27
                  exfalso; omega
              · have hb28 : x21 = 0 := by omega
                refine pw_if E (pc' := 39) rfl (by decide) (by omega) (by omega) ?_ ?_
                · intro hc29
                  have hc29 : x21 ≠ (0 : Int) := hc29
                  exfalso; omega
                · intro hc30
                  have hc30 : ¬ (x21 ≠ (0 : Int)) := hc30
                  refine pw_ld E (pc' := 38) (st' := [pw_i 0]) rfl (fun _ => rfl) ?_
                  refine pw_zret E rfl (by omega) ?_
                  exact ⟨I, E0, ⟨_, rfl, by omega, by omega, by omega⟩⟩
          · have hb31 : x15 = 0 := by omega
            refine pw_if E (pc' := 37) rfl (by decide) (by omega) (by omega) ?_ ?_
            · intro hc32
              have hc32 : x15 = (0 : Int) := hc32
              refine pw_ld E (pc' := 38) (st' := [pw_i 0]) rfl (fun _ => rfl) ?_
              refine pw_zret E rfl (by omega) ?_
              exact ⟨I, E0, ⟨_, rfl, by omega, by omega, by omega⟩⟩
            · intro hc33
              have hc33 : ¬ (x15 = (0 : Int)) := hc33
              exfalso; omega
      · have hb34 : x9 = 0 := by omega
        refine pw_if E (pc' := 37) rfl (by decide) (by omega) (by omega) ?_ ?_
        · intro hc35
          have hc35 : x9 = (0 : Int) := hc35
          refine pw_ld E (pc' := 38) (st' := [pw_i 0]) rfl (fun _ => rfl) ?_
          refine pw_zret E rfl (by omega) ?_
          exact ⟨I, E0, ⟨_, rfl, by omega, by omega, by omega⟩⟩
        · intro hc36
          have hc36 : ¬ (x9 = (0 : Int)) := hc36
          exfalso; omega
  · have hb37 : x3 = 0 := by omega
    refine pw_if E (pc' := 37) rfl (by decide) (by omega) (by omega) ?_ ?_
    · intro hc38
      have hc38 : x3 = (0 : Int) := hc38
      refine pw_ld E (pc' := 38) (st' := [pw_i 0]) rfl (fun _ => rfl) ?_
      refine pw_zret E rfl (by omega) ?_
      exact ⟨I, E0, ⟨_, rfl, by omega, by omega, by omega⟩⟩
    · intro hc39
      have hc39 : ¬ (x3 = (0 : Int)) := hc39
      exfalso; omega
set_option maxHeartbeats 4000000 in
theorem cm_129 {X : List (Nat × List Value)} {d : Nat} {h : pm_H} (hd : 4 ≤ d) (I : pw_I h) (k : Int) (hk1 : (-2147483648) ≤ k) (hk2 : k ≤ 2147483647) (mo : Int) (hmo1 : (-2147483648) ≤ mo) (hmo2 : mo ≤ 2147483647) : pw X d h 129 0 [some (.ref 16), some (pw_i k), some (pw_i mo)] [] (fun h' v => h = h' ∧ ∃ a : Int, v = .inl (some (pw_i a)) ∧ (-2147483648) ≤ a ∧ a ≤ 2147483647) := by
  have E : pm_ent 129 = some (3, 3, 11, 0, pmc_129) := rfl
  refine pw_ld E (pc' := 1) (st' := [.ref 16]) rfl (fun _ => rfl) ?_
  refine pw_ld E (pc' := 2) (st' := [pw_i k, .ref 16]) rfl (fun _ => rfl) ?_
  obtain ⟨f1l, f1h, -⟩ := pw_obj (c := 0) I rfl
  refine pw_call (m' := 124) (As := [.ref 16, pw_i k]) (rest := []) (ls'' := [some (.ref 16), some (pw_i k)]) (by omega) E rfl (fun _ => pw_iV rfl rfl rfl rfl (pw_cellI f1h rfl)) (rfl : pm_ent 124 = some (2, 2, 11, 1, pmc_124)) rfl rfl (cm_124 (by omega) I (k) (by omega) (by omega)) ?_
  rintro u3 v2 ⟨rfl, x4, rfl, hx4a, hx4b, hx4r⟩
  refine ⟨_, rfl, ?_⟩
  show pw X d h 129 5 [some (.ref 16), some (pw_i k), some (pw_i mo)] [pw_i x4] _
  have hx4r : (x4 = 1 ∧ 0 ≤ k ∧ k ≤ 23) ∨ x4 = 0 := hx4r
  rcases (by omega : x4 = 1 ∨ x4 = 0) with hb5 | hb5
  · have hb5 : x4 = 1 := by omega
    refine pw_if E (pc' := 27) rfl (by decide) (by omega) (by omega) ?_ ?_
    · intro hc6
      have hc6 : x4 = (0 : Int) := hc6
      exfalso; omega
    · intro hc7
      have hc7 : ¬ (x4 = (0 : Int)) := hc7
      refine pw_ld E (pc' := 9) (st' := [pw_i mo]) rfl (fun _ => rfl) ?_
      refine pw_call (m' := 125) (As := [pw_i mo]) (rest := []) (ls'' := [some (pw_i mo)]) (by omega) E rfl (fun _ => pw_iS rfl rfl rfl) (rfl : pm_ent 125 = some (1, 1, 11, 1, pmc_125)) rfl rfl (cm_125 (by omega) I (mo) (by omega) (by omega)) ?_
      rintro u9 v8 ⟨rfl, x10, rfl, hx10a, hx10b, hx10r⟩
      refine ⟨_, rfl, ?_⟩
      show pw X d h 129 12 [some (.ref 16), some (pw_i k), some (pw_i mo)] [pw_i x10] _
      have hx10r : (x10 = 1 ∧ 0 ≤ mo ∧ mo ≤ 11) ∨ (x10 = 0 ∧ ¬ (0 ≤ mo ∧ mo ≤ 11)) := hx10r
      rcases (by omega : x10 = 1 ∨ x10 = 0) with hb11 | hb11
      · have hb11 : x10 = 1 := by omega
        refine pw_if E (pc' := 27) rfl (by decide) (by omega) (by omega) ?_ ?_
        · intro hc12
          have hc12 : x10 = (0 : Int) := hc12
          exfalso; omega
        · intro hc13
          have hc13 : ¬ (x10 = (0 : Int)) := hc13
          refine pw_ld E (pc' := 16) (st' := [.ref 16]) rfl (fun _ => rfl) ?_
          refine pw_getR (b := 26) I E (c := 0) (k := 2) (pc' := 19) rfl rfl rfl rfl rfl rfl rfl ?_
          refine pw_ld E (pc' := 20) (st' := [pw_i k, .ref 26]) rfl (fun _ => rfl) ?_
          refine pw_ld E (pc' := 21) (st' := [pw_i mo, pw_i k, .ref 26]) rfl (fun _ => rfl) ?_
          obtain ⟨f14l, f14h, -⟩ := pw_obj (c := 10) I rfl
          refine pw_call (m' := 19) (As := [.ref 26, pw_i k, pw_i mo]) (rest := []) (ls'' := [some (.ref 26), some (pw_i k), some (pw_i mo)]) (by omega) E rfl (fun _ => pw_iV rfl rfl rfl rfl (pw_cellI f14h rfl)) (rfl : pm_ent 19 = some (3, 3, 2, 1, pmc_19)) rfl rfl (cm_19 (by omega) I 10 (by unfold pw_Lg; omega) (k) (by omega) (by omega) (mo) (by omega) (by omega)) ?_
          rintro u16 v15 ⟨rfl, x17, rfl, hx17a, hx17b⟩
          refine ⟨_, rfl, ?_⟩
          show pw X d h 129 24 [some (.ref 16), some (pw_i k), some (pw_i mo)] [pw_i x17] _
          refine pw_if E (pc' := 29) rfl (by decide) (by omega) (by omega) ?_ ?_
          · intro hc18
            have hc18 : x17 = (0 : Int) := hc18
            refine pw_ld E (pc' := 30) (st' := [.ref 16]) rfl (fun _ => rfl) ?_
            refine pw_getR (b := 26) I E (c := 0) (k := 2) (pc' := 33) rfl rfl rfl rfl rfl rfl rfl ?_
            refine pw_ld E (pc' := 34) (st' := [pw_i k, .ref 26]) rfl (fun _ => rfl) ?_
            refine pw_ld E (pc' := 35) (st' := [pw_i mo, pw_i k, .ref 26]) rfl (fun _ => rfl) ?_
            refine pw_ld E (pc' := 36) (st' := [.ref 16, pw_i mo, pw_i k, .ref 26]) rfl (fun _ => rfl) ?_
            refine pw_getI I E (c := 0) (k := 6) (pc' := 39) rfl rfl rfl rfl rfl rfl (fun hf19a hf19b hf19c hf19d => ?_)
            obtain ⟨f20l, f20h, -⟩ := pw_obj (c := 10) I rfl
            refine pw_call (m' := 20) (As := [.ref 26, pw_i k, pw_i mo, pw_i (pw_g h 0 6)]) (rest := []) (ls'' := [some (.ref 26), some (pw_i k), some (pw_i mo), some (pw_i (pw_g h 0 6))]) (by omega) E rfl (fun _ => pw_iV rfl rfl rfl rfl (pw_cellI f20h rfl)) (rfl : pm_ent 20 = some (4, 4, 2, 0, pmc_20)) rfl rfl (cm_20 (by omega) I 10 (by unfold pw_Lg; omega) (k) (by omega) (by omega) (mo) (by omega) (by omega) (pw_g h 0 6) (by omega) (by omega)) ?_
            rintro u22 v21 ⟨rfl, x23, rfl, hx23a, hx23b⟩
            refine ⟨_, rfl, ?_⟩
            show pw X d h 129 42 [some (.ref 16), some (pw_i k), some (pw_i mo)] [pw_i x23] _
            refine pw_iret E rfl ?_
            exact ⟨rfl, ⟨_, rfl, by omega, by omega⟩⟩
          · intro hc24
            have hc24 : ¬ (x17 = (0 : Int)) := hc24
            refine pw_ld E (pc' := 28) (st' := [pw_i ((-1))]) rfl (fun _ => rfl) ?_
            refine pw_iret E rfl ?_
            exact ⟨rfl, ⟨_, rfl, by omega, by omega⟩⟩
      · have hb25 : x10 = 0 := by omega
        refine pw_if E (pc' := 27) rfl (by decide) (by omega) (by omega) ?_ ?_
        · intro hc26
          have hc26 : x10 = (0 : Int) := hc26
          refine pw_ld E (pc' := 28) (st' := [pw_i ((-1))]) rfl (fun _ => rfl) ?_
          refine pw_iret E rfl ?_
          exact ⟨rfl, ⟨_, rfl, by omega, by omega⟩⟩
        · intro hc27
          have hc27 : ¬ (x10 = (0 : Int)) := hc27
          exfalso; omega
  · have hb28 : x4 = 0 := by omega
    refine pw_if E (pc' := 27) rfl (by decide) (by omega) (by omega) ?_ ?_
    · intro hc29
      have hc29 : x4 = (0 : Int) := hc29
      refine pw_ld E (pc' := 28) (st' := [pw_i ((-1))]) rfl (fun _ => rfl) ?_
      refine pw_iret E rfl ?_
      exact ⟨rfl, ⟨_, rfl, by omega, by omega⟩⟩
    · intro hc30
      have hc30 : ¬ (x4 = (0 : Int)) := hc30
      exfalso; omega
set_option maxHeartbeats 4000000 in
theorem cm_138 {X : List (Nat × List Value)} {d : Nat} {h : pm_H} (hd : 4 ≤ d) (I : pw_I h) (b : Int) (hb1 : 0 ≤ b) (hb2 : b ≤ 11) (e : Int) (he1 : 0 ≤ e) (he2 : e ≤ 11) : pw X d h 138 0 [some (.ref 16), some (pw_i b), some (pw_i e), none] [] (fun h' v => pw_I h' ∧ pw_E [17, 18] h h' ∧ v = .inl none) := by
  have E : pm_ent 138 = some (3, 4, 11, 4, pmc_138) := rfl
  have E0 : pw_E [17, 18] h h := pw_E.rf _ _
  refine pw_ld E (pc' := 1) (st' := [.ref 16]) rfl (fun _ => rfl) ?_
  refine pw_getR (b := 32) I E (c := 0) (k := 7) (pc' := 4) rfl rfl rfl rfl rfl rfl rfl ?_
  obtain ⟨f1l, f1h, -⟩ := pw_obj (c := 16) I rfl
  refine pw_call (m' := 81) (As := [.ref 32]) (rest := []) (ls'' := [some (.ref 32)]) (by omega) E rfl (fun _ => pw_iV rfl rfl rfl rfl (pw_cellI f1h rfl)) (rfl : pm_ent 81 = some (1, 1, 8, 4, pmc_81)) rfl rfl (cm_81 (by omega) I ) ?_
  rintro h2 v3 ⟨h2I, h2E, rfl⟩
  refine ⟨_, rfl, ?_⟩
  have h2F := E0.tr (h2E.wk (W' := [17, 18]) (by first | rfl | simp))
  show pw X d h2 138 7 [some (.ref 16), some (pw_i b), some (pw_i e), none] [] _
  refine pw_ld E (pc' := 8) (st' := [pw_i 0]) rfl (fun _ => rfl) ?_
  refine pw_istn E (pc' := 9) (ls' := [some (.ref 16), some (pw_i b), some (pw_i e), some (pw_i 0)]) rfl rfl rfl rfl ?_
  have L9 : ∀ (n9 : Nat) (k9_3 : Int) (h9 : pm_H), pw_I h9 → pw_E [17, 18] h h9 → 0 ≤ k9_3 → k9_3 ≤ 24 → (24 - k9_3).toNat = n9 → pw X d h9 138 9 [some (.ref 16), some (pw_i b), some (pw_i e), some (pw_i k9_3)] [] (fun h' v => pw_I h' ∧ pw_E [17, 18] h h' ∧ v = .inl none) := by
    intro n9
    induction n9 using Nat.strongRecOn with
    | ind n9 ih9 =>
      intro k9_3 h9 I9 E9 k9_3a k9_3b hm9
      refine pw_ld E (pc' := 10) (st' := [pw_i k9_3]) rfl (fun _ => rfl) ?_
      refine pw_bip E (pc' := 12) rfl rfl (by decide) ?_
      refine pw_if2 E (pc' := 75) rfl (by decide) (by omega) (by omega) (by decide) (by decide) ?_ ?_
      · intro hc4
        have hc4 : (24 : Int) ≤ k9_3 := hc4
        refine pw_vret E rfl ?_
        exact ⟨I9, E9, rfl⟩
      · intro hc5
        have hc5 : ¬ ((24 : Int) ≤ k9_3) := hc5
        refine pw_ld E (pc' := 16) (st' := [.ref 16]) rfl (fun _ => rfl) ?_
        refine pw_getR (b := 17) I9 E (c := 0) (k := 0) (pc' := 19) rfl rfl rfl rfl rfl rfl rfl ?_
        refine pw_ld E (pc' := 20) (st' := [pw_i k9_3, .ref 17]) rfl (fun _ => rfl) ?_
        obtain ⟨f6l, f6h, -⟩ := pw_obj (c := 1) I9 rfl
        refine pw_call (m' := 59) (As := [.ref 17, pw_i k9_3]) (rest := []) (ls'' := [some (.ref 17), some (pw_i k9_3)]) (by omega) E rfl (fun _ => pw_iV rfl rfl rfl rfl (pw_cellI f6h rfl)) (rfl : pm_ent 59 = some (2, 2, 6, 1, pmc_59)) rfl rfl (cm_59 (by omega) I9 (k9_3) (by omega) (by omega)) ?_
        rintro u8 v7 ⟨rfl, x9, rfl, hx9a, hx9b, hx9r⟩
        refine ⟨_, rfl, ?_⟩
        show pw X d h9 138 23 [some (.ref 16), some (pw_i b), some (pw_i e), some (pw_i k9_3)] [pw_i x9] _
        have hx9r : x9 = pw_g h9 2 k9_3.toNat := hx9r
        rcases (by omega : x9 = 1 ∨ x9 = 0) with hb10 | hb10
        · have hb10 : x9 = 1 := by omega
          refine pw_if E (pc' := 69) rfl (by decide) (by omega) (by omega) ?_ ?_
          · intro hc11
            have hc11 : x9 = (0 : Int) := hc11
            exfalso; omega
          · intro hc12
            have hc12 : ¬ (x9 = (0 : Int)) := hc12
            refine pw_ld E (pc' := 27) (st' := [.ref 16]) rfl (fun _ => rfl) ?_
            refine pw_getR (b := 26) I9 E (c := 0) (k := 2) (pc' := 30) rfl rfl rfl rfl rfl rfl rfl ?_
            refine pw_ld E (pc' := 31) (st' := [pw_i k9_3, .ref 26]) rfl (fun _ => rfl) ?_
            refine pw_ld E (pc' := 32) (st' := [pw_i b, pw_i k9_3, .ref 26]) rfl (fun _ => rfl) ?_
            refine pw_ld E (pc' := 33) (st' := [pw_i e, pw_i b, pw_i k9_3, .ref 26]) rfl (fun _ => rfl) ?_
            obtain ⟨f13l, f13h, -⟩ := pw_obj (c := 10) I9 rfl
            refine pw_call (m' := 23) (As := [.ref 26, pw_i k9_3, pw_i b, pw_i e]) (rest := []) (ls'' := [some (.ref 26), some (pw_i k9_3), some (pw_i b), some (pw_i e)]) (by omega) E rfl (fun _ => pw_iV rfl rfl rfl rfl (pw_cellI f13h rfl)) (rfl : pm_ent 23 = some (4, 4, 2, 1, pmc_23)) rfl rfl (cm_23 (by omega) I9 10 (by unfold pw_Lg; omega) (k9_3) (by omega) (by omega) (b) (by omega) (by omega) (e) (by omega) (by omega)) ?_
            rintro u15 v14 ⟨rfl, x16, rfl, hx16a, hx16b⟩
            refine ⟨_, rfl, ?_⟩
            show pw X d h9 138 36 [some (.ref 16), some (pw_i b), some (pw_i e), some (pw_i k9_3)] [pw_i x16] _
            refine pw_if E (pc' := 69) rfl (by decide) (by omega) (by omega) ?_ ?_
            · intro hc17
              have hc17 : x16 = (0 : Int) := hc17
              refine pw_inc E (pc' := 72) (ls' := [some (.ref 16), some (pw_i b), some (pw_i e), some (pw_i (k9_3 + 1))]) rfl rfl rfl rfl ?_
              refine pw_goto E (pc' := 9) rfl (by decide) ?_
              exact ih9 _ (by omega) (k9_3 + 1) h9 I9 E9 (by omega) (by omega)  rfl
            · intro hc18
              have hc18 : ¬ (x16 = (0 : Int)) := hc18
              refine pw_ld E (pc' := 40) (st' := [.ref 16]) rfl (fun _ => rfl) ?_
              refine pw_getR (b := 32) I9 E (c := 0) (k := 7) (pc' := 43) rfl rfl rfl rfl rfl rfl rfl ?_
              refine pw_ld E (pc' := 44) (st' := [pw_i k9_3, .ref 32]) rfl (fun _ => rfl) ?_
              refine pw_ld E (pc' := 45) (st' := [.ref 16, pw_i k9_3, .ref 32]) rfl (fun _ => rfl) ?_
              refine pw_getR (b := 17) I9 E (c := 0) (k := 0) (pc' := 48) rfl rfl rfl rfl rfl rfl rfl ?_
              refine pw_ld E (pc' := 49) (st' := [pw_i k9_3, .ref 17, pw_i k9_3, .ref 32]) rfl (fun _ => rfl) ?_
              obtain ⟨f19l, f19h, -⟩ := pw_obj (c := 1) I9 rfl
              refine pw_call (m' := 60) (As := [.ref 17, pw_i k9_3]) (rest := [pw_i k9_3, .ref 32]) (ls'' := [some (.ref 17), some (pw_i k9_3)]) (by omega) E rfl (fun _ => pw_iV rfl rfl rfl rfl (pw_cellI f19h rfl)) (rfl : pm_ent 60 = some (2, 2, 6, 0, pmc_60)) rfl rfl (cm_60 (by omega) I9 (k9_3) (by omega) (by omega)) ?_
              rintro u21 v20 ⟨rfl, x22, rfl, hx22a, hx22b, hx22r⟩
              refine ⟨_, rfl, ?_⟩
              show pw X d h9 138 52 [some (.ref 16), some (pw_i b), some (pw_i e), some (pw_i k9_3)] [pw_i x22, pw_i k9_3, .ref 32] _
              have hx22r : x22 = pw_g h9 4 k9_3.toNat := hx22r
              refine pw_ld E (pc' := 53) (st' := [.ref 16, pw_i x22, pw_i k9_3, .ref 32]) rfl (fun _ => rfl) ?_
              refine pw_getR (b := 26) I9 E (c := 0) (k := 2) (pc' := 56) rfl rfl rfl rfl rfl rfl rfl ?_
              refine pw_ld E (pc' := 57) (st' := [pw_i k9_3, .ref 26, pw_i x22, pw_i k9_3, .ref 32]) rfl (fun _ => rfl) ?_
              refine pw_ld E (pc' := 58) (st' := [pw_i b, pw_i k9_3, .ref 26, pw_i x22, pw_i k9_3, .ref 32]) rfl (fun _ => rfl) ?_
              refine pw_ld E (pc' := 59) (st' := [pw_i e, pw_i b, pw_i k9_3, .ref 26, pw_i x22, pw_i k9_3, .ref 32]) rfl (fun _ => rfl) ?_
              refine pw_ld E (pc' := 60) (st' := [.ref 16, pw_i e, pw_i b, pw_i k9_3, .ref 26, pw_i x22, pw_i k9_3, .ref 32]) rfl (fun _ => rfl) ?_
              refine pw_getI I9 E (c := 0) (k := 6) (pc' := 63) rfl rfl rfl rfl rfl rfl (fun hf23a hf23b hf23c hf23d => ?_)
              obtain ⟨f24l, f24h, -⟩ := pw_obj (c := 10) I9 rfl
              refine pw_call (m' := 24) (As := [.ref 26, pw_i k9_3, pw_i b, pw_i e, pw_i (pw_g h9 0 6)]) (rest := [pw_i x22, pw_i k9_3, .ref 32]) (ls'' := [some (.ref 26), some (pw_i k9_3), some (pw_i b), some (pw_i e), some (pw_i (pw_g h9 0 6))]) (by omega) E rfl (fun _ => pw_iV rfl rfl rfl rfl (pw_cellI f24h rfl)) (rfl : pm_ent 24 = some (5, 5, 2, 0, pmc_24)) rfl rfl (cm_24 (by omega) I9 10 (by unfold pw_Lg; omega) (k9_3) (by omega) (by omega) (b) (by omega) (by omega) (e) (by omega) (by omega) (pw_g h9 0 6) (by omega) (by omega)) ?_
              rintro u26 v25 ⟨rfl, x27, rfl, hx27a, hx27b⟩
              refine ⟨_, rfl, ?_⟩
              show pw X d h9 138 66 [some (.ref 16), some (pw_i b), some (pw_i e), some (pw_i k9_3)] [pw_i x27, pw_i x22, pw_i k9_3, .ref 32] _
              obtain ⟨f28l, f28h, -⟩ := pw_obj (c := 16) I9 rfl
              refine pw_call (m' := 82) (As := [.ref 32, pw_i k9_3, pw_i x22, pw_i x27]) (rest := []) (ls'' := [some (.ref 32), some (pw_i k9_3), some (pw_i x22), some (pw_i x27)]) (by omega) E rfl (fun _ => pw_iV rfl rfl rfl rfl (pw_cellI f28h rfl)) (rfl : pm_ent 82 = some (4, 4, 8, 4, pmc_82)) rfl rfl (cm_82 (by omega) I9 (k9_3) (by omega) (by omega) (x22) (by omega) (by omega) (x27) (by omega) (by omega)) ?_
              rintro h29 v30 ⟨h29I, h29E, rfl⟩
              refine ⟨_, rfl, ?_⟩
              have h29F := E9.tr (h29E.wk (W' := [17, 18]) (by first | rfl | simp))
              show pw X d h29 138 69 [some (.ref 16), some (pw_i b), some (pw_i e), some (pw_i k9_3)] [] _
              refine pw_inc E (pc' := 72) (ls' := [some (.ref 16), some (pw_i b), some (pw_i e), some (pw_i (k9_3 + 1))]) rfl rfl rfl rfl ?_
              refine pw_goto E (pc' := 9) rfl (by decide) ?_
              exact ih9 _ (by omega) (k9_3 + 1) h29 h29I h29F (by omega) (by omega)  rfl
        · have hb31 : x9 = 0 := by omega
          refine pw_if E (pc' := 69) rfl (by decide) (by omega) (by omega) ?_ ?_
          · intro hc32
            have hc32 : x9 = (0 : Int) := hc32
            refine pw_inc E (pc' := 72) (ls' := [some (.ref 16), some (pw_i b), some (pw_i e), some (pw_i (k9_3 + 1))]) rfl rfl rfl rfl ?_
            refine pw_goto E (pc' := 9) rfl (by decide) ?_
            exact ih9 _ (by omega) (k9_3 + 1) h9 I9 E9 (by omega) (by omega)  rfl
          · intro hc33
            have hc33 : ¬ (x9 = (0 : Int)) := hc33
            exfalso; omega
  exact L9 _ (0) h2 h2I h2F (by omega) (by omega)  rfl
set_option maxHeartbeats 4000000 in
theorem cm_133 {X : List (Nat × List Value)} {d : Nat} {h : pm_H} (hd : 3 ≤ d) (I : pw_I h) (k : Int) (hk1 : 0 ≤ k) (hk2 : k ≤ 23) (mo : Int) (hmo1 : 0 ≤ mo) (hmo2 : mo ≤ 11) (z : Int) (hz1 : 0 ≤ z) (hz2 : z ≤ 1) : pw X d h 133 0 [some (.ref 16), some (pw_i k), some (pw_i mo), some (pw_i z)] [] (fun h' v => h = h' ∧ ∃ a : Int, v = .inl (some (pw_i a)) ∧ (-2147483648) ≤ a ∧ a ≤ 2147483647) := by
  have E : pm_ent 133 = some (4, 4, 11, 0, pmc_133) := rfl
  refine pw_ld E (pc' := 1) (st' := [.ref 16]) rfl (fun _ => rfl) ?_
  refine pw_getR (b := 26) I E (c := 0) (k := 2) (pc' := 4) rfl rfl rfl rfl rfl rfl rfl ?_
  refine pw_ld E (pc' := 5) (st' := [pw_i k, .ref 26]) rfl (fun _ => rfl) ?_
  refine pw_ld E (pc' := 6) (st' := [pw_i mo, pw_i k, .ref 26]) rfl (fun _ => rfl) ?_
  obtain ⟨f1l, f1h, -⟩ := pw_obj (c := 10) I rfl
  refine pw_call (m' := 19) (As := [.ref 26, pw_i k, pw_i mo]) (rest := []) (ls'' := [some (.ref 26), some (pw_i k), some (pw_i mo)]) (by omega) E rfl (fun _ => pw_iV rfl rfl rfl rfl (pw_cellI f1h rfl)) (rfl : pm_ent 19 = some (3, 3, 2, 1, pmc_19)) rfl rfl (cm_19 (by omega) I 10 (by unfold pw_Lg; omega) (k) (by omega) (by omega) (mo) (by omega) (by omega)) ?_
  rintro u3 v2 ⟨rfl, x4, rfl, hx4a, hx4b⟩
  refine ⟨_, rfl, ?_⟩
  show pw X d h 133 9 [some (.ref 16), some (pw_i k), some (pw_i mo), some (pw_i z)] [pw_i x4] _
  refine pw_if E (pc' := 26) rfl (by decide) (by omega) (by omega) ?_ ?_
  · intro hc5
    have hc5 : x4 ≠ (0 : Int) := hc5
    refine pw_ld E (pc' := 27) (st' := [pw_i z]) rfl (fun _ => rfl) ?_
    refine pw_if E (pc' := 44) rfl (by decide) (by omega) (by omega) ?_ ?_
    · intro hc6
      have hc6 : z = (0 : Int) := hc6
      refine pw_ld E (pc' := 45) (st' := [pw_i 0]) rfl (fun _ => rfl) ?_
      refine pw_iret E rfl ?_
      exact ⟨rfl, ⟨_, rfl, by omega, by omega⟩⟩
    · intro hc7
      have hc7 : ¬ (z = (0 : Int)) := hc7
      refine pw_bip E (pc' := 32) rfl rfl (by decide) ?_
      refine pw_ld E (pc' := 33) (st' := [.ref 16, pw_i 10]) rfl (fun _ => rfl) ?_
      refine pw_getR (b := 17) I E (c := 0) (k := 0) (pc' := 36) rfl rfl rfl rfl rfl rfl rfl ?_
      refine pw_ld E (pc' := 37) (st' := [pw_i k, .ref 17, pw_i 10]) rfl (fun _ => rfl) ?_
      obtain ⟨f8l, f8h, -⟩ := pw_obj (c := 1) I rfl
      refine pw_call (m' := 61) (As := [.ref 17, pw_i k]) (rest := [pw_i 10]) (ls'' := [some (.ref 17), some (pw_i k)]) (by omega) E rfl (fun _ => pw_iV rfl rfl rfl rfl (pw_cellI f8h rfl)) (rfl : pm_ent 61 = some (2, 2, 6, 0, pmc_61)) rfl rfl (cm_61 (by omega) I (k) (by omega) (by omega)) ?_
      rintro u10 v9 ⟨rfl, x11, rfl, hx11a, hx11b, hx11r⟩
      refine ⟨_, rfl, ?_⟩
      show pw X d h 133 40 [some (.ref 16), some (pw_i k), some (pw_i mo), some (pw_i z)] [pw_i x11, pw_i 10] _
      have hx11r : x11 = pw_g h 6 k.toNat := hx11r
      refine pw_mul E (pc' := 41) rfl rfl ?_
      refine pw_goto E (pc' := 45) rfl (by decide) ?_
      refine pw_iret E rfl ?_
      exact ⟨rfl, ⟨_, rfl, by omega, by omega⟩⟩
  · intro hc12
    have hc12 : ¬ (x4 ≠ (0 : Int)) := hc12
    refine pw_ld E (pc' := 13) (st' := [.ref 16]) rfl (fun _ => rfl) ?_
    refine pw_getR (b := 26) I E (c := 0) (k := 2) (pc' := 16) rfl rfl rfl rfl rfl rfl rfl ?_
    refine pw_ld E (pc' := 17) (st' := [pw_i k, .ref 26]) rfl (fun _ => rfl) ?_
    refine pw_ld E (pc' := 18) (st' := [pw_i mo, pw_i k, .ref 26]) rfl (fun _ => rfl) ?_
    refine pw_ld E (pc' := 19) (st' := [.ref 16, pw_i mo, pw_i k, .ref 26]) rfl (fun _ => rfl) ?_
    refine pw_getI I E (c := 0) (k := 6) (pc' := 22) rfl rfl rfl rfl rfl rfl (fun hf13a hf13b hf13c hf13d => ?_)
    obtain ⟨f14l, f14h, -⟩ := pw_obj (c := 10) I rfl
    refine pw_call (m' := 20) (As := [.ref 26, pw_i k, pw_i mo, pw_i (pw_g h 0 6)]) (rest := []) (ls'' := [some (.ref 26), some (pw_i k), some (pw_i mo), some (pw_i (pw_g h 0 6))]) (by omega) E rfl (fun _ => pw_iV rfl rfl rfl rfl (pw_cellI f14h rfl)) (rfl : pm_ent 20 = some (4, 4, 2, 0, pmc_20)) rfl rfl (cm_20 (by omega) I 10 (by unfold pw_Lg; omega) (k) (by omega) (by omega) (mo) (by omega) (by omega) (pw_g h 0 6) (by omega) (by omega)) ?_
    rintro u16 v15 ⟨rfl, x17, rfl, hx17a, hx17b⟩
    refine ⟨_, rfl, ?_⟩
    show pw X d h 133 25 [some (.ref 16), some (pw_i k), some (pw_i mo), some (pw_i z)] [pw_i x17] _
    refine pw_iret E rfl ?_
    exact ⟨rfl, ⟨_, rfl, by omega, by omega⟩⟩
set_option maxHeartbeats 4000000 in
theorem cm_132 {X : List (Nat × List Value)} {d : Nat} {h : pm_H} (hd : 4 ≤ d) (I : pw_I h) (b : Int) (hb1 : 0 ≤ b) (hb2 : b ≤ 11) (e : Int) (he1 : 0 ≤ e) (he2 : e ≤ 11) (z : Int) (hz1 : 0 ≤ z) (hz2 : z ≤ 1) : pw X d h 132 0 [some (.ref 16), some (pw_i b), some (pw_i e), some (pw_i z), none, none, none] [] (fun h' v => pw_I h' ∧ pw_E [17, 18] h h' ∧ v = .inl none) := by
  have E : pm_ent 132 = some (4, 7, 11, 4, pmc_132) := rfl
  have E0 : pw_E [17, 18] h h := pw_E.rf _ _
  refine pw_ld E (pc' := 1) (st' := [.ref 16]) rfl (fun _ => rfl) ?_
  refine pw_getR (b := 32) I E (c := 0) (k := 7) (pc' := 4) rfl rfl rfl rfl rfl rfl rfl ?_
  obtain ⟨f1l, f1h, -⟩ := pw_obj (c := 16) I rfl
  refine pw_call (m' := 81) (As := [.ref 32]) (rest := []) (ls'' := [some (.ref 32)]) (by omega) E rfl (fun _ => pw_iV rfl rfl rfl rfl (pw_cellI f1h rfl)) (rfl : pm_ent 81 = some (1, 1, 8, 4, pmc_81)) rfl rfl (cm_81 (by omega) I ) ?_
  rintro h2 v3 ⟨h2I, h2E, rfl⟩
  refine ⟨_, rfl, ?_⟩
  have h2F := E0.tr (h2E.wk (W' := [17, 18]) (by first | rfl | simp))
  show pw X d h2 132 7 [some (.ref 16), some (pw_i b), some (pw_i e), some (pw_i z), none, none, none] [] _
  refine pw_ld E (pc' := 8) (st' := [pw_i 0]) rfl (fun _ => rfl) ?_
  refine pw_ist E (pc' := 10) (ls' := [some (.ref 16), some (pw_i b), some (pw_i e), some (pw_i z), some (pw_i 0), none, none]) rfl rfl rfl rfl ?_
  have L10 : ∀ (n10 : Nat) (k10_4 : Int) (k10_5 : Option Value) (k10_6 : Option Value) (h10 : pm_H), pw_I h10 → pw_E [17, 18] h h10 → 0 ≤ k10_4 → k10_4 ≤ 24 → (24 - k10_4).toNat = n10 → pw X d h10 132 10 [some (.ref 16), some (pw_i b), some (pw_i e), some (pw_i z), some (pw_i k10_4), k10_5, k10_6] [] (fun h' v => pw_I h' ∧ pw_E [17, 18] h h' ∧ v = .inl none) := by
    intro n10
    induction n10 using Nat.strongRecOn with
    | ind n10 ih10 =>
      intro k10_4 k10_5 k10_6 h10 I10 E10 k10_4a k10_4b hm10
      refine pw_ld E (pc' := 12) (st' := [pw_i k10_4]) rfl (fun _ => rfl) ?_
      refine pw_bip E (pc' := 14) rfl rfl (by decide) ?_
      refine pw_if2 E (pc' := 112) rfl (by decide) (by omega) (by omega) (by decide) (by decide) ?_ ?_
      · intro hc4
        have hc4 : (24 : Int) ≤ k10_4 := hc4
        refine pw_vret E rfl ?_
        exact ⟨I10, E10, rfl⟩
      · intro hc5
        have hc5 : ¬ ((24 : Int) ≤ k10_4) := hc5
        refine pw_ld E (pc' := 18) (st' := [.ref 16]) rfl (fun _ => rfl) ?_
        refine pw_getR (b := 17) I10 E (c := 0) (k := 0) (pc' := 21) rfl rfl rfl rfl rfl rfl rfl ?_
        refine pw_ld E (pc' := 23) (st' := [pw_i k10_4, .ref 17]) rfl (fun _ => rfl) ?_
        obtain ⟨f6l, f6h, -⟩ := pw_obj (c := 1) I10 rfl
        refine pw_call (m' := 59) (As := [.ref 17, pw_i k10_4]) (rest := []) (ls'' := [some (.ref 17), some (pw_i k10_4)]) (by omega) E rfl (fun _ => pw_iV rfl rfl rfl rfl (pw_cellI f6h rfl)) (rfl : pm_ent 59 = some (2, 2, 6, 1, pmc_59)) rfl rfl (cm_59 (by omega) I10 (k10_4) (by omega) (by omega)) ?_
        rintro u8 v7 ⟨rfl, x9, rfl, hx9a, hx9b, hx9r⟩
        refine ⟨_, rfl, ?_⟩
        show pw X d h10 132 26 [some (.ref 16), some (pw_i b), some (pw_i e), some (pw_i z), some (pw_i k10_4), k10_5, k10_6] [pw_i x9] _
        have hx9r : x9 = pw_g h10 2 k10_4.toNat := hx9r
        rcases (by omega : x9 = 1 ∨ x9 = 0) with hb10 | hb10
        · have hb10 : x9 = 1 := by omega
          refine pw_if E (pc' := 106) rfl (by decide) (by omega) (by omega) ?_ ?_
          · intro hc11
            have hc11 : x9 = (0 : Int) := hc11
            exfalso; omega
          · intro hc12
            have hc12 : ¬ (x9 = (0 : Int)) := hc12
            refine pw_ld E (pc' := 30) (st' := [.ref 16]) rfl (fun _ => rfl) ?_
            refine pw_getR (b := 17) I10 E (c := 0) (k := 0) (pc' := 33) rfl rfl rfl rfl rfl rfl rfl ?_
            refine pw_ld E (pc' := 35) (st' := [pw_i k10_4, .ref 17]) rfl (fun _ => rfl) ?_
            obtain ⟨f13l, f13h, -⟩ := pw_obj (c := 1) I10 rfl
            refine pw_call (m' := 60) (As := [.ref 17, pw_i k10_4]) (rest := []) (ls'' := [some (.ref 17), some (pw_i k10_4)]) (by omega) E rfl (fun _ => pw_iV rfl rfl rfl rfl (pw_cellI f13h rfl)) (rfl : pm_ent 60 = some (2, 2, 6, 0, pmc_60)) rfl rfl (cm_60 (by omega) I10 (k10_4) (by omega) (by omega)) ?_
            rintro u15 v14 ⟨rfl, x16, rfl, hx16a, hx16b, hx16r⟩
            refine ⟨_, rfl, ?_⟩
            show pw X d h10 132 38 [some (.ref 16), some (pw_i b), some (pw_i e), some (pw_i z), some (pw_i k10_4), k10_5, k10_6] [pw_i x16] _
            have hx16r : x16 = pw_g h10 4 k10_4.toNat := hx16r
            refine pw_if E (pc' := 45) rfl (by decide) (by omega) (by omega) ?_ ?_
            · intro hc17
              have hc17 : x16 ≠ (0 : Int) := hc17
              refine pw_ld E (pc' := 46) (st' := [pw_i 0]) rfl (fun _ => rfl) ?_
              refine pw_ld E (pc' := 47) (st' := [pw_i z, pw_i 0]) rfl (fun _ => rfl) ?_
              refine pw_if2 E (pc' := 54) rfl (by decide) (by decide) (by decide) (by omega) (by omega) ?_ ?_
              · intro hc18
                have hc18 : (0 : Int) ≠ z := hc18
                refine pw_ld E (pc' := 55) (st' := [pw_i 0]) rfl (fun _ => rfl) ?_
                refine pw_ist E (pc' := 57) (ls' := [some (.ref 16), some (pw_i b), some (pw_i e), some (pw_i z), some (pw_i k10_4), some (pw_i 0), k10_6]) rfl rfl rfl rfl ?_
                refine pw_ld E (pc' := 58) (st' := [.ref 16]) rfl (fun _ => rfl) ?_
                refine pw_ld E (pc' := 60) (st' := [pw_i k10_4, .ref 16]) rfl (fun _ => rfl) ?_
                refine pw_ld E (pc' := 61) (st' := [pw_i e, pw_i k10_4, .ref 16]) rfl (fun _ => rfl) ?_
                refine pw_ld E (pc' := 63) (st' := [pw_i 0, pw_i e, pw_i k10_4, .ref 16]) rfl (fun _ => rfl) ?_
                obtain ⟨f19l, f19h, -⟩ := pw_obj (c := 0) I10 rfl
                refine pw_call (m' := 133) (As := [.ref 16, pw_i k10_4, pw_i e, pw_i 0]) (rest := []) (ls'' := [some (.ref 16), some (pw_i k10_4), some (pw_i e), some (pw_i 0)]) (by omega) E rfl (fun _ => pw_iV rfl rfl rfl rfl (pw_cellI f19h rfl)) (rfl : pm_ent 133 = some (4, 4, 11, 0, pmc_133)) rfl rfl (cm_133 (by omega) I10 (k10_4) (by omega) (by omega) (e) (by omega) (by omega) (0) (by omega) (by omega)) ?_
                rintro u21 v20 ⟨rfl, x22, rfl, hx22a, hx22b⟩
                refine ⟨_, rfl, ?_⟩
                show pw X d h10 132 66 [some (.ref 16), some (pw_i b), some (pw_i e), some (pw_i z), some (pw_i k10_4), some (pw_i 0), k10_6] [pw_i x22] _
                refine pw_ld E (pc' := 67) (st' := [.ref 16, pw_i x22]) rfl (fun _ => rfl) ?_
                refine pw_ld E (pc' := 69) (st' := [pw_i k10_4, .ref 16, pw_i x22]) rfl (fun _ => rfl) ?_
                refine pw_ld E (pc' := 70) (st' := [pw_i b, pw_i k10_4, .ref 16, pw_i x22]) rfl (fun _ => rfl) ?_
                refine pw_ld E (pc' := 72) (st' := [pw_i 0, pw_i b, pw_i k10_4, .ref 16, pw_i x22]) rfl (fun _ => rfl) ?_
                refine pw_if E (pc' := 79) rfl (by decide) (by decide) (by decide) ?_ ?_
                · intro hc23
                  have hc23 : (0 : Int) ≠ (0 : Int) := hc23
                  exfalso; omega
                · intro hc24
                  have hc24 : ¬ ((0 : Int) ≠ (0 : Int)) := hc24
                  refine pw_ld E (pc' := 76) (st' := [pw_i 1, pw_i b, pw_i k10_4, .ref 16, pw_i x22]) rfl (fun _ => rfl) ?_
                  refine pw_goto E (pc' := 80) rfl (by decide) ?_
                  obtain ⟨f25l, f25h, -⟩ := pw_obj (c := 0) I10 rfl
                  refine pw_call (m' := 133) (As := [.ref 16, pw_i k10_4, pw_i b, pw_i 1]) (rest := [pw_i x22]) (ls'' := [some (.ref 16), some (pw_i k10_4), some (pw_i b), some (pw_i 1)]) (by omega) E rfl (fun _ => pw_iV rfl rfl rfl rfl (pw_cellI f25h rfl)) (rfl : pm_ent 133 = some (4, 4, 11, 0, pmc_133)) rfl rfl (cm_133 (by omega) I10 (k10_4) (by omega) (by omega) (b) (by omega) (by omega) (1) (by omega) (by omega)) ?_
                  rintro u27 v26 ⟨rfl, x28, rfl, hx28a, hx28b⟩
                  refine ⟨_, rfl, ?_⟩
                  show pw X d h10 132 83 [some (.ref 16), some (pw_i b), some (pw_i e), some (pw_i z), some (pw_i k10_4), some (pw_i 0), k10_6] [pw_i x28, pw_i x22] _
                  refine pw_sub E (pc' := 84) rfl rfl ?_
                  refine pw_nm (fun x29 hx29a hx29b => ?_)
                  refine pw_ist E (pc' := 86) (ls' := [some (.ref 16), some (pw_i b), some (pw_i e), some (pw_i z), some (pw_i k10_4), some (pw_i 0), some (pw_i x29)]) rfl rfl rfl rfl ?_
                  refine pw_ld E (pc' := 87) (st' := [.ref 16]) rfl (fun _ => rfl) ?_
                  refine pw_getR (b := 32) I10 E (c := 0) (k := 7) (pc' := 90) rfl rfl rfl rfl rfl rfl rfl ?_
                  refine pw_ld E (pc' := 92) (st' := [pw_i k10_4, .ref 32]) rfl (fun _ => rfl) ?_
                  refine pw_ld E (pc' := 93) (st' := [.ref 16, pw_i k10_4, .ref 32]) rfl (fun _ => rfl) ?_
                  refine pw_getR (b := 17) I10 E (c := 0) (k := 0) (pc' := 96) rfl rfl rfl rfl rfl rfl rfl ?_
                  refine pw_ld E (pc' := 98) (st' := [pw_i k10_4, .ref 17, pw_i k10_4, .ref 32]) rfl (fun _ => rfl) ?_
                  obtain ⟨f30l, f30h, -⟩ := pw_obj (c := 1) I10 rfl
                  refine pw_call (m' := 60) (As := [.ref 17, pw_i k10_4]) (rest := [pw_i k10_4, .ref 32]) (ls'' := [some (.ref 17), some (pw_i k10_4)]) (by omega) E rfl (fun _ => pw_iV rfl rfl rfl rfl (pw_cellI f30h rfl)) (rfl : pm_ent 60 = some (2, 2, 6, 0, pmc_60)) rfl rfl (cm_60 (by omega) I10 (k10_4) (by omega) (by omega)) ?_
                  rintro u32 v31 ⟨rfl, x33, rfl, hx33a, hx33b, hx33r⟩
                  refine ⟨_, rfl, ?_⟩
                  show pw X d h10 132 101 [some (.ref 16), some (pw_i b), some (pw_i e), some (pw_i z), some (pw_i k10_4), some (pw_i 0), some (pw_i x29)] [pw_i x33, pw_i k10_4, .ref 32] _
                  have hx33r : x33 = pw_g h10 4 k10_4.toNat := hx33r
                  refine pw_ld E (pc' := 103) (st' := [pw_i x29, pw_i x33, pw_i k10_4, .ref 32]) rfl (fun _ => rfl) ?_
                  obtain ⟨f34l, f34h, -⟩ := pw_obj (c := 16) I10 rfl
                  refine pw_call (m' := 82) (As := [.ref 32, pw_i k10_4, pw_i x33, pw_i x29]) (rest := []) (ls'' := [some (.ref 32), some (pw_i k10_4), some (pw_i x33), some (pw_i x29)]) (by omega) E rfl (fun _ => pw_iV rfl rfl rfl rfl (pw_cellI f34h rfl)) (rfl : pm_ent 82 = some (4, 4, 8, 4, pmc_82)) rfl rfl (cm_82 (by omega) I10 (k10_4) (by omega) (by omega) (x33) (by omega) (by omega) (x29) (by omega) (by omega)) ?_
                  rintro h35 v36 ⟨h35I, h35E, rfl⟩
                  refine ⟨_, rfl, ?_⟩
                  have h35F := E10.tr (h35E.wk (W' := [17, 18]) (by first | rfl | simp))
                  show pw X d h35 132 106 [some (.ref 16), some (pw_i b), some (pw_i e), some (pw_i z), some (pw_i k10_4), some (pw_i 0), some (pw_i x29)] [] _
                  refine pw_inc E (pc' := 109) (ls' := [some (.ref 16), some (pw_i b), some (pw_i e), some (pw_i z), some (pw_i (k10_4 + 1)), some (pw_i 0), some (pw_i x29)]) rfl rfl rfl rfl ?_
                  refine pw_goto E (pc' := 10) rfl (by decide) ?_
                  exact ih10 _ (by omega) (k10_4 + 1) (some (pw_i 0)) (some (pw_i x29)) h35 h35I h35F (by omega) (by omega)  rfl
              · intro hc37
                have hc37 : ¬ ((0 : Int) ≠ z) := hc37
                refine pw_ld E (pc' := 51) (st' := [pw_i 1]) rfl (fun _ => rfl) ?_
                refine pw_goto E (pc' := 55) rfl (by decide) ?_
                refine pw_ist E (pc' := 57) (ls' := [some (.ref 16), some (pw_i b), some (pw_i e), some (pw_i z), some (pw_i k10_4), some (pw_i 1), k10_6]) rfl rfl rfl rfl ?_
                refine pw_ld E (pc' := 58) (st' := [.ref 16]) rfl (fun _ => rfl) ?_
                refine pw_ld E (pc' := 60) (st' := [pw_i k10_4, .ref 16]) rfl (fun _ => rfl) ?_
                refine pw_ld E (pc' := 61) (st' := [pw_i e, pw_i k10_4, .ref 16]) rfl (fun _ => rfl) ?_
                refine pw_ld E (pc' := 63) (st' := [pw_i 1, pw_i e, pw_i k10_4, .ref 16]) rfl (fun _ => rfl) ?_
                obtain ⟨f38l, f38h, -⟩ := pw_obj (c := 0) I10 rfl
                refine pw_call (m' := 133) (As := [.ref 16, pw_i k10_4, pw_i e, pw_i 1]) (rest := []) (ls'' := [some (.ref 16), some (pw_i k10_4), some (pw_i e), some (pw_i 1)]) (by omega) E rfl (fun _ => pw_iV rfl rfl rfl rfl (pw_cellI f38h rfl)) (rfl : pm_ent 133 = some (4, 4, 11, 0, pmc_133)) rfl rfl (cm_133 (by omega) I10 (k10_4) (by omega) (by omega) (e) (by omega) (by omega) (1) (by omega) (by omega)) ?_
                rintro u40 v39 ⟨rfl, x41, rfl, hx41a, hx41b⟩
                refine ⟨_, rfl, ?_⟩
                show pw X d h10 132 66 [some (.ref 16), some (pw_i b), some (pw_i e), some (pw_i z), some (pw_i k10_4), some (pw_i 1), k10_6] [pw_i x41] _
                refine pw_ld E (pc' := 67) (st' := [.ref 16, pw_i x41]) rfl (fun _ => rfl) ?_
                refine pw_ld E (pc' := 69) (st' := [pw_i k10_4, .ref 16, pw_i x41]) rfl (fun _ => rfl) ?_
                refine pw_ld E (pc' := 70) (st' := [pw_i b, pw_i k10_4, .ref 16, pw_i x41]) rfl (fun _ => rfl) ?_
                refine pw_ld E (pc' := 72) (st' := [pw_i 1, pw_i b, pw_i k10_4, .ref 16, pw_i x41]) rfl (fun _ => rfl) ?_
                refine pw_if E (pc' := 79) rfl (by decide) (by decide) (by decide) ?_ ?_
                · intro hc42
                  have hc42 : (1 : Int) ≠ (0 : Int) := hc42
                  refine pw_ld E (pc' := 80) (st' := [pw_i 0, pw_i b, pw_i k10_4, .ref 16, pw_i x41]) rfl (fun _ => rfl) ?_
                  obtain ⟨f43l, f43h, -⟩ := pw_obj (c := 0) I10 rfl
                  refine pw_call (m' := 133) (As := [.ref 16, pw_i k10_4, pw_i b, pw_i 0]) (rest := [pw_i x41]) (ls'' := [some (.ref 16), some (pw_i k10_4), some (pw_i b), some (pw_i 0)]) (by omega) E rfl (fun _ => pw_iV rfl rfl rfl rfl (pw_cellI f43h rfl)) (rfl : pm_ent 133 = some (4, 4, 11, 0, pmc_133)) rfl rfl (cm_133 (by omega) I10 (k10_4) (by omega) (by omega) (b) (by omega) (by omega) (0) (by omega) (by omega)) ?_
                  rintro u45 v44 ⟨rfl, x46, rfl, hx46a, hx46b⟩
                  refine ⟨_, rfl, ?_⟩
                  show pw X d h10 132 83 [some (.ref 16), some (pw_i b), some (pw_i e), some (pw_i z), some (pw_i k10_4), some (pw_i 1), k10_6] [pw_i x46, pw_i x41] _
                  refine pw_sub E (pc' := 84) rfl rfl ?_
                  refine pw_nm (fun x47 hx47a hx47b => ?_)
                  refine pw_ist E (pc' := 86) (ls' := [some (.ref 16), some (pw_i b), some (pw_i e), some (pw_i z), some (pw_i k10_4), some (pw_i 1), some (pw_i x47)]) rfl rfl rfl rfl ?_
                  refine pw_ld E (pc' := 87) (st' := [.ref 16]) rfl (fun _ => rfl) ?_
                  refine pw_getR (b := 32) I10 E (c := 0) (k := 7) (pc' := 90) rfl rfl rfl rfl rfl rfl rfl ?_
                  refine pw_ld E (pc' := 92) (st' := [pw_i k10_4, .ref 32]) rfl (fun _ => rfl) ?_
                  refine pw_ld E (pc' := 93) (st' := [.ref 16, pw_i k10_4, .ref 32]) rfl (fun _ => rfl) ?_
                  refine pw_getR (b := 17) I10 E (c := 0) (k := 0) (pc' := 96) rfl rfl rfl rfl rfl rfl rfl ?_
                  refine pw_ld E (pc' := 98) (st' := [pw_i k10_4, .ref 17, pw_i k10_4, .ref 32]) rfl (fun _ => rfl) ?_
                  obtain ⟨f48l, f48h, -⟩ := pw_obj (c := 1) I10 rfl
                  refine pw_call (m' := 60) (As := [.ref 17, pw_i k10_4]) (rest := [pw_i k10_4, .ref 32]) (ls'' := [some (.ref 17), some (pw_i k10_4)]) (by omega) E rfl (fun _ => pw_iV rfl rfl rfl rfl (pw_cellI f48h rfl)) (rfl : pm_ent 60 = some (2, 2, 6, 0, pmc_60)) rfl rfl (cm_60 (by omega) I10 (k10_4) (by omega) (by omega)) ?_
                  rintro u50 v49 ⟨rfl, x51, rfl, hx51a, hx51b, hx51r⟩
                  refine ⟨_, rfl, ?_⟩
                  show pw X d h10 132 101 [some (.ref 16), some (pw_i b), some (pw_i e), some (pw_i z), some (pw_i k10_4), some (pw_i 1), some (pw_i x47)] [pw_i x51, pw_i k10_4, .ref 32] _
                  have hx51r : x51 = pw_g h10 4 k10_4.toNat := hx51r
                  refine pw_ld E (pc' := 103) (st' := [pw_i x47, pw_i x51, pw_i k10_4, .ref 32]) rfl (fun _ => rfl) ?_
                  obtain ⟨f52l, f52h, -⟩ := pw_obj (c := 16) I10 rfl
                  refine pw_call (m' := 82) (As := [.ref 32, pw_i k10_4, pw_i x51, pw_i x47]) (rest := []) (ls'' := [some (.ref 32), some (pw_i k10_4), some (pw_i x51), some (pw_i x47)]) (by omega) E rfl (fun _ => pw_iV rfl rfl rfl rfl (pw_cellI f52h rfl)) (rfl : pm_ent 82 = some (4, 4, 8, 4, pmc_82)) rfl rfl (cm_82 (by omega) I10 (k10_4) (by omega) (by omega) (x51) (by omega) (by omega) (x47) (by omega) (by omega)) ?_
                  rintro h53 v54 ⟨h53I, h53E, rfl⟩
                  refine ⟨_, rfl, ?_⟩
                  have h53F := E10.tr (h53E.wk (W' := [17, 18]) (by first | rfl | simp))
                  show pw X d h53 132 106 [some (.ref 16), some (pw_i b), some (pw_i e), some (pw_i z), some (pw_i k10_4), some (pw_i 1), some (pw_i x47)] [] _
                  refine pw_inc E (pc' := 109) (ls' := [some (.ref 16), some (pw_i b), some (pw_i e), some (pw_i z), some (pw_i (k10_4 + 1)), some (pw_i 1), some (pw_i x47)]) rfl rfl rfl rfl ?_
                  refine pw_goto E (pc' := 10) rfl (by decide) ?_
                  exact ih10 _ (by omega) (k10_4 + 1) (some (pw_i 1)) (some (pw_i x47)) h53 h53I h53F (by omega) (by omega)  rfl
                · intro hc55
                  have hc55 : ¬ ((1 : Int) ≠ (0 : Int)) := hc55
                  exfalso; omega
            · intro hc56
              have hc56 : ¬ (x16 ≠ (0 : Int)) := hc56
              refine pw_ld E (pc' := 42) (st' := [pw_i 1]) rfl (fun _ => rfl) ?_
              refine pw_goto E (pc' := 46) rfl (by decide) ?_
              refine pw_ld E (pc' := 47) (st' := [pw_i z, pw_i 1]) rfl (fun _ => rfl) ?_
              refine pw_if2 E (pc' := 54) rfl (by decide) (by decide) (by decide) (by omega) (by omega) ?_ ?_
              · intro hc57
                have hc57 : (1 : Int) ≠ z := hc57
                refine pw_ld E (pc' := 55) (st' := [pw_i 0]) rfl (fun _ => rfl) ?_
                refine pw_ist E (pc' := 57) (ls' := [some (.ref 16), some (pw_i b), some (pw_i e), some (pw_i z), some (pw_i k10_4), some (pw_i 0), k10_6]) rfl rfl rfl rfl ?_
                refine pw_ld E (pc' := 58) (st' := [.ref 16]) rfl (fun _ => rfl) ?_
                refine pw_ld E (pc' := 60) (st' := [pw_i k10_4, .ref 16]) rfl (fun _ => rfl) ?_
                refine pw_ld E (pc' := 61) (st' := [pw_i e, pw_i k10_4, .ref 16]) rfl (fun _ => rfl) ?_
                refine pw_ld E (pc' := 63) (st' := [pw_i 0, pw_i e, pw_i k10_4, .ref 16]) rfl (fun _ => rfl) ?_
                obtain ⟨f58l, f58h, -⟩ := pw_obj (c := 0) I10 rfl
                refine pw_call (m' := 133) (As := [.ref 16, pw_i k10_4, pw_i e, pw_i 0]) (rest := []) (ls'' := [some (.ref 16), some (pw_i k10_4), some (pw_i e), some (pw_i 0)]) (by omega) E rfl (fun _ => pw_iV rfl rfl rfl rfl (pw_cellI f58h rfl)) (rfl : pm_ent 133 = some (4, 4, 11, 0, pmc_133)) rfl rfl (cm_133 (by omega) I10 (k10_4) (by omega) (by omega) (e) (by omega) (by omega) (0) (by omega) (by omega)) ?_
                rintro u60 v59 ⟨rfl, x61, rfl, hx61a, hx61b⟩
                refine ⟨_, rfl, ?_⟩
                show pw X d h10 132 66 [some (.ref 16), some (pw_i b), some (pw_i e), some (pw_i z), some (pw_i k10_4), some (pw_i 0), k10_6] [pw_i x61] _
                refine pw_ld E (pc' := 67) (st' := [.ref 16, pw_i x61]) rfl (fun _ => rfl) ?_
                refine pw_ld E (pc' := 69) (st' := [pw_i k10_4, .ref 16, pw_i x61]) rfl (fun _ => rfl) ?_
                refine pw_ld E (pc' := 70) (st' := [pw_i b, pw_i k10_4, .ref 16, pw_i x61]) rfl (fun _ => rfl) ?_
                refine pw_ld E (pc' := 72) (st' := [pw_i 0, pw_i b, pw_i k10_4, .ref 16, pw_i x61]) rfl (fun _ => rfl) ?_
                refine pw_if E (pc' := 79) rfl (by decide) (by decide) (by decide) ?_ ?_
                · intro hc62
                  have hc62 : (0 : Int) ≠ (0 : Int) := hc62
                  exfalso; omega
                · intro hc63
                  have hc63 : ¬ ((0 : Int) ≠ (0 : Int)) := hc63
                  refine pw_ld E (pc' := 76) (st' := [pw_i 1, pw_i b, pw_i k10_4, .ref 16, pw_i x61]) rfl (fun _ => rfl) ?_
                  refine pw_goto E (pc' := 80) rfl (by decide) ?_
                  obtain ⟨f64l, f64h, -⟩ := pw_obj (c := 0) I10 rfl
                  refine pw_call (m' := 133) (As := [.ref 16, pw_i k10_4, pw_i b, pw_i 1]) (rest := [pw_i x61]) (ls'' := [some (.ref 16), some (pw_i k10_4), some (pw_i b), some (pw_i 1)]) (by omega) E rfl (fun _ => pw_iV rfl rfl rfl rfl (pw_cellI f64h rfl)) (rfl : pm_ent 133 = some (4, 4, 11, 0, pmc_133)) rfl rfl (cm_133 (by omega) I10 (k10_4) (by omega) (by omega) (b) (by omega) (by omega) (1) (by omega) (by omega)) ?_
                  rintro u66 v65 ⟨rfl, x67, rfl, hx67a, hx67b⟩
                  refine ⟨_, rfl, ?_⟩
                  show pw X d h10 132 83 [some (.ref 16), some (pw_i b), some (pw_i e), some (pw_i z), some (pw_i k10_4), some (pw_i 0), k10_6] [pw_i x67, pw_i x61] _
                  refine pw_sub E (pc' := 84) rfl rfl ?_
                  refine pw_nm (fun x68 hx68a hx68b => ?_)
                  refine pw_ist E (pc' := 86) (ls' := [some (.ref 16), some (pw_i b), some (pw_i e), some (pw_i z), some (pw_i k10_4), some (pw_i 0), some (pw_i x68)]) rfl rfl rfl rfl ?_
                  refine pw_ld E (pc' := 87) (st' := [.ref 16]) rfl (fun _ => rfl) ?_
                  refine pw_getR (b := 32) I10 E (c := 0) (k := 7) (pc' := 90) rfl rfl rfl rfl rfl rfl rfl ?_
                  refine pw_ld E (pc' := 92) (st' := [pw_i k10_4, .ref 32]) rfl (fun _ => rfl) ?_
                  refine pw_ld E (pc' := 93) (st' := [.ref 16, pw_i k10_4, .ref 32]) rfl (fun _ => rfl) ?_
                  refine pw_getR (b := 17) I10 E (c := 0) (k := 0) (pc' := 96) rfl rfl rfl rfl rfl rfl rfl ?_
                  refine pw_ld E (pc' := 98) (st' := [pw_i k10_4, .ref 17, pw_i k10_4, .ref 32]) rfl (fun _ => rfl) ?_
                  obtain ⟨f69l, f69h, -⟩ := pw_obj (c := 1) I10 rfl
                  refine pw_call (m' := 60) (As := [.ref 17, pw_i k10_4]) (rest := [pw_i k10_4, .ref 32]) (ls'' := [some (.ref 17), some (pw_i k10_4)]) (by omega) E rfl (fun _ => pw_iV rfl rfl rfl rfl (pw_cellI f69h rfl)) (rfl : pm_ent 60 = some (2, 2, 6, 0, pmc_60)) rfl rfl (cm_60 (by omega) I10 (k10_4) (by omega) (by omega)) ?_
                  rintro u71 v70 ⟨rfl, x72, rfl, hx72a, hx72b, hx72r⟩
                  refine ⟨_, rfl, ?_⟩
                  show pw X d h10 132 101 [some (.ref 16), some (pw_i b), some (pw_i e), some (pw_i z), some (pw_i k10_4), some (pw_i 0), some (pw_i x68)] [pw_i x72, pw_i k10_4, .ref 32] _
                  have hx72r : x72 = pw_g h10 4 k10_4.toNat := hx72r
                  refine pw_ld E (pc' := 103) (st' := [pw_i x68, pw_i x72, pw_i k10_4, .ref 32]) rfl (fun _ => rfl) ?_
                  obtain ⟨f73l, f73h, -⟩ := pw_obj (c := 16) I10 rfl
                  refine pw_call (m' := 82) (As := [.ref 32, pw_i k10_4, pw_i x72, pw_i x68]) (rest := []) (ls'' := [some (.ref 32), some (pw_i k10_4), some (pw_i x72), some (pw_i x68)]) (by omega) E rfl (fun _ => pw_iV rfl rfl rfl rfl (pw_cellI f73h rfl)) (rfl : pm_ent 82 = some (4, 4, 8, 4, pmc_82)) rfl rfl (cm_82 (by omega) I10 (k10_4) (by omega) (by omega) (x72) (by omega) (by omega) (x68) (by omega) (by omega)) ?_
                  rintro h74 v75 ⟨h74I, h74E, rfl⟩
                  refine ⟨_, rfl, ?_⟩
                  have h74F := E10.tr (h74E.wk (W' := [17, 18]) (by first | rfl | simp))
                  show pw X d h74 132 106 [some (.ref 16), some (pw_i b), some (pw_i e), some (pw_i z), some (pw_i k10_4), some (pw_i 0), some (pw_i x68)] [] _
                  refine pw_inc E (pc' := 109) (ls' := [some (.ref 16), some (pw_i b), some (pw_i e), some (pw_i z), some (pw_i (k10_4 + 1)), some (pw_i 0), some (pw_i x68)]) rfl rfl rfl rfl ?_
                  refine pw_goto E (pc' := 10) rfl (by decide) ?_
                  exact ih10 _ (by omega) (k10_4 + 1) (some (pw_i 0)) (some (pw_i x68)) h74 h74I h74F (by omega) (by omega)  rfl
              · intro hc76
                have hc76 : ¬ ((1 : Int) ≠ z) := hc76
                refine pw_ld E (pc' := 51) (st' := [pw_i 1]) rfl (fun _ => rfl) ?_
                refine pw_goto E (pc' := 55) rfl (by decide) ?_
                refine pw_ist E (pc' := 57) (ls' := [some (.ref 16), some (pw_i b), some (pw_i e), some (pw_i z), some (pw_i k10_4), some (pw_i 1), k10_6]) rfl rfl rfl rfl ?_
                refine pw_ld E (pc' := 58) (st' := [.ref 16]) rfl (fun _ => rfl) ?_
                refine pw_ld E (pc' := 60) (st' := [pw_i k10_4, .ref 16]) rfl (fun _ => rfl) ?_
                refine pw_ld E (pc' := 61) (st' := [pw_i e, pw_i k10_4, .ref 16]) rfl (fun _ => rfl) ?_
                refine pw_ld E (pc' := 63) (st' := [pw_i 1, pw_i e, pw_i k10_4, .ref 16]) rfl (fun _ => rfl) ?_
                obtain ⟨f77l, f77h, -⟩ := pw_obj (c := 0) I10 rfl
                refine pw_call (m' := 133) (As := [.ref 16, pw_i k10_4, pw_i e, pw_i 1]) (rest := []) (ls'' := [some (.ref 16), some (pw_i k10_4), some (pw_i e), some (pw_i 1)]) (by omega) E rfl (fun _ => pw_iV rfl rfl rfl rfl (pw_cellI f77h rfl)) (rfl : pm_ent 133 = some (4, 4, 11, 0, pmc_133)) rfl rfl (cm_133 (by omega) I10 (k10_4) (by omega) (by omega) (e) (by omega) (by omega) (1) (by omega) (by omega)) ?_
                rintro u79 v78 ⟨rfl, x80, rfl, hx80a, hx80b⟩
                refine ⟨_, rfl, ?_⟩
                show pw X d h10 132 66 [some (.ref 16), some (pw_i b), some (pw_i e), some (pw_i z), some (pw_i k10_4), some (pw_i 1), k10_6] [pw_i x80] _
                refine pw_ld E (pc' := 67) (st' := [.ref 16, pw_i x80]) rfl (fun _ => rfl) ?_
                refine pw_ld E (pc' := 69) (st' := [pw_i k10_4, .ref 16, pw_i x80]) rfl (fun _ => rfl) ?_
                refine pw_ld E (pc' := 70) (st' := [pw_i b, pw_i k10_4, .ref 16, pw_i x80]) rfl (fun _ => rfl) ?_
                refine pw_ld E (pc' := 72) (st' := [pw_i 1, pw_i b, pw_i k10_4, .ref 16, pw_i x80]) rfl (fun _ => rfl) ?_
                refine pw_if E (pc' := 79) rfl (by decide) (by decide) (by decide) ?_ ?_
                · intro hc81
                  have hc81 : (1 : Int) ≠ (0 : Int) := hc81
                  refine pw_ld E (pc' := 80) (st' := [pw_i 0, pw_i b, pw_i k10_4, .ref 16, pw_i x80]) rfl (fun _ => rfl) ?_
                  obtain ⟨f82l, f82h, -⟩ := pw_obj (c := 0) I10 rfl
                  refine pw_call (m' := 133) (As := [.ref 16, pw_i k10_4, pw_i b, pw_i 0]) (rest := [pw_i x80]) (ls'' := [some (.ref 16), some (pw_i k10_4), some (pw_i b), some (pw_i 0)]) (by omega) E rfl (fun _ => pw_iV rfl rfl rfl rfl (pw_cellI f82h rfl)) (rfl : pm_ent 133 = some (4, 4, 11, 0, pmc_133)) rfl rfl (cm_133 (by omega) I10 (k10_4) (by omega) (by omega) (b) (by omega) (by omega) (0) (by omega) (by omega)) ?_
                  rintro u84 v83 ⟨rfl, x85, rfl, hx85a, hx85b⟩
                  refine ⟨_, rfl, ?_⟩
                  show pw X d h10 132 83 [some (.ref 16), some (pw_i b), some (pw_i e), some (pw_i z), some (pw_i k10_4), some (pw_i 1), k10_6] [pw_i x85, pw_i x80] _
                  refine pw_sub E (pc' := 84) rfl rfl ?_
                  refine pw_nm (fun x86 hx86a hx86b => ?_)
                  refine pw_ist E (pc' := 86) (ls' := [some (.ref 16), some (pw_i b), some (pw_i e), some (pw_i z), some (pw_i k10_4), some (pw_i 1), some (pw_i x86)]) rfl rfl rfl rfl ?_
                  refine pw_ld E (pc' := 87) (st' := [.ref 16]) rfl (fun _ => rfl) ?_
                  refine pw_getR (b := 32) I10 E (c := 0) (k := 7) (pc' := 90) rfl rfl rfl rfl rfl rfl rfl ?_
                  refine pw_ld E (pc' := 92) (st' := [pw_i k10_4, .ref 32]) rfl (fun _ => rfl) ?_
                  refine pw_ld E (pc' := 93) (st' := [.ref 16, pw_i k10_4, .ref 32]) rfl (fun _ => rfl) ?_
                  refine pw_getR (b := 17) I10 E (c := 0) (k := 0) (pc' := 96) rfl rfl rfl rfl rfl rfl rfl ?_
                  refine pw_ld E (pc' := 98) (st' := [pw_i k10_4, .ref 17, pw_i k10_4, .ref 32]) rfl (fun _ => rfl) ?_
                  obtain ⟨f87l, f87h, -⟩ := pw_obj (c := 1) I10 rfl
                  refine pw_call (m' := 60) (As := [.ref 17, pw_i k10_4]) (rest := [pw_i k10_4, .ref 32]) (ls'' := [some (.ref 17), some (pw_i k10_4)]) (by omega) E rfl (fun _ => pw_iV rfl rfl rfl rfl (pw_cellI f87h rfl)) (rfl : pm_ent 60 = some (2, 2, 6, 0, pmc_60)) rfl rfl (cm_60 (by omega) I10 (k10_4) (by omega) (by omega)) ?_
                  rintro u89 v88 ⟨rfl, x90, rfl, hx90a, hx90b, hx90r⟩
                  refine ⟨_, rfl, ?_⟩
                  show pw X d h10 132 101 [some (.ref 16), some (pw_i b), some (pw_i e), some (pw_i z), some (pw_i k10_4), some (pw_i 1), some (pw_i x86)] [pw_i x90, pw_i k10_4, .ref 32] _
                  have hx90r : x90 = pw_g h10 4 k10_4.toNat := hx90r
                  refine pw_ld E (pc' := 103) (st' := [pw_i x86, pw_i x90, pw_i k10_4, .ref 32]) rfl (fun _ => rfl) ?_
                  obtain ⟨f91l, f91h, -⟩ := pw_obj (c := 16) I10 rfl
                  refine pw_call (m' := 82) (As := [.ref 32, pw_i k10_4, pw_i x90, pw_i x86]) (rest := []) (ls'' := [some (.ref 32), some (pw_i k10_4), some (pw_i x90), some (pw_i x86)]) (by omega) E rfl (fun _ => pw_iV rfl rfl rfl rfl (pw_cellI f91h rfl)) (rfl : pm_ent 82 = some (4, 4, 8, 4, pmc_82)) rfl rfl (cm_82 (by omega) I10 (k10_4) (by omega) (by omega) (x90) (by omega) (by omega) (x86) (by omega) (by omega)) ?_
                  rintro h92 v93 ⟨h92I, h92E, rfl⟩
                  refine ⟨_, rfl, ?_⟩
                  have h92F := E10.tr (h92E.wk (W' := [17, 18]) (by first | rfl | simp))
                  show pw X d h92 132 106 [some (.ref 16), some (pw_i b), some (pw_i e), some (pw_i z), some (pw_i k10_4), some (pw_i 1), some (pw_i x86)] [] _
                  refine pw_inc E (pc' := 109) (ls' := [some (.ref 16), some (pw_i b), some (pw_i e), some (pw_i z), some (pw_i (k10_4 + 1)), some (pw_i 1), some (pw_i x86)]) rfl rfl rfl rfl ?_
                  refine pw_goto E (pc' := 10) rfl (by decide) ?_
                  exact ih10 _ (by omega) (k10_4 + 1) (some (pw_i 1)) (some (pw_i x86)) h92 h92I h92F (by omega) (by omega)  rfl
                · intro hc94
                  have hc94 : ¬ ((1 : Int) ≠ (0 : Int)) := hc94
                  exfalso; omega
        · have hb95 : x9 = 0 := by omega
          refine pw_if E (pc' := 106) rfl (by decide) (by omega) (by omega) ?_ ?_
          · intro hc96
            have hc96 : x9 = (0 : Int) := hc96
            refine pw_inc E (pc' := 109) (ls' := [some (.ref 16), some (pw_i b), some (pw_i e), some (pw_i z), some (pw_i (k10_4 + 1)), k10_5, k10_6]) rfl rfl rfl rfl ?_
            refine pw_goto E (pc' := 10) rfl (by decide) ?_
            exact ih10 _ (by omega) (k10_4 + 1) k10_5 k10_6 h10 I10 E10 (by omega) (by omega)  rfl
          · intro hc97
            have hc97 : ¬ (x9 = (0 : Int)) := hc97
            exfalso; omega
  exact L10 _ (0) (none) (none) h2 h2I h2F (by omega) (by omega)  rfl
set_option maxHeartbeats 4000000 in
theorem cm_150 {X : List (Nat × List Value)} {d : Nat} {h : pm_H} (hd : 4 ≤ d) (I : pw_I h) (b : Int) (hb1 : 0 ≤ b) (hb2 : b ≤ 11) (e : Int) (he1 : 0 ≤ e) (he2 : e ≤ 11) : pw X d h 150 0 [some (.ref 16), some (pw_i b), some (pw_i e), none] [] (fun h' v => pw_I h' ∧ pw_E [17, 18] h h' ∧ v = .inl none) := by
  have E : pm_ent 150 = some (3, 4, 11, 4, pmc_150) := rfl
  have E0 : pw_E [17, 18] h h := pw_E.rf _ _
  refine pw_ld E (pc' := 1) (st' := [.ref 16]) rfl (fun _ => rfl) ?_
  refine pw_getR (b := 32) I E (c := 0) (k := 7) (pc' := 4) rfl rfl rfl rfl rfl rfl rfl ?_
  obtain ⟨f1l, f1h, -⟩ := pw_obj (c := 16) I rfl
  refine pw_call (m' := 81) (As := [.ref 32]) (rest := []) (ls'' := [some (.ref 32)]) (by omega) E rfl (fun _ => pw_iV rfl rfl rfl rfl (pw_cellI f1h rfl)) (rfl : pm_ent 81 = some (1, 1, 8, 4, pmc_81)) rfl rfl (cm_81 (by omega) I ) ?_
  rintro h2 v3 ⟨h2I, h2E, rfl⟩
  refine ⟨_, rfl, ?_⟩
  have h2F := E0.tr (h2E.wk (W' := [17, 18]) (by first | rfl | simp))
  show pw X d h2 150 7 [some (.ref 16), some (pw_i b), some (pw_i e), none] [] _
  refine pw_ld E (pc' := 8) (st' := [pw_i 0]) rfl (fun _ => rfl) ?_
  refine pw_istn E (pc' := 9) (ls' := [some (.ref 16), some (pw_i b), some (pw_i e), some (pw_i 0)]) rfl rfl rfl rfl ?_
  have L9 : ∀ (n9 : Nat) (k9_3 : Int) (h9 : pm_H), pw_I h9 → pw_E [17, 18] h h9 → 0 ≤ k9_3 → k9_3 ≤ 24 → (24 - k9_3).toNat = n9 → pw X d h9 150 9 [some (.ref 16), some (pw_i b), some (pw_i e), some (pw_i k9_3)] [] (fun h' v => pw_I h' ∧ pw_E [17, 18] h h' ∧ v = .inl none) := by
    intro n9
    induction n9 using Nat.strongRecOn with
    | ind n9 ih9 =>
      intro k9_3 h9 I9 E9 k9_3a k9_3b hm9
      refine pw_ld E (pc' := 10) (st' := [pw_i k9_3]) rfl (fun _ => rfl) ?_
      refine pw_bip E (pc' := 12) rfl rfl (by decide) ?_
      refine pw_if2 E (pc' := 78) rfl (by decide) (by omega) (by omega) (by decide) (by decide) ?_ ?_
      · intro hc4
        have hc4 : (24 : Int) ≤ k9_3 := hc4
        refine pw_vret E rfl ?_
        exact ⟨I9, E9, rfl⟩
      · intro hc5
        have hc5 : ¬ ((24 : Int) ≤ k9_3) := hc5
        refine pw_ld E (pc' := 16) (st' := [.ref 16]) rfl (fun _ => rfl) ?_
        refine pw_getR (b := 17) I9 E (c := 0) (k := 0) (pc' := 19) rfl rfl rfl rfl rfl rfl rfl ?_
        refine pw_ld E (pc' := 20) (st' := [pw_i k9_3, .ref 17]) rfl (fun _ => rfl) ?_
        obtain ⟨f6l, f6h, -⟩ := pw_obj (c := 1) I9 rfl
        refine pw_call (m' := 59) (As := [.ref 17, pw_i k9_3]) (rest := []) (ls'' := [some (.ref 17), some (pw_i k9_3)]) (by omega) E rfl (fun _ => pw_iV rfl rfl rfl rfl (pw_cellI f6h rfl)) (rfl : pm_ent 59 = some (2, 2, 6, 1, pmc_59)) rfl rfl (cm_59 (by omega) I9 (k9_3) (by omega) (by omega)) ?_
        rintro u8 v7 ⟨rfl, x9, rfl, hx9a, hx9b, hx9r⟩
        refine ⟨_, rfl, ?_⟩
        show pw X d h9 150 23 [some (.ref 16), some (pw_i b), some (pw_i e), some (pw_i k9_3)] [pw_i x9] _
        have hx9r : x9 = pw_g h9 2 k9_3.toNat := hx9r
        rcases (by omega : x9 = 1 ∨ x9 = 0) with hb10 | hb10
        · have hb10 : x9 = 1 := by omega
          refine pw_if E (pc' := 72) rfl (by decide) (by omega) (by omega) ?_ ?_
          · intro hc11
            have hc11 : x9 = (0 : Int) := hc11
            exfalso; omega
          · intro hc12
            have hc12 : ¬ (x9 = (0 : Int)) := hc12
            refine pw_ld E (pc' := 27) (st' := [.ref 16]) rfl (fun _ => rfl) ?_
            refine pw_getR (b := 26) I9 E (c := 0) (k := 2) (pc' := 30) rfl rfl rfl rfl rfl rfl rfl ?_
            refine pw_ld E (pc' := 31) (st' := [pw_i k9_3, .ref 26]) rfl (fun _ => rfl) ?_
            refine pw_ld E (pc' := 32) (st' := [pw_i b, pw_i k9_3, .ref 26]) rfl (fun _ => rfl) ?_
            refine pw_ld E (pc' := 33) (st' := [pw_i e, pw_i b, pw_i k9_3, .ref 26]) rfl (fun _ => rfl) ?_
            obtain ⟨f13l, f13h, -⟩ := pw_obj (c := 10) I9 rfl
            refine pw_call (m' := 23) (As := [.ref 26, pw_i k9_3, pw_i b, pw_i e]) (rest := []) (ls'' := [some (.ref 26), some (pw_i k9_3), some (pw_i b), some (pw_i e)]) (by omega) E rfl (fun _ => pw_iV rfl rfl rfl rfl (pw_cellI f13h rfl)) (rfl : pm_ent 23 = some (4, 4, 2, 1, pmc_23)) rfl rfl (cm_23 (by omega) I9 10 (by unfold pw_Lg; omega) (k9_3) (by omega) (by omega) (b) (by omega) (by omega) (e) (by omega) (by omega)) ?_
            rintro u15 v14 ⟨rfl, x16, rfl, hx16a, hx16b⟩
            refine ⟨_, rfl, ?_⟩
            show pw X d h9 150 36 [some (.ref 16), some (pw_i b), some (pw_i e), some (pw_i k9_3)] [pw_i x16] _
            refine pw_if E (pc' := 72) rfl (by decide) (by omega) (by omega) ?_ ?_
            · intro hc17
              have hc17 : x16 = (0 : Int) := hc17
              refine pw_inc E (pc' := 75) (ls' := [some (.ref 16), some (pw_i b), some (pw_i e), some (pw_i (k9_3 + 1))]) rfl rfl rfl rfl ?_
              refine pw_goto E (pc' := 9) rfl (by decide) ?_
              exact ih9 _ (by omega) (k9_3 + 1) h9 I9 E9 (by omega) (by omega)  rfl
            · intro hc18
              have hc18 : ¬ (x16 = (0 : Int)) := hc18
              refine pw_ld E (pc' := 40) (st' := [.ref 16]) rfl (fun _ => rfl) ?_
              refine pw_getR (b := 32) I9 E (c := 0) (k := 7) (pc' := 43) rfl rfl rfl rfl rfl rfl rfl ?_
              refine pw_ld E (pc' := 44) (st' := [pw_i k9_3, .ref 32]) rfl (fun _ => rfl) ?_
              refine pw_ld E (pc' := 45) (st' := [.ref 16, pw_i k9_3, .ref 32]) rfl (fun _ => rfl) ?_
              refine pw_getR (b := 17) I9 E (c := 0) (k := 0) (pc' := 48) rfl rfl rfl rfl rfl rfl rfl ?_
              refine pw_ld E (pc' := 49) (st' := [pw_i k9_3, .ref 17, pw_i k9_3, .ref 32]) rfl (fun _ => rfl) ?_
              obtain ⟨f19l, f19h, -⟩ := pw_obj (c := 1) I9 rfl
              refine pw_call (m' := 60) (As := [.ref 17, pw_i k9_3]) (rest := [pw_i k9_3, .ref 32]) (ls'' := [some (.ref 17), some (pw_i k9_3)]) (by omega) E rfl (fun _ => pw_iV rfl rfl rfl rfl (pw_cellI f19h rfl)) (rfl : pm_ent 60 = some (2, 2, 6, 0, pmc_60)) rfl rfl (cm_60 (by omega) I9 (k9_3) (by omega) (by omega)) ?_
              rintro u21 v20 ⟨rfl, x22, rfl, hx22a, hx22b, hx22r⟩
              refine ⟨_, rfl, ?_⟩
              show pw X d h9 150 52 [some (.ref 16), some (pw_i b), some (pw_i e), some (pw_i k9_3)] [pw_i x22, pw_i k9_3, .ref 32] _
              have hx22r : x22 = pw_g h9 4 k9_3.toNat := hx22r
              refine pw_ld E (pc' := 53) (st' := [.ref 16, pw_i x22, pw_i k9_3, .ref 32]) rfl (fun _ => rfl) ?_
              refine pw_getR (b := 112) I9 E (c := 0) (k := 17) (pc' := 56) rfl rfl rfl rfl rfl rfl rfl ?_
              obtain ⟨f23l, f23h, -⟩ := pw_obj (c := 96) I9 rfl
              refine pw_call (m' := 117) (As := [.ref 112]) (rest := [pw_i x22, pw_i k9_3, .ref 32]) (ls'' := [some (.ref 112)]) (by omega) E rfl (fun _ => pw_iV rfl rfl rfl rfl (pw_cellI f23h rfl)) (rfl : pm_ent 117 = some (1, 1, 10, 3, pmc_117)) rfl rfl (cm_117 (by omega) I9 ) ?_
              rintro u25 v24 ⟨rfl, rfl⟩
              refine ⟨_, rfl, ?_⟩
              show pw X d h9 150 59 [some (.ref 16), some (pw_i b), some (pw_i e), some (pw_i k9_3)] [.ref 113, pw_i x22, pw_i k9_3, .ref 32] _
              refine pw_ld E (pc' := 60) (st' := [pw_i k9_3, .ref 113, pw_i x22, pw_i k9_3, .ref 32]) rfl (fun _ => rfl) ?_
              refine pw_ld E (pc' := 61) (st' := [pw_i b, pw_i k9_3, .ref 113, pw_i x22, pw_i k9_3, .ref 32]) rfl (fun _ => rfl) ?_
              refine pw_ld E (pc' := 62) (st' := [pw_i e, pw_i b, pw_i k9_3, .ref 113, pw_i x22, pw_i k9_3, .ref 32]) rfl (fun _ => rfl) ?_
              refine pw_ld E (pc' := 63) (st' := [.ref 16, pw_i e, pw_i b, pw_i k9_3, .ref 113, pw_i x22, pw_i k9_3, .ref 32]) rfl (fun _ => rfl) ?_
              refine pw_getI I9 E (c := 0) (k := 6) (pc' := 66) rfl rfl rfl rfl rfl rfl (fun hf26a hf26b hf26c hf26d => ?_)
              obtain ⟨f27l, f27h, -⟩ := pw_obj (c := 97) I9 rfl
              refine pw_call (m' := 24) (As := [.ref 113, pw_i k9_3, pw_i b, pw_i e, pw_i (pw_g h9 0 6)]) (rest := [pw_i x22, pw_i k9_3, .ref 32]) (ls'' := [some (.ref 113), some (pw_i k9_3), some (pw_i b), some (pw_i e), some (pw_i (pw_g h9 0 6))]) (by omega) E rfl (fun _ => pw_iV rfl rfl rfl rfl (pw_cellI f27h rfl)) (rfl : pm_ent 24 = some (5, 5, 2, 0, pmc_24)) rfl rfl (cm_24 (by omega) I9 97 (by unfold pw_Lg; omega) (k9_3) (by omega) (by omega) (b) (by omega) (by omega) (e) (by omega) (by omega) (pw_g h9 0 6) (by omega) (by omega)) ?_
              rintro u29 v28 ⟨rfl, x30, rfl, hx30a, hx30b⟩
              refine ⟨_, rfl, ?_⟩
              show pw X d h9 150 69 [some (.ref 16), some (pw_i b), some (pw_i e), some (pw_i k9_3)] [pw_i x30, pw_i x22, pw_i k9_3, .ref 32] _
              obtain ⟨f31l, f31h, -⟩ := pw_obj (c := 16) I9 rfl
              refine pw_call (m' := 82) (As := [.ref 32, pw_i k9_3, pw_i x22, pw_i x30]) (rest := []) (ls'' := [some (.ref 32), some (pw_i k9_3), some (pw_i x22), some (pw_i x30)]) (by omega) E rfl (fun _ => pw_iV rfl rfl rfl rfl (pw_cellI f31h rfl)) (rfl : pm_ent 82 = some (4, 4, 8, 4, pmc_82)) rfl rfl (cm_82 (by omega) I9 (k9_3) (by omega) (by omega) (x22) (by omega) (by omega) (x30) (by omega) (by omega)) ?_
              rintro h32 v33 ⟨h32I, h32E, rfl⟩
              refine ⟨_, rfl, ?_⟩
              have h32F := E9.tr (h32E.wk (W' := [17, 18]) (by first | rfl | simp))
              show pw X d h32 150 72 [some (.ref 16), some (pw_i b), some (pw_i e), some (pw_i k9_3)] [] _
              refine pw_inc E (pc' := 75) (ls' := [some (.ref 16), some (pw_i b), some (pw_i e), some (pw_i (k9_3 + 1))]) rfl rfl rfl rfl ?_
              refine pw_goto E (pc' := 9) rfl (by decide) ?_
              exact ih9 _ (by omega) (k9_3 + 1) h32 h32I h32F (by omega) (by omega)  rfl
        · have hb34 : x9 = 0 := by omega
          refine pw_if E (pc' := 72) rfl (by decide) (by omega) (by omega) ?_ ?_
          · intro hc35
            have hc35 : x9 = (0 : Int) := hc35
            refine pw_inc E (pc' := 75) (ls' := [some (.ref 16), some (pw_i b), some (pw_i e), some (pw_i (k9_3 + 1))]) rfl rfl rfl rfl ?_
            refine pw_goto E (pc' := 9) rfl (by decide) ?_
            exact ih9 _ (by omega) (k9_3 + 1) h9 I9 E9 (by omega) (by omega)  rfl
          · intro hc36
            have hc36 : ¬ (x9 = (0 : Int)) := hc36
            exfalso; omega
  exact L9 _ (0) h2 h2I h2F (by omega) (by omega)  rfl
set_option maxHeartbeats 4000000 in
theorem cm_135 {X : List (Nat × List Value)} {d : Nat} {h : pm_H} (hd : 2 ≤ d) (I : pw_I h) (k : Int) (hk1 : 0 ≤ k) (hk2 : k ≤ 23) (b : Int) (hb1 : 0 ≤ b) (hb2 : b ≤ 11) (e : Int) (he1 : 0 ≤ e) (he2 : e ≤ 11) : pw X d h 135 0 [some (.ref 16), some (pw_i k), some (pw_i b), some (pw_i e)] [] (fun h' v => h = h' ∧ ∃ a : Int, v = .inl (some (pw_i a)) ∧ (-2147483648) ≤ a ∧ a ≤ 2147483647) := by
  have E : pm_ent 135 = some (4, 4, 11, 0, pmc_135) := rfl
  refine pw_ld E (pc' := 1) (st' := [.ref 16]) rfl (fun _ => rfl) ?_
  refine pw_getR (b := 26) I E (c := 0) (k := 2) (pc' := 4) rfl rfl rfl rfl rfl rfl rfl ?_
  refine pw_ld E (pc' := 5) (st' := [pw_i k, .ref 26]) rfl (fun _ => rfl) ?_
  refine pw_ld E (pc' := 6) (st' := [pw_i b, pw_i k, .ref 26]) rfl (fun _ => rfl) ?_
  obtain ⟨f1l, f1h, -⟩ := pw_obj (c := 10) I rfl
  refine pw_call (m' := 19) (As := [.ref 26, pw_i k, pw_i b]) (rest := []) (ls'' := [some (.ref 26), some (pw_i k), some (pw_i b)]) (by omega) E rfl (fun _ => pw_iV rfl rfl rfl rfl (pw_cellI f1h rfl)) (rfl : pm_ent 19 = some (3, 3, 2, 1, pmc_19)) rfl rfl (cm_19 (by omega) I 10 (by unfold pw_Lg; omega) (k) (by omega) (by omega) (b) (by omega) (by omega)) ?_
  rintro u3 v2 ⟨rfl, x4, rfl, hx4a, hx4b⟩
  refine ⟨_, rfl, ?_⟩
  show pw X d h 135 9 [some (.ref 16), some (pw_i k), some (pw_i b), some (pw_i e)] [pw_i x4] _
  refine pw_if E (pc' := 16) rfl (by decide) (by omega) (by omega) ?_ ?_
  · intro hc5
    have hc5 : x4 = (0 : Int) := hc5
    refine pw_ld E (pc' := 17) (st' := [pw_i 0]) rfl (fun _ => rfl) ?_
    refine pw_ld E (pc' := 18) (st' := [.ref 16, pw_i 0]) rfl (fun _ => rfl) ?_
    refine pw_getR (b := 26) I E (c := 0) (k := 2) (pc' := 21) rfl rfl rfl rfl rfl rfl rfl ?_
    refine pw_ld E (pc' := 22) (st' := [pw_i k, .ref 26, pw_i 0]) rfl (fun _ => rfl) ?_
    refine pw_ld E (pc' := 23) (st' := [pw_i e, pw_i k, .ref 26, pw_i 0]) rfl (fun _ => rfl) ?_
    obtain ⟨f6l, f6h, -⟩ := pw_obj (c := 10) I rfl
    refine pw_call (m' := 19) (As := [.ref 26, pw_i k, pw_i e]) (rest := [pw_i 0]) (ls'' := [some (.ref 26), some (pw_i k), some (pw_i e)]) (by omega) E rfl (fun _ => pw_iV rfl rfl rfl rfl (pw_cellI f6h rfl)) (rfl : pm_ent 19 = some (3, 3, 2, 1, pmc_19)) rfl rfl (cm_19 (by omega) I 10 (by unfold pw_Lg; omega) (k) (by omega) (by omega) (e) (by omega) (by omega)) ?_
    rintro u8 v7 ⟨rfl, x9, rfl, hx9a, hx9b⟩
    refine ⟨_, rfl, ?_⟩
    show pw X d h 135 26 [some (.ref 16), some (pw_i k), some (pw_i b), some (pw_i e)] [pw_i x9, pw_i 0] _
    refine pw_if E (pc' := 33) rfl (by decide) (by omega) (by omega) ?_ ?_
    · intro hc10
      have hc10 : x9 = (0 : Int) := hc10
      refine pw_ld E (pc' := 34) (st' := [pw_i 0, pw_i 0]) rfl (fun _ => rfl) ?_
      refine pw_add E (pc' := 35) rfl rfl ?_
      refine pw_iret E rfl ?_
      exact ⟨rfl, ⟨_, rfl, by omega, by omega⟩⟩
    · intro hc11
      have hc11 : ¬ (x9 = (0 : Int)) := hc11
      refine pw_ld E (pc' := 30) (st' := [pw_i 1, pw_i 0]) rfl (fun _ => rfl) ?_
      refine pw_goto E (pc' := 34) rfl (by decide) ?_
      refine pw_add E (pc' := 35) rfl rfl ?_
      refine pw_iret E rfl ?_
      exact ⟨rfl, ⟨_, rfl, by omega, by omega⟩⟩
  · intro hc12
    have hc12 : ¬ (x4 = (0 : Int)) := hc12
    refine pw_ld E (pc' := 13) (st' := [pw_i 1]) rfl (fun _ => rfl) ?_
    refine pw_goto E (pc' := 17) rfl (by decide) ?_
    refine pw_ld E (pc' := 18) (st' := [.ref 16, pw_i 1]) rfl (fun _ => rfl) ?_
    refine pw_getR (b := 26) I E (c := 0) (k := 2) (pc' := 21) rfl rfl rfl rfl rfl rfl rfl ?_
    refine pw_ld E (pc' := 22) (st' := [pw_i k, .ref 26, pw_i 1]) rfl (fun _ => rfl) ?_
    refine pw_ld E (pc' := 23) (st' := [pw_i e, pw_i k, .ref 26, pw_i 1]) rfl (fun _ => rfl) ?_
    obtain ⟨f13l, f13h, -⟩ := pw_obj (c := 10) I rfl
    refine pw_call (m' := 19) (As := [.ref 26, pw_i k, pw_i e]) (rest := [pw_i 1]) (ls'' := [some (.ref 26), some (pw_i k), some (pw_i e)]) (by omega) E rfl (fun _ => pw_iV rfl rfl rfl rfl (pw_cellI f13h rfl)) (rfl : pm_ent 19 = some (3, 3, 2, 1, pmc_19)) rfl rfl (cm_19 (by omega) I 10 (by unfold pw_Lg; omega) (k) (by omega) (by omega) (e) (by omega) (by omega)) ?_
    rintro u15 v14 ⟨rfl, x16, rfl, hx16a, hx16b⟩
    refine ⟨_, rfl, ?_⟩
    show pw X d h 135 26 [some (.ref 16), some (pw_i k), some (pw_i b), some (pw_i e)] [pw_i x16, pw_i 1] _
    refine pw_if E (pc' := 33) rfl (by decide) (by omega) (by omega) ?_ ?_
    · intro hc17
      have hc17 : x16 = (0 : Int) := hc17
      refine pw_ld E (pc' := 34) (st' := [pw_i 0, pw_i 1]) rfl (fun _ => rfl) ?_
      refine pw_add E (pc' := 35) rfl rfl ?_
      refine pw_iret E rfl ?_
      exact ⟨rfl, ⟨_, rfl, by omega, by omega⟩⟩
    · intro hc18
      have hc18 : ¬ (x16 = (0 : Int)) := hc18
      refine pw_ld E (pc' := 30) (st' := [pw_i 1, pw_i 1]) rfl (fun _ => rfl) ?_
      refine pw_goto E (pc' := 34) rfl (by decide) ?_
      refine pw_add E (pc' := 35) rfl rfl ?_
      refine pw_iret E rfl ?_
      exact ⟨rfl, ⟨_, rfl, by omega, by omega⟩⟩
set_option maxHeartbeats 4000000 in
theorem cm_159 {X : List (Nat × List Value)} {d : Nat} {h : pm_H} (hd : 2 ≤ d) (I : pw_I h) (k : Int) (hk1 : 0 ≤ k) (hk2 : k ≤ 23) (mo : Int) (hmo1 : 0 ≤ mo) (hmo2 : mo ≤ 11) : pw X d h 159 0 [some (.ref 16), some (pw_i k), some (pw_i mo)] [] (fun h' v => h = h' ∧ ∃ a : Int, v = .inl (some (pw_i a)) ∧ 0 ≤ a ∧ a ≤ 1) := by
  have E : pm_ent 159 = some (3, 3, 11, 1, pmc_159) := rfl
  refine pw_ld E (pc' := 1) (st' := [.ref 16]) rfl (fun _ => rfl) ?_
  refine pw_getR (b := 17) I E (c := 0) (k := 0) (pc' := 4) rfl rfl rfl rfl rfl rfl rfl ?_
  refine pw_ld E (pc' := 5) (st' := [pw_i k, .ref 17]) rfl (fun _ => rfl) ?_
  obtain ⟨f1l, f1h, -⟩ := pw_obj (c := 1) I rfl
  refine pw_call (m' := 64) (As := [.ref 17, pw_i k]) (rest := []) (ls'' := [some (.ref 17), some (pw_i k)]) (by omega) E rfl (fun _ => pw_iV rfl rfl rfl rfl (pw_cellI f1h rfl)) (rfl : pm_ent 64 = some (2, 2, 6, 0, pmc_64)) rfl rfl (cm_64 (by omega) I (k) (by omega) (by omega)) ?_
  rintro u3 v2 ⟨rfl, x4, rfl, hx4a, hx4b, hx4r⟩
  refine ⟨_, rfl, ?_⟩
  show pw X d h 159 8 [some (.ref 16), some (pw_i k), some (pw_i mo)] [pw_i x4] _
  have hx4r : x4 = pw_g h 5 k.toNat := hx4r
  refine pw_ld E (pc' := 9) (st' := [.ref 16, pw_i x4]) rfl (fun _ => rfl) ?_
  refine pw_getR (b := 23) I E (c := 0) (k := 1) (pc' := 12) rfl rfl rfl rfl rfl rfl rfl ?_
  refine pw_ld E (pc' := 13) (st' := [.ref 16, .ref 23, pw_i x4]) rfl (fun _ => rfl) ?_
  refine pw_getR (b := 17) I E (c := 0) (k := 0) (pc' := 16) rfl rfl rfl rfl rfl rfl rfl ?_
  refine pw_ld E (pc' := 17) (st' := [pw_i k, .ref 17, .ref 23, pw_i x4]) rfl (fun _ => rfl) ?_
  obtain ⟨f5l, f5h, -⟩ := pw_obj (c := 1) I rfl
  refine pw_call (m' := 60) (As := [.ref 17, pw_i k]) (rest := [.ref 23, pw_i x4]) (ls'' := [some (.ref 17), some (pw_i k)]) (by omega) E rfl (fun _ => pw_iV rfl rfl rfl rfl (pw_cellI f5h rfl)) (rfl : pm_ent 60 = some (2, 2, 6, 0, pmc_60)) rfl rfl (cm_60 (by omega) I (k) (by omega) (by omega)) ?_
  rintro u7 v6 ⟨rfl, x8, rfl, hx8a, hx8b, hx8r⟩
  refine ⟨_, rfl, ?_⟩
  show pw X d h 159 20 [some (.ref 16), some (pw_i k), some (pw_i mo)] [pw_i x8, .ref 23, pw_i x4] _
  have hx8r : x8 = pw_g h 4 k.toNat := hx8r
  refine pw_ld E (pc' := 21) (st' := [pw_i mo, pw_i x8, .ref 23, pw_i x4]) rfl (fun _ => rfl) ?_
  obtain ⟨f9l, f9h, -⟩ := pw_obj (c := 7) I rfl
  refine pw_call (m' := 2) (As := [.ref 23, pw_i x8, pw_i mo]) (rest := [pw_i x4]) (ls'' := [some (.ref 23), some (pw_i x8), some (pw_i mo)]) (by omega) E rfl (fun _ => pw_iV rfl rfl rfl rfl (pw_cellI f9h rfl)) (rfl : pm_ent 2 = some (3, 3, 0, 0, pmc_2)) rfl rfl (cm_2 (by omega) I (x8) (by omega) (by omega) (mo) (by omega) (by omega)) ?_
  rintro u11 v10 ⟨rfl, x12, rfl, hx12a, hx12b⟩
  refine ⟨_, rfl, ?_⟩
  show pw X d h 159 24 [some (.ref 16), some (pw_i k), some (pw_i mo)] [pw_i x12, pw_i x4] _
  refine pw_if2 E (pc' := 31) rfl (by decide) (by omega) (by omega) (by omega) (by omega) ?_ ?_
  · intro hc13
    have hc13 : x12 ≤ x4 := hc13
    refine pw_ld E (pc' := 32) (st' := [pw_i 0]) rfl (fun _ => rfl) ?_
    refine pw_zret E rfl (by omega) ?_
    exact ⟨rfl, ⟨_, rfl, by omega, by omega⟩⟩
  · intro hc14
    have hc14 : ¬ (x12 ≤ x4) := hc14
    refine pw_ld E (pc' := 28) (st' := [pw_i 1]) rfl (fun _ => rfl) ?_
    refine pw_goto E (pc' := 32) rfl (by decide) ?_
    refine pw_zret E rfl (by omega) ?_
    exact ⟨rfl, ⟨_, rfl, by omega, by omega⟩⟩
set_option maxHeartbeats 4000000 in
theorem cm_130 {X : List (Nat × List Value)} {d : Nat} {h : pm_H} (hd : 5 ≤ d) (I : pw_I h) (b : Int) (hb1 : (-2147483648) ≤ b) (hb2 : b ≤ 2147483647) (e : Int) (he1 : (-2147483648) ≤ e) (he2 : e ≤ 2147483647) : pw X d h 130 0 [some (.ref 16), some (pw_i b), some (pw_i e)] [] (fun h' v => pw_I h' ∧ pw_E [17, 18, 22, 23] h h' ∧ ∃ a : Int, v = .inl (some (pw_i a)) ∧ (-2147483648) ≤ a ∧ a ≤ 2147483647) := by
  have E : pm_ent 130 = some (3, 3, 11, 0, pmc_130) := rfl
  have E0 : pw_E [17, 18, 22, 23] h h := pw_E.rf _ _
  refine pw_ld E (pc' := 1) (st' := [pw_i b]) rfl (fun _ => rfl) ?_
  refine pw_ld E (pc' := 2) (st' := [pw_i e, pw_i b]) rfl (fun _ => rfl) ?_
  refine pw_call (m' := 131) (As := [pw_i b, pw_i e]) (rest := []) (ls'' := [some (pw_i b), some (pw_i e)]) (by omega) E rfl (fun _ => pw_iS rfl rfl rfl) (rfl : pm_ent 131 = some (2, 2, 11, 1, pmc_131)) rfl rfl (cm_131 (by omega) I (b) (by omega) (by omega) (e) (by omega) (by omega)) ?_
  rintro u2 v1 ⟨rfl, x3, rfl, hx3a, hx3b, hx3r⟩
  refine ⟨_, rfl, ?_⟩
  show pw X d h 130 5 [some (.ref 16), some (pw_i b), some (pw_i e)] [pw_i x3] _
  have hx3r : (x3 = 1 ∧ 0 ≤ b ∧ b ≤ 11 ∧ 0 ≤ e ∧ e ≤ 11) ∨ x3 = 0 := hx3r
  rcases (by omega : x3 = 1 ∨ x3 = 0) with hb4 | hb4
  · have hb4 : x3 = 1 := by omega
    refine pw_if E (pc' := 10) rfl (by decide) (by omega) (by omega) ?_ ?_
    · intro hc5
      have hc5 : x3 ≠ (0 : Int) := hc5
      refine pw_ld E (pc' := 11) (st' := [.ref 16]) rfl (fun _ => rfl) ?_
      refine pw_ld E (pc' := 12) (st' := [pw_i b, .ref 16]) rfl (fun _ => rfl) ?_
      refine pw_ld E (pc' := 13) (st' := [pw_i e, pw_i b, .ref 16]) rfl (fun _ => rfl) ?_
      refine pw_ld E (pc' := 14) (st' := [pw_i 0, pw_i e, pw_i b, .ref 16]) rfl (fun _ => rfl) ?_
      obtain ⟨f6l, f6h, -⟩ := pw_obj (c := 0) I rfl
      refine pw_call (m' := 132) (As := [.ref 16, pw_i b, pw_i e, pw_i 0]) (rest := []) (ls'' := [some (.ref 16), some (pw_i b), some (pw_i e), some (pw_i 0), none, none, none]) (by omega) E rfl (fun _ => pw_iV rfl rfl rfl rfl (pw_cellI f6h rfl)) (rfl : pm_ent 132 = some (4, 7, 11, 4, pmc_132)) rfl rfl (cm_132 (by omega) I (b) (by omega) (by omega) (e) (by omega) (by omega) (0) (by omega) (by omega)) ?_
      rintro h7 v8 ⟨h7I, h7E, rfl⟩
      refine ⟨_, rfl, ?_⟩
      have h7F := E0.tr (h7E.wk (W' := [17, 18, 22, 23]) (by first | rfl | simp))
      show pw X d h7 130 17 [some (.ref 16), some (pw_i b), some (pw_i e)] [] _
      refine pw_ld E (pc' := 18) (st' := [.ref 16]) rfl (fun _ => rfl) ?_
      refine pw_getR (b := 32) h7I E (c := 0) (k := 7) (pc' := 21) rfl rfl rfl rfl rfl rfl rfl ?_
      refine pw_ld E (pc' := 22) (st' := [.ref 16, .ref 32]) rfl (fun _ => rfl) ?_
      refine pw_getR (b := 38) h7I E (c := 0) (k := 8) (pc' := 25) rfl rfl rfl rfl rfl rfl rfl ?_
      obtain ⟨f9l, f9h, -⟩ := pw_obj (c := 16) h7I rfl
      refine pw_call (m' := 83) (As := [.ref 32, .ref 38]) (rest := []) (ls'' := [some (.ref 32), some (.ref 38), none, none, none, none]) (by omega) E rfl (fun _ => pw_iV rfl rfl rfl rfl (pw_cellI f9h rfl)) (rfl : pm_ent 83 = some (2, 6, 8, 1, pmc_83)) rfl rfl (cm_83 (by omega) h7I 22 (by unfold pw_Fr; omega)) ?_
      rintro h10 v11 ⟨h10I, h10E, x12, rfl, hx12a, hx12b⟩
      refine ⟨_, rfl, ?_⟩
      have h10F := h7F.tr (h10E.wk (W' := [17, 18, 22, 23]) (by first | rfl | simp))
      show pw X d h10 130 28 [some (.ref 16), some (pw_i b), some (pw_i e)] [pw_i x12] _
      refine pw_if E (pc' := 33) rfl (by decide) (by omega) (by omega) ?_ ?_
      · intro hc13
        have hc13 : x12 ≠ (0 : Int) := hc13
        refine pw_ld E (pc' := 34) (st' := [.ref 16]) rfl (fun _ => rfl) ?_
        refine pw_ld E (pc' := 35) (st' := [pw_i b, .ref 16]) rfl (fun _ => rfl) ?_
        refine pw_ld E (pc' := 36) (st' := [pw_i e, pw_i b, .ref 16]) rfl (fun _ => rfl) ?_
        refine pw_ld E (pc' := 37) (st' := [pw_i 1, pw_i e, pw_i b, .ref 16]) rfl (fun _ => rfl) ?_
        obtain ⟨f14l, f14h, -⟩ := pw_obj (c := 0) h10I rfl
        refine pw_call (m' := 132) (As := [.ref 16, pw_i b, pw_i e, pw_i 1]) (rest := []) (ls'' := [some (.ref 16), some (pw_i b), some (pw_i e), some (pw_i 1), none, none, none]) (by omega) E rfl (fun _ => pw_iV rfl rfl rfl rfl (pw_cellI f14h rfl)) (rfl : pm_ent 132 = some (4, 7, 11, 4, pmc_132)) rfl rfl (cm_132 (by omega) h10I (b) (by omega) (by omega) (e) (by omega) (by omega) (1) (by omega) (by omega)) ?_
        rintro h15 v16 ⟨h15I, h15E, rfl⟩
        refine ⟨_, rfl, ?_⟩
        have h15F := h10F.tr (h15E.wk (W' := [17, 18, 22, 23]) (by first | rfl | simp))
        show pw X d h15 130 40 [some (.ref 16), some (pw_i b), some (pw_i e)] [] _
        refine pw_ld E (pc' := 41) (st' := [.ref 16]) rfl (fun _ => rfl) ?_
        refine pw_getR (b := 32) h15I E (c := 0) (k := 7) (pc' := 44) rfl rfl rfl rfl rfl rfl rfl ?_
        refine pw_ld E (pc' := 45) (st' := [.ref 16, .ref 32]) rfl (fun _ => rfl) ?_
        refine pw_getR (b := 39) h15I E (c := 0) (k := 9) (pc' := 48) rfl rfl rfl rfl rfl rfl rfl ?_
        obtain ⟨f17l, f17h, -⟩ := pw_obj (c := 16) h15I rfl
        refine pw_call (m' := 83) (As := [.ref 32, .ref 39]) (rest := []) (ls'' := [some (.ref 32), some (.ref 39), none, none, none, none]) (by omega) E rfl (fun _ => pw_iV rfl rfl rfl rfl (pw_cellI f17h rfl)) (rfl : pm_ent 83 = some (2, 6, 8, 1, pmc_83)) rfl rfl (cm_83 (by omega) h15I 23 (by unfold pw_Fr; omega)) ?_
        rintro h18 v19 ⟨h18I, h18E, x20, rfl, hx20a, hx20b⟩
        refine ⟨_, rfl, ?_⟩
        have h18F := h15F.tr (h18E.wk (W' := [17, 18, 22, 23]) (by first | rfl | simp))
        show pw X d h18 130 51 [some (.ref 16), some (pw_i b), some (pw_i e)] [pw_i x20] _
        refine pw_if E (pc' := 56) rfl (by decide) (by omega) (by omega) ?_ ?_
        · intro hc21
          have hc21 : x20 ≠ (0 : Int) := hc21
          refine pw_ld E (pc' := 57) (st' := [.ref 16]) rfl (fun _ => rfl) ?_
          refine pw_getR (b := 38) h18I E (c := 0) (k := 8) (pc' := 60) rfl rfl rfl rfl rfl rfl rfl ?_
          obtain ⟨f22l, f22h, -⟩ := pw_obj (c := 22) h18I rfl
          refine pw_call (m' := 8) (As := [.ref 38]) (rest := []) (ls'' := [some (.ref 38)]) (by omega) E rfl (fun _ => pw_iV rfl rfl rfl rfl (pw_cellI f22h rfl)) (rfl : pm_ent 8 = some (1, 1, 1, 0, pmc_8)) rfl rfl (cm_8 (by omega) h18I 22 (by unfold pw_Fr; omega)) ?_
          rintro u24 v23 ⟨rfl, x25, rfl, hx25a, hx25b⟩
          refine ⟨_, rfl, ?_⟩
          show pw X d h18 130 63 [some (.ref 16), some (pw_i b), some (pw_i e)] [pw_i x25] _
          refine pw_if E (pc' := 80) rfl (by decide) (by omega) (by omega) ?_ ?_
          · intro hc26
            have hc26 : (0 : Int) < x25 := hc26
            refine pw_ld E (pc' := 81) (st' := [pw_i 0]) rfl (fun _ => rfl) ?_
            refine pw_iret E rfl ?_
            exact ⟨h18I, h18F, ⟨_, rfl, by omega, by omega⟩⟩
          · intro hc27
            have hc27 : ¬ ((0 : Int) < x25) := hc27
            refine pw_ld E (pc' := 67) (st' := [.ref 16]) rfl (fun _ => rfl) ?_
            refine pw_getR (b := 39) h18I E (c := 0) (k := 9) (pc' := 70) rfl rfl rfl rfl rfl rfl rfl ?_
            obtain ⟨f28l, f28h, -⟩ := pw_obj (c := 23) h18I rfl
            refine pw_call (m' := 8) (As := [.ref 39]) (rest := []) (ls'' := [some (.ref 39)]) (by omega) E rfl (fun _ => pw_iV rfl rfl rfl rfl (pw_cellI f28h rfl)) (rfl : pm_ent 8 = some (1, 1, 1, 0, pmc_8)) rfl rfl (cm_8 (by omega) h18I 23 (by unfold pw_Fr; omega)) ?_
            rintro u30 v29 ⟨rfl, x31, rfl, hx31a, hx31b⟩
            refine ⟨_, rfl, ?_⟩
            show pw X d h18 130 73 [some (.ref 16), some (pw_i b), some (pw_i e)] [pw_i x31] _
            refine pw_if E (pc' := 80) rfl (by decide) (by omega) (by omega) ?_ ?_
            · intro hc32
              have hc32 : x31 < (0 : Int) := hc32
              refine pw_ld E (pc' := 81) (st' := [pw_i 0]) rfl (fun _ => rfl) ?_
              refine pw_iret E rfl ?_
              exact ⟨h18I, h18F, ⟨_, rfl, by omega, by omega⟩⟩
            · intro hc33
              have hc33 : ¬ (x31 < (0 : Int)) := hc33
              refine pw_ld E (pc' := 77) (st' := [pw_i 1]) rfl (fun _ => rfl) ?_
              refine pw_goto E (pc' := 81) rfl (by decide) ?_
              refine pw_iret E rfl ?_
              exact ⟨h18I, h18F, ⟨_, rfl, by omega, by omega⟩⟩
        · intro hc34
          have hc34 : ¬ (x20 ≠ (0 : Int)) := hc34
          refine pw_ld E (pc' := 55) (st' := [pw_i ((-1))]) rfl (fun _ => rfl) ?_
          refine pw_iret E rfl ?_
          exact ⟨h18I, h18F, ⟨_, rfl, by omega, by omega⟩⟩
      · intro hc35
        have hc35 : ¬ (x12 ≠ (0 : Int)) := hc35
        refine pw_ld E (pc' := 32) (st' := [pw_i ((-1))]) rfl (fun _ => rfl) ?_
        refine pw_iret E rfl ?_
        exact ⟨h10I, h10F, ⟨_, rfl, by omega, by omega⟩⟩
    · intro hc36
      have hc36 : ¬ (x3 ≠ (0 : Int)) := hc36
      exfalso; omega
  · have hb37 : x3 = 0 := by omega
    refine pw_if E (pc' := 10) rfl (by decide) (by omega) (by omega) ?_ ?_
    · intro hc38
      have hc38 : x3 ≠ (0 : Int) := hc38
      exfalso; omega
    · intro hc39
      have hc39 : ¬ (x3 ≠ (0 : Int)) := hc39
      refine pw_ld E (pc' := 9) (st' := [pw_i ((-1))]) rfl (fun _ => rfl) ?_
      refine pw_iret E rfl ?_
      exact ⟨I, E0, ⟨_, rfl, by omega, by omega⟩⟩
set_option maxHeartbeats 4000000 in
theorem cm_134 {X : List (Nat × List Value)} {d : Nat} {h : pm_H} (hd : 4 ≤ d) (I : pw_I h) (b : Int) (hb1 : (-2147483648) ≤ b) (hb2 : b ≤ 2147483647) (e : Int) (he1 : (-2147483648) ≤ e) (he2 : e ≤ 2147483647) : pw X d h 134 0 [some (.ref 16), some (pw_i b), some (pw_i e), none, none, none, none, none, none, none, none, none, none] [] (fun h' v => h = h' ∧ ∃ a : Int, v = .inl (some (pw_i a)) ∧ (-2147483648) ≤ a ∧ a ≤ 2147483647) := by
  have E : pm_ent 134 = some (3, 13, 11, 0, pmc_134) := rfl
  refine pw_ld E (pc' := 1) (st' := [pw_i b]) rfl (fun _ => rfl) ?_
  refine pw_ld E (pc' := 2) (st' := [pw_i e, pw_i b]) rfl (fun _ => rfl) ?_
  refine pw_call (m' := 131) (As := [pw_i b, pw_i e]) (rest := []) (ls'' := [some (pw_i b), some (pw_i e)]) (by omega) E rfl (fun _ => pw_iS rfl rfl rfl) (rfl : pm_ent 131 = some (2, 2, 11, 1, pmc_131)) rfl rfl (cm_131 (by omega) I (b) (by omega) (by omega) (e) (by omega) (by omega)) ?_
  rintro u2 v1 ⟨rfl, x3, rfl, hx3a, hx3b, hx3r⟩
  refine ⟨_, rfl, ?_⟩
  show pw X d h 134 5 [some (.ref 16), some (pw_i b), some (pw_i e), none, none, none, none, none, none, none, none, none, none] [pw_i x3] _
  have hx3r : (x3 = 1 ∧ 0 ≤ b ∧ b ≤ 11 ∧ 0 ≤ e ∧ e ≤ 11) ∨ x3 = 0 := hx3r
  rcases (by omega : x3 = 1 ∨ x3 = 0) with hb4 | hb4
  · have hb4 : x3 = 1 := by omega
    refine pw_if E (pc' := 30) rfl (by decide) (by omega) (by omega) ?_ ?_
    · intro hc5
      have hc5 : x3 = (0 : Int) := hc5
      exfalso; omega
    · intro hc6
      have hc6 : ¬ (x3 = (0 : Int)) := hc6
      refine pw_ld E (pc' := 9) (st' := [.ref 16]) rfl (fun _ => rfl) ?_
      refine pw_getR (b := 17) I E (c := 0) (k := 0) (pc' := 12) rfl rfl rfl rfl rfl rfl rfl ?_
      refine pw_ld E (pc' := 13) (st' := [pw_i 0, .ref 17]) rfl (fun _ => rfl) ?_
      obtain ⟨f7l, f7h, -⟩ := pw_obj (c := 1) I rfl
      refine pw_call (m' := 62) (As := [.ref 17, pw_i 0]) (rest := []) (ls'' := [some (.ref 17), some (pw_i 0), none, none]) (by omega) E rfl (fun _ => pw_iV rfl rfl rfl rfl (pw_cellI f7h rfl)) (rfl : pm_ent 62 = some (2, 4, 6, 0, pmc_62)) rfl rfl (cm_62 (by omega) I (0) (by omega) (by omega)) ?_
      rintro u9 v8 ⟨rfl, x10, rfl, hx10a, hx10b⟩
      refine ⟨_, rfl, ?_⟩
      show pw X d h 134 16 [some (.ref 16), some (pw_i b), some (pw_i e), none, none, none, none, none, none, none, none, none, none] [pw_i x10] _
      refine pw_if E (pc' := 30) rfl (by decide) (by omega) (by omega) ?_ ?_
      · intro hc11
        have hc11 : x10 = (0 : Int) := hc11
        refine pw_ld E (pc' := 31) (st' := [pw_i ((-1))]) rfl (fun _ => rfl) ?_
        refine pw_iret E rfl ?_
        exact ⟨rfl, ⟨_, rfl, by omega, by omega⟩⟩
      · intro hc12
        have hc12 : ¬ (x10 = (0 : Int)) := hc12
        refine pw_ld E (pc' := 20) (st' := [.ref 16]) rfl (fun _ => rfl) ?_
        refine pw_getR (b := 17) I E (c := 0) (k := 0) (pc' := 23) rfl rfl rfl rfl rfl rfl rfl ?_
        refine pw_ld E (pc' := 24) (st' := [pw_i 1, .ref 17]) rfl (fun _ => rfl) ?_
        obtain ⟨f13l, f13h, -⟩ := pw_obj (c := 1) I rfl
        refine pw_call (m' := 62) (As := [.ref 17, pw_i 1]) (rest := []) (ls'' := [some (.ref 17), some (pw_i 1), none, none]) (by omega) E rfl (fun _ => pw_iV rfl rfl rfl rfl (pw_cellI f13h rfl)) (rfl : pm_ent 62 = some (2, 4, 6, 0, pmc_62)) rfl rfl (cm_62 (by omega) I (1) (by omega) (by omega)) ?_
        rintro u15 v14 ⟨rfl, x16, rfl, hx16a, hx16b⟩
        refine ⟨_, rfl, ?_⟩
        show pw X d h 134 27 [some (.ref 16), some (pw_i b), some (pw_i e), none, none, none, none, none, none, none, none, none, none] [pw_i x16] _
        refine pw_if E (pc' := 32) rfl (by decide) (by omega) (by omega) ?_ ?_
        · intro hc17
          have hc17 : x16 ≠ (0 : Int) := hc17
          refine pw_ld E (pc' := 33) (st' := [pw_i ((-1))]) rfl (fun _ => rfl) ?_
          refine pw_istn E (pc' := 34) (ls' := [some (.ref 16), some (pw_i b), some (pw_i e), some (pw_i ((-1))), none, none, none, none, none, none, none, none, none]) rfl rfl rfl rfl ?_
          refine pw_ld E (pc' := 35) (st' := [.long (Int64.ofNat 0)]) rfl (fun _ => rfl) ?_
          refine pw_lst E (pc' := 37) (ls' := [some (.ref 16), some (pw_i b), some (pw_i e), some (pw_i ((-1))), some (.long (Int64.ofNat 0)), none, none, none, none, none, none, none, none]) rfl rfl rfl rfl ?_
          refine pw_ld E (pc' := 38) (st' := [.long (Int64.ofNat 1)]) rfl (fun _ => rfl) ?_
          refine pw_lst E (pc' := 40) (ls' := [some (.ref 16), some (pw_i b), some (pw_i e), some (pw_i ((-1))), some (.long (Int64.ofNat 0)), none, some (.long (Int64.ofNat 1)), none, none, none, none, none, none]) rfl rfl rfl rfl ?_
          refine pw_ld E (pc' := 41) (st' := [pw_i 0]) rfl (fun _ => rfl) ?_
          refine pw_ist E (pc' := 43) (ls' := [some (.ref 16), some (pw_i b), some (pw_i e), some (pw_i ((-1))), some (.long (Int64.ofNat 0)), none, some (.long (Int64.ofNat 1)), none, some (pw_i 0), none, none, none, none]) rfl rfl rfl rfl ?_
          have L43 : ∀ (n43 : Nat) (k43_3 : Int) (k43_4 : Int64) (k43_6 : Int64) (k43_8 : Int) (k43_9 : Option Value) (k43_11 : Option Value), (-2147483648) ≤ k43_3 → k43_3 ≤ 2147483647 → 0 ≤ k43_8 → k43_8 ≤ 24 → (24 - k43_8).toNat = n43 → pw X d h 134 43 [some (.ref 16), some (pw_i b), some (pw_i e), some (pw_i k43_3), some (.long k43_4), none, some (.long k43_6), none, some (pw_i k43_8), k43_9, none, k43_11, none] [] (fun h' v => h = h' ∧ ∃ a : Int, v = .inl (some (pw_i a)) ∧ (-2147483648) ≤ a ∧ a ≤ 2147483647) := by
            intro n43
            induction n43 using Nat.strongRecOn with
            | ind n43 ih43 =>
              intro k43_3 k43_4 k43_6 k43_8 k43_9 k43_11 k43_3a k43_3b k43_8a k43_8b hm43
              refine pw_ld E (pc' := 45) (st' := [pw_i k43_8]) rfl (fun _ => rfl) ?_
              refine pw_bip E (pc' := 47) rfl rfl (by decide) ?_
              refine pw_if2 E (pc' := 153) rfl (by decide) (by omega) (by omega) (by decide) (by decide) ?_ ?_
              · intro hc18
                have hc18 : (24 : Int) ≤ k43_8 := hc18
                refine pw_ld E (pc' := 154) (st' := [pw_i k43_3]) rfl (fun _ => rfl) ?_
                refine pw_iret E rfl ?_
                exact ⟨rfl, ⟨_, rfl, by omega, by omega⟩⟩
              · intro hc19
                have hc19 : ¬ ((24 : Int) ≤ k43_8) := hc19
                refine pw_ld E (pc' := 51) (st' := [.ref 16]) rfl (fun _ => rfl) ?_
                refine pw_getR (b := 17) I E (c := 0) (k := 0) (pc' := 54) rfl rfl rfl rfl rfl rfl rfl ?_
                refine pw_ld E (pc' := 56) (st' := [pw_i k43_8, .ref 17]) rfl (fun _ => rfl) ?_
                obtain ⟨f20l, f20h, -⟩ := pw_obj (c := 1) I rfl
                refine pw_call (m' := 59) (As := [.ref 17, pw_i k43_8]) (rest := []) (ls'' := [some (.ref 17), some (pw_i k43_8)]) (by omega) E rfl (fun _ => pw_iV rfl rfl rfl rfl (pw_cellI f20h rfl)) (rfl : pm_ent 59 = some (2, 2, 6, 1, pmc_59)) rfl rfl (cm_59 (by omega) I (k43_8) (by omega) (by omega)) ?_
                rintro u22 v21 ⟨rfl, x23, rfl, hx23a, hx23b, hx23r⟩
                refine ⟨_, rfl, ?_⟩
                show pw X d h 134 59 [some (.ref 16), some (pw_i b), some (pw_i e), some (pw_i k43_3), some (.long k43_4), none, some (.long k43_6), none, some (pw_i k43_8), k43_9, none, k43_11, none] [pw_i x23] _
                have hx23r : x23 = pw_g h 2 k43_8.toNat := hx23r
                rcases (by omega : x23 = 1 ∨ x23 = 0) with hb24 | hb24
                · have hb24 : x23 = 1 := by omega
                  refine pw_if E (pc' := 147) rfl (by decide) (by omega) (by omega) ?_ ?_
                  · intro hc25
                    have hc25 : x23 = (0 : Int) := hc25
                    exfalso; omega
                  · intro hc26
                    have hc26 : ¬ (x23 = (0 : Int)) := hc26
                    refine pw_ld E (pc' := 63) (st' := [.ref 16]) rfl (fun _ => rfl) ?_
                    refine pw_getR (b := 26) I E (c := 0) (k := 2) (pc' := 66) rfl rfl rfl rfl rfl rfl rfl ?_
                    refine pw_ld E (pc' := 68) (st' := [pw_i k43_8, .ref 26]) rfl (fun _ => rfl) ?_
                    refine pw_ld E (pc' := 69) (st' := [pw_i b, pw_i k43_8, .ref 26]) rfl (fun _ => rfl) ?_
                    refine pw_ld E (pc' := 70) (st' := [pw_i e, pw_i b, pw_i k43_8, .ref 26]) rfl (fun _ => rfl) ?_
                    obtain ⟨f27l, f27h, -⟩ := pw_obj (c := 10) I rfl
                    refine pw_call (m' := 23) (As := [.ref 26, pw_i k43_8, pw_i b, pw_i e]) (rest := []) (ls'' := [some (.ref 26), some (pw_i k43_8), some (pw_i b), some (pw_i e)]) (by omega) E rfl (fun _ => pw_iV rfl rfl rfl rfl (pw_cellI f27h rfl)) (rfl : pm_ent 23 = some (4, 4, 2, 1, pmc_23)) rfl rfl (cm_23 (by omega) I 10 (by unfold pw_Lg; omega) (k43_8) (by omega) (by omega) (b) (by omega) (by omega) (e) (by omega) (by omega)) ?_
                    rintro u29 v28 ⟨rfl, x30, rfl, hx30a, hx30b⟩
                    refine ⟨_, rfl, ?_⟩
                    show pw X d h 134 73 [some (.ref 16), some (pw_i b), some (pw_i e), some (pw_i k43_3), some (.long k43_4), none, some (.long k43_6), none, some (pw_i k43_8), k43_9, none, k43_11, none] [pw_i x30] _
                    refine pw_if E (pc' := 147) rfl (by decide) (by omega) (by omega) ?_ ?_
                    · intro hc31
                      have hc31 : x30 ≠ (0 : Int) := hc31
                      refine pw_inc E (pc' := 150) (ls' := [some (.ref 16), some (pw_i b), some (pw_i e), some (pw_i k43_3), some (.long k43_4), none, some (.long k43_6), none, some (pw_i (k43_8 + 1)), k43_9, none, k43_11, none]) rfl rfl rfl rfl ?_
                      refine pw_goto E (pc' := 43) rfl (by decide) ?_
                      exact ih43 _ (by omega) (k43_3) (k43_4) (k43_6) (k43_8 + 1) k43_9 k43_11  (by omega) (by omega) (by omega) (by omega)  rfl
                    · intro hc32
                      have hc32 : ¬ (x30 ≠ (0 : Int)) := hc32
                      refine pw_ld E (pc' := 77) (st' := [.ref 16]) rfl (fun _ => rfl) ?_
                      refine pw_getR (b := 17) I E (c := 0) (k := 0) (pc' := 80) rfl rfl rfl rfl rfl rfl rfl ?_
                      refine pw_ld E (pc' := 82) (st' := [pw_i k43_8, .ref 17]) rfl (fun _ => rfl) ?_
                      obtain ⟨f33l, f33h, -⟩ := pw_obj (c := 1) I rfl
                      refine pw_call (m' := 61) (As := [.ref 17, pw_i k43_8]) (rest := []) (ls'' := [some (.ref 17), some (pw_i k43_8)]) (by omega) E rfl (fun _ => pw_iV rfl rfl rfl rfl (pw_cellI f33h rfl)) (rfl : pm_ent 61 = some (2, 2, 6, 0, pmc_61)) rfl rfl (cm_61 (by omega) I (k43_8) (by omega) (by omega)) ?_
                      rintro u35 v34 ⟨rfl, x36, rfl, hx36a, hx36b, hx36r⟩
                      refine ⟨_, rfl, ?_⟩
                      show pw X d h 134 85 [some (.ref 16), some (pw_i b), some (pw_i e), some (pw_i k43_3), some (.long k43_4), none, some (.long k43_6), none, some (pw_i k43_8), k43_9, none, k43_11, none] [pw_i x36] _
                      have hx36r : x36 = pw_g h 6 k43_8.toNat := hx36r
                      refine pw_ld E (pc' := 86) (st' := [.long ((Int32.ofInt x36).toInt64)]) rfl (fun _ => rfl) ?_
                      refine pw_ld E (pc' := 87) (st' := [.ref 16, .long ((Int32.ofInt x36).toInt64)]) rfl (fun _ => rfl) ?_
                      refine pw_ld E (pc' := 89) (st' := [pw_i k43_8, .ref 16, .long ((Int32.ofInt x36).toInt64)]) rfl (fun _ => rfl) ?_
                      refine pw_ld E (pc' := 90) (st' := [pw_i b, pw_i k43_8, .ref 16, .long ((Int32.ofInt x36).toInt64)]) rfl (fun _ => rfl) ?_
                      refine pw_ld E (pc' := 91) (st' := [pw_i e, pw_i b, pw_i k43_8, .ref 16, .long ((Int32.ofInt x36).toInt64)]) rfl (fun _ => rfl) ?_
                      obtain ⟨f37l, f37h, -⟩ := pw_obj (c := 0) I rfl
                      refine pw_call (m' := 135) (As := [.ref 16, pw_i k43_8, pw_i b, pw_i e]) (rest := [.long ((Int32.ofInt x36).toInt64)]) (ls'' := [some (.ref 16), some (pw_i k43_8), some (pw_i b), some (pw_i e)]) (by omega) E rfl (fun _ => pw_iV rfl rfl rfl rfl (pw_cellI f37h rfl)) (rfl : pm_ent 135 = some (4, 4, 11, 0, pmc_135)) rfl rfl (cm_135 (by omega) I (k43_8) (by omega) (by omega) (b) (by omega) (by omega) (e) (by omega) (by omega)) ?_
                      rintro u39 v38 ⟨rfl, x40, rfl, hx40a, hx40b⟩
                      refine ⟨_, rfl, ?_⟩
                      show pw X d h 134 94 [some (.ref 16), some (pw_i b), some (pw_i e), some (pw_i k43_3), some (.long k43_4), none, some (.long k43_6), none, some (pw_i k43_8), k43_9, none, k43_11, none] [pw_i x40, .long ((Int32.ofInt x36).toInt64)] _
                      refine pw_ld E (pc' := 95) (st' := [.long ((Int32.ofInt x40).toInt64), .long ((Int32.ofInt x36).toInt64)]) rfl (fun _ => rfl) ?_
                      refine pw_ld E (pc' := 96) (st' := [.long (((Int32.ofInt x36).toInt64) * ((Int32.ofInt x40).toInt64))]) rfl (fun _ => rfl) ?_
                      refine pw_lst E (pc' := 98) (ls' := [some (.ref 16), some (pw_i b), some (pw_i e), some (pw_i k43_3), some (.long k43_4), none, some (.long k43_6), none, some (pw_i k43_8), some (.long (((Int32.ofInt x36).toInt64) * ((Int32.ofInt x40).toInt64))), none, k43_11, none]) rfl rfl rfl rfl ?_
                      refine pw_ld E (pc' := 99) (st' := [.ref 16]) rfl (fun _ => rfl) ?_
                      refine pw_getR (b := 17) I E (c := 0) (k := 0) (pc' := 102) rfl rfl rfl rfl rfl rfl rfl ?_
                      refine pw_ld E (pc' := 103) (st' := [.ref 16, .ref 17]) rfl (fun _ => rfl) ?_
                      refine pw_getR (b := 17) I E (c := 0) (k := 0) (pc' := 106) rfl rfl rfl rfl rfl rfl rfl ?_
                      refine pw_ld E (pc' := 108) (st' := [pw_i k43_8, .ref 17, .ref 17]) rfl (fun _ => rfl) ?_
                      obtain ⟨f41l, f41h, -⟩ := pw_obj (c := 1) I rfl
                      refine pw_call (m' := 60) (As := [.ref 17, pw_i k43_8]) (rest := [.ref 17]) (ls'' := [some (.ref 17), some (pw_i k43_8)]) (by omega) E rfl (fun _ => pw_iV rfl rfl rfl rfl (pw_cellI f41h rfl)) (rfl : pm_ent 60 = some (2, 2, 6, 0, pmc_60)) rfl rfl (cm_60 (by omega) I (k43_8) (by omega) (by omega)) ?_
                      rintro u43 v42 ⟨rfl, x44, rfl, hx44a, hx44b, hx44r⟩
                      refine ⟨_, rfl, ?_⟩
                      show pw X d h 134 111 [some (.ref 16), some (pw_i b), some (pw_i e), some (pw_i k43_3), some (.long k43_4), none, some (.long k43_6), none, some (pw_i k43_8), some (.long (((Int32.ofInt x36).toInt64) * ((Int32.ofInt x40).toInt64))), none, k43_11, none] [pw_i x44, .ref 17] _
                      have hx44r : x44 = pw_g h 4 k43_8.toNat := hx44r
                      obtain ⟨f45l, f45h, -⟩ := pw_obj (c := 1) I rfl
                      refine pw_call (m' := 62) (As := [.ref 17, pw_i x44]) (rest := []) (ls'' := [some (.ref 17), some (pw_i x44), none, none]) (by omega) E rfl (fun _ => pw_iV rfl rfl rfl rfl (pw_cellI f45h rfl)) (rfl : pm_ent 62 = some (2, 4, 6, 0, pmc_62)) rfl rfl (cm_62 (by omega) I (x44) (by omega) (by omega)) ?_
                      rintro u47 v46 ⟨rfl, x48, rfl, hx48a, hx48b⟩
                      refine ⟨_, rfl, ?_⟩
                      show pw X d h 134 114 [some (.ref 16), some (pw_i b), some (pw_i e), some (pw_i k43_3), some (.long k43_4), none, some (.long k43_6), none, some (pw_i k43_8), some (.long (((Int32.ofInt x36).toInt64) * ((Int32.ofInt x40).toInt64))), none, k43_11, none] [pw_i x48] _
                      refine pw_ld E (pc' := 115) (st' := [.long ((Int32.ofInt x48).toInt64)]) rfl (fun _ => rfl) ?_
                      refine pw_lst E (pc' := 117) (ls' := [some (.ref 16), some (pw_i b), some (pw_i e), some (pw_i k43_3), some (.long k43_4), none, some (.long k43_6), none, some (pw_i k43_8), some (.long (((Int32.ofInt x36).toInt64) * ((Int32.ofInt x40).toInt64))), none, some (.long ((Int32.ofInt x48).toInt64)), none]) rfl rfl rfl rfl ?_
                      refine pw_ld E (pc' := 118) (st' := [pw_i k43_3]) rfl (fun _ => rfl) ?_
                      refine pw_ld E (pc' := 119) (st' := [pw_i ((-1)), pw_i k43_3]) rfl (fun _ => rfl) ?_
                      refine pw_if2 E (pc' := 136) rfl (by decide) (by omega) (by omega) (by decide) (by decide) ?_ ?_
                      · intro hc49
                        have hc49 : k43_3 = ((-1) : Int) := hc49
                        refine pw_ld E (pc' := 138) (st' := [pw_i k43_8]) rfl (fun _ => rfl) ?_
                        refine pw_istn E (pc' := 139) (ls' := [some (.ref 16), some (pw_i b), some (pw_i e), some (pw_i k43_8), some (.long k43_4), none, some (.long k43_6), none, some (pw_i k43_8), some (.long (((Int32.ofInt x36).toInt64) * ((Int32.ofInt x40).toInt64))), none, some (.long ((Int32.ofInt x48).toInt64)), none]) rfl rfl rfl rfl ?_
                        refine pw_ld E (pc' := 141) (st' := [.long (((Int32.ofInt x36).toInt64) * ((Int32.ofInt x40).toInt64))]) rfl (fun _ => rfl) ?_
                        refine pw_lst E (pc' := 143) (ls' := [some (.ref 16), some (pw_i b), some (pw_i e), some (pw_i k43_8), some (.long (((Int32.ofInt x36).toInt64) * ((Int32.ofInt x40).toInt64))), none, some (.long k43_6), none, some (pw_i k43_8), some (.long (((Int32.ofInt x36).toInt64) * ((Int32.ofInt x40).toInt64))), none, some (.long ((Int32.ofInt x48).toInt64)), none]) rfl rfl rfl rfl ?_
                        refine pw_ld E (pc' := 145) (st' := [.long ((Int32.ofInt x48).toInt64)]) rfl (fun _ => rfl) ?_
                        refine pw_lst E (pc' := 147) (ls' := [some (.ref 16), some (pw_i b), some (pw_i e), some (pw_i k43_8), some (.long (((Int32.ofInt x36).toInt64) * ((Int32.ofInt x40).toInt64))), none, some (.long ((Int32.ofInt x48).toInt64)), none, some (pw_i k43_8), some (.long (((Int32.ofInt x36).toInt64) * ((Int32.ofInt x40).toInt64))), none, some (.long ((Int32.ofInt x48).toInt64)), none]) rfl rfl rfl rfl ?_
                        refine pw_inc E (pc' := 150) (ls' := [some (.ref 16), some (pw_i b), some (pw_i e), some (pw_i k43_8), some (.long (((Int32.ofInt x36).toInt64) * ((Int32.ofInt x40).toInt64))), none, some (.long ((Int32.ofInt x48).toInt64)), none, some (pw_i (k43_8 + 1)), some (.long (((Int32.ofInt x36).toInt64) * ((Int32.ofInt x40).toInt64))), none, some (.long ((Int32.ofInt x48).toInt64)), none]) rfl rfl rfl rfl ?_
                        refine pw_goto E (pc' := 43) rfl (by decide) ?_
                        exact ih43 _ (by omega) (k43_8) (((Int32.ofInt x36).toInt64) * ((Int32.ofInt x40).toInt64)) ((Int32.ofInt x48).toInt64) (k43_8 + 1) (some (.long (((Int32.ofInt x36).toInt64) * ((Int32.ofInt x40).toInt64)))) (some (.long ((Int32.ofInt x48).toInt64)))  (by omega) (by omega) (by omega) (by omega)  rfl
                      · intro hc50
                        have hc50 : ¬ (k43_3 = ((-1) : Int)) := hc50
                        refine pw_ld E (pc' := 124) (st' := [.long (((Int32.ofInt x36).toInt64) * ((Int32.ofInt x40).toInt64))]) rfl (fun _ => rfl) ?_
                        refine pw_ld E (pc' := 126) (st' := [.long k43_6, .long (((Int32.ofInt x36).toInt64) * ((Int32.ofInt x40).toInt64))]) rfl (fun _ => rfl) ?_
                        refine pw_ld E (pc' := 127) (st' := [.long ((((Int32.ofInt x36).toInt64) * ((Int32.ofInt x40).toInt64)) * k43_6)]) rfl (fun _ => rfl) ?_
                        refine pw_ld E (pc' := 129) (st' := [.long k43_4, .long ((((Int32.ofInt x36).toInt64) * ((Int32.ofInt x40).toInt64)) * k43_6)]) rfl (fun _ => rfl) ?_
                        refine pw_ld E (pc' := 131) (st' := [.long ((Int32.ofInt x48).toInt64), .long k43_4, .long ((((Int32.ofInt x36).toInt64) * ((Int32.ofInt x40).toInt64)) * k43_6)]) rfl (fun _ => rfl) ?_
                        refine pw_ld E (pc' := 132) (st' := [.long (k43_4 * ((Int32.ofInt x48).toInt64)), .long ((((Int32.ofInt x36).toInt64) * ((Int32.ofInt x40).toInt64)) * k43_6)]) rfl (fun _ => rfl) ?_
                        refine pw_lcmp E (pc' := 133) rfl rfl (fun c51 hc51 => ?_)
                        refine pw_if E (pc' := 147) rfl (by decide) (by omega) (by omega) ?_ ?_
                        · intro hc52
                          have hc52 : c51 ≤ (0 : Int) := hc52
                          refine pw_inc E (pc' := 150) (ls' := [some (.ref 16), some (pw_i b), some (pw_i e), some (pw_i k43_3), some (.long k43_4), none, some (.long k43_6), none, some (pw_i (k43_8 + 1)), some (.long (((Int32.ofInt x36).toInt64) * ((Int32.ofInt x40).toInt64))), none, some (.long ((Int32.ofInt x48).toInt64)), none]) rfl rfl rfl rfl ?_
                          refine pw_goto E (pc' := 43) rfl (by decide) ?_
                          exact ih43 _ (by omega) (k43_3) (k43_4) (k43_6) (k43_8 + 1) (some (.long (((Int32.ofInt x36).toInt64) * ((Int32.ofInt x40).toInt64)))) (some (.long ((Int32.ofInt x48).toInt64)))  (by omega) (by omega) (by omega) (by omega)  rfl
                        · intro hc53
                          have hc53 : ¬ (c51 ≤ (0 : Int)) := hc53
                          refine pw_ld E (pc' := 138) (st' := [pw_i k43_8]) rfl (fun _ => rfl) ?_
                          refine pw_istn E (pc' := 139) (ls' := [some (.ref 16), some (pw_i b), some (pw_i e), some (pw_i k43_8), some (.long k43_4), none, some (.long k43_6), none, some (pw_i k43_8), some (.long (((Int32.ofInt x36).toInt64) * ((Int32.ofInt x40).toInt64))), none, some (.long ((Int32.ofInt x48).toInt64)), none]) rfl rfl rfl rfl ?_
                          refine pw_ld E (pc' := 141) (st' := [.long (((Int32.ofInt x36).toInt64) * ((Int32.ofInt x40).toInt64))]) rfl (fun _ => rfl) ?_
                          refine pw_lst E (pc' := 143) (ls' := [some (.ref 16), some (pw_i b), some (pw_i e), some (pw_i k43_8), some (.long (((Int32.ofInt x36).toInt64) * ((Int32.ofInt x40).toInt64))), none, some (.long k43_6), none, some (pw_i k43_8), some (.long (((Int32.ofInt x36).toInt64) * ((Int32.ofInt x40).toInt64))), none, some (.long ((Int32.ofInt x48).toInt64)), none]) rfl rfl rfl rfl ?_
                          refine pw_ld E (pc' := 145) (st' := [.long ((Int32.ofInt x48).toInt64)]) rfl (fun _ => rfl) ?_
                          refine pw_lst E (pc' := 147) (ls' := [some (.ref 16), some (pw_i b), some (pw_i e), some (pw_i k43_8), some (.long (((Int32.ofInt x36).toInt64) * ((Int32.ofInt x40).toInt64))), none, some (.long ((Int32.ofInt x48).toInt64)), none, some (pw_i k43_8), some (.long (((Int32.ofInt x36).toInt64) * ((Int32.ofInt x40).toInt64))), none, some (.long ((Int32.ofInt x48).toInt64)), none]) rfl rfl rfl rfl ?_
                          refine pw_inc E (pc' := 150) (ls' := [some (.ref 16), some (pw_i b), some (pw_i e), some (pw_i k43_8), some (.long (((Int32.ofInt x36).toInt64) * ((Int32.ofInt x40).toInt64))), none, some (.long ((Int32.ofInt x48).toInt64)), none, some (pw_i (k43_8 + 1)), some (.long (((Int32.ofInt x36).toInt64) * ((Int32.ofInt x40).toInt64))), none, some (.long ((Int32.ofInt x48).toInt64)), none]) rfl rfl rfl rfl ?_
                          refine pw_goto E (pc' := 43) rfl (by decide) ?_
                          exact ih43 _ (by omega) (k43_8) (((Int32.ofInt x36).toInt64) * ((Int32.ofInt x40).toInt64)) ((Int32.ofInt x48).toInt64) (k43_8 + 1) (some (.long (((Int32.ofInt x36).toInt64) * ((Int32.ofInt x40).toInt64)))) (some (.long ((Int32.ofInt x48).toInt64)))  (by omega) (by omega) (by omega) (by omega)  rfl
                · have hb54 : x23 = 0 := by omega
                  refine pw_if E (pc' := 147) rfl (by decide) (by omega) (by omega) ?_ ?_
                  · intro hc55
                    have hc55 : x23 = (0 : Int) := hc55
                    refine pw_inc E (pc' := 150) (ls' := [some (.ref 16), some (pw_i b), some (pw_i e), some (pw_i k43_3), some (.long k43_4), none, some (.long k43_6), none, some (pw_i (k43_8 + 1)), k43_9, none, k43_11, none]) rfl rfl rfl rfl ?_
                    refine pw_goto E (pc' := 43) rfl (by decide) ?_
                    exact ih43 _ (by omega) (k43_3) (k43_4) (k43_6) (k43_8 + 1) k43_9 k43_11  (by omega) (by omega) (by omega) (by omega)  rfl
                  · intro hc56
                    have hc56 : ¬ (x23 = (0 : Int)) := hc56
                    exfalso; omega
          exact L43 _ ((-1)) (Int64.ofNat 0) (Int64.ofNat 1) (0) (none) (none)  (by omega) (by omega) (by omega) (by omega)  rfl
        · intro hc57
          have hc57 : ¬ (x16 ≠ (0 : Int)) := hc57
          refine pw_ld E (pc' := 31) (st' := [pw_i ((-1))]) rfl (fun _ => rfl) ?_
          refine pw_iret E rfl ?_
          exact ⟨rfl, ⟨_, rfl, by omega, by omega⟩⟩
  · have hb58 : x3 = 0 := by omega
    refine pw_if E (pc' := 30) rfl (by decide) (by omega) (by omega) ?_ ?_
    · intro hc59
      have hc59 : x3 = (0 : Int) := hc59
      refine pw_ld E (pc' := 31) (st' := [pw_i ((-1))]) rfl (fun _ => rfl) ?_
      refine pw_iret E rfl ?_
      exact ⟨rfl, ⟨_, rfl, by omega, by omega⟩⟩
    · intro hc60
      have hc60 : ¬ (x3 = (0 : Int)) := hc60
      exfalso; omega
set_option maxHeartbeats 4000000 in
theorem cm_136 {X : List (Nat × List Value)} {d : Nat} {h : pm_H} (hd : 5 ≤ d) (I : pw_I h) (b : Int) (hb1 : (-2147483648) ≤ b) (hb2 : b ≤ 2147483647) (e : Int) (he1 : (-2147483648) ≤ e) (he2 : e ≤ 2147483647) (wt : Int) (hwt1 : (-2147483648) ≤ wt) (hwt2 : wt ≤ 2147483647) : pw X d h 136 0 [some (.ref 16), some (pw_i b), some (pw_i e), some (pw_i wt)] [] (fun h' v => pw_I h' ∧ pw_E [17, 18, 19, 22] h h' ∧ ∃ w : Int64, v = .inl (some (.long w))) := by
  have E : pm_ent 136 = some (4, 4, 11, 2, pmc_136) := rfl
  have E0 : pw_E [17, 18, 19, 22] h h := pw_E.rf _ _
  refine pw_ld E (pc' := 1) (st' := [pw_i b]) rfl (fun _ => rfl) ?_
  refine pw_ld E (pc' := 2) (st' := [pw_i e, pw_i b]) rfl (fun _ => rfl) ?_
  refine pw_call (m' := 131) (As := [pw_i b, pw_i e]) (rest := []) (ls'' := [some (pw_i b), some (pw_i e)]) (by omega) E rfl (fun _ => pw_iS rfl rfl rfl) (rfl : pm_ent 131 = some (2, 2, 11, 1, pmc_131)) rfl rfl (cm_131 (by omega) I (b) (by omega) (by omega) (e) (by omega) (by omega)) ?_
  rintro u2 v1 ⟨rfl, x3, rfl, hx3a, hx3b, hx3r⟩
  refine ⟨_, rfl, ?_⟩
  show pw X d h 136 5 [some (.ref 16), some (pw_i b), some (pw_i e), some (pw_i wt)] [pw_i x3] _
  have hx3r : (x3 = 1 ∧ 0 ≤ b ∧ b ≤ 11 ∧ 0 ≤ e ∧ e ≤ 11) ∨ x3 = 0 := hx3r
  rcases (by omega : x3 = 1 ∨ x3 = 0) with hb4 | hb4
  · have hb4 : x3 = 1 := by omega
    refine pw_if E (pc' := 15) rfl (by decide) (by omega) (by omega) ?_ ?_
    · intro hc5
      have hc5 : x3 = (0 : Int) := hc5
      exfalso; omega
    · intro hc6
      have hc6 : ¬ (x3 = (0 : Int)) := hc6
      refine pw_ld E (pc' := 9) (st' := [pw_i wt]) rfl (fun _ => rfl) ?_
      refine pw_call (m' := 137) (As := [pw_i wt]) (rest := []) (ls'' := [some (pw_i wt)]) (by omega) E rfl (fun _ => pw_iS rfl rfl rfl) (rfl : pm_ent 137 = some (1, 1, 11, 1, pmc_137)) rfl rfl (cm_137 (by omega) I (wt) (by omega) (by omega)) ?_
      rintro u8 v7 ⟨rfl, x9, rfl, hx9a, hx9b, hx9r⟩
      refine ⟨_, rfl, ?_⟩
      show pw X d h 136 12 [some (.ref 16), some (pw_i b), some (pw_i e), some (pw_i wt)] [pw_i x9] _
      have hx9r : (x9 = 1 ∧ 0 ≤ wt ∧ wt ≤ 1) ∨ (x9 = 0 ∧ ¬ (0 ≤ wt ∧ wt ≤ 1)) := hx9r
      rcases (by omega : x9 = 1 ∨ x9 = 0) with hb10 | hb10
      · have hb10 : x9 = 1 := by omega
        refine pw_if E (pc' := 19) rfl (by decide) (by omega) (by omega) ?_ ?_
        · intro hc11
          have hc11 : x9 ≠ (0 : Int) := hc11
          refine pw_ld E (pc' := 20) (st' := [.ref 16]) rfl (fun _ => rfl) ?_
          refine pw_ld E (pc' := 21) (st' := [pw_i b, .ref 16]) rfl (fun _ => rfl) ?_
          refine pw_ld E (pc' := 22) (st' := [pw_i e, pw_i b, .ref 16]) rfl (fun _ => rfl) ?_
          obtain ⟨f12l, f12h, -⟩ := pw_obj (c := 0) I rfl
          refine pw_call (m' := 138) (As := [.ref 16, pw_i b, pw_i e]) (rest := []) (ls'' := [some (.ref 16), some (pw_i b), some (pw_i e), none]) (by omega) E rfl (fun _ => pw_iV rfl rfl rfl rfl (pw_cellI f12h rfl)) (rfl : pm_ent 138 = some (3, 4, 11, 4, pmc_138)) rfl rfl (cm_138 (by omega) I (b) (by omega) (by omega) (e) (by omega) (by omega)) ?_
          rintro h13 v14 ⟨h13I, h13E, rfl⟩
          refine ⟨_, rfl, ?_⟩
          have h13F := E0.tr (h13E.wk (W' := [17, 18, 19, 22]) (by first | rfl | simp))
          show pw X d h13 136 25 [some (.ref 16), some (pw_i b), some (pw_i e), some (pw_i wt)] [] _
          refine pw_ld E (pc' := 26) (st' := [.ref 16]) rfl (fun _ => rfl) ?_
          refine pw_getR (b := 32) h13I E (c := 0) (k := 7) (pc' := 29) rfl rfl rfl rfl rfl rfl rfl ?_
          obtain ⟨f15l, f15h, -⟩ := pw_obj (c := 16) h13I rfl
          refine pw_call (m' := 86) (As := [.ref 32]) (rest := []) (ls'' := [some (.ref 32)]) (by omega) E rfl (fun _ => pw_iV rfl rfl rfl rfl (pw_cellI f15h rfl)) (rfl : pm_ent 86 = some (1, 1, 8, 1, pmc_86)) rfl rfl (cm_86 (by omega) h13I ) ?_
          rintro u17 v16 ⟨rfl, x18, rfl, hx18a, hx18b⟩
          refine ⟨_, rfl, ?_⟩
          show pw X d h13 136 32 [some (.ref 16), some (pw_i b), some (pw_i e), some (pw_i wt)] [pw_i x18] _
          refine pw_if E (pc' := 57) rfl (by decide) (by omega) (by omega) ?_ ?_
          · intro hc19
            have hc19 : x18 ≠ (0 : Int) := hc19
            refine pw_ld E (pc' := 60) (st' := [.long (Int64.ofNat 18446744073709551615)]) rfl (fun _ => rfl) ?_
            refine pw_lret E rfl ?_
            exact ⟨h13I, h13F, ⟨_, rfl⟩⟩
          · intro hc20
            have hc20 : ¬ (x18 ≠ (0 : Int)) := hc20
            refine pw_ld E (pc' := 36) (st' := [.ref 16]) rfl (fun _ => rfl) ?_
            refine pw_getR (b := 32) h13I E (c := 0) (k := 7) (pc' := 39) rfl rfl rfl rfl rfl rfl rfl ?_
            refine pw_ld E (pc' := 40) (st' := [pw_i 0, .ref 32]) rfl (fun _ => rfl) ?_
            obtain ⟨f21l, f21h, -⟩ := pw_obj (c := 16) h13I rfl
            refine pw_call (m' := 84) (As := [.ref 32, pw_i 0]) (rest := []) (ls'' := [some (.ref 32), some (pw_i 0), none, none]) (by omega) E rfl (fun _ => pw_iV rfl rfl rfl rfl (pw_cellI f21h rfl)) (rfl : pm_ent 84 = some (2, 4, 8, 0, pmc_84)) rfl rfl (cm_84 (by omega) h13I (0) (by omega) (by omega)) ?_
            rintro u23 v22 ⟨rfl, x24, rfl, hx24a, hx24b⟩
            refine ⟨_, rfl, ?_⟩
            show pw X d h13 136 43 [some (.ref 16), some (pw_i b), some (pw_i e), some (pw_i wt)] [pw_i x24] _
            refine pw_ld E (pc' := 44) (st' := [.ref 16, pw_i x24]) rfl (fun _ => rfl) ?_
            refine pw_getR (b := 32) h13I E (c := 0) (k := 7) (pc' := 47) rfl rfl rfl rfl rfl rfl rfl ?_
            refine pw_ld E (pc' := 48) (st' := [pw_i 1, .ref 32, pw_i x24]) rfl (fun _ => rfl) ?_
            obtain ⟨f25l, f25h, -⟩ := pw_obj (c := 16) h13I rfl
            refine pw_call (m' := 84) (As := [.ref 32, pw_i 1]) (rest := [pw_i x24]) (ls'' := [some (.ref 32), some (pw_i 1), none, none]) (by omega) E rfl (fun _ => pw_iV rfl rfl rfl rfl (pw_cellI f25h rfl)) (rfl : pm_ent 84 = some (2, 4, 8, 0, pmc_84)) rfl rfl (cm_84 (by omega) h13I (1) (by omega) (by omega)) ?_
            rintro u27 v26 ⟨rfl, x28, rfl, hx28a, hx28b⟩
            refine ⟨_, rfl, ?_⟩
            show pw X d h13 136 51 [some (.ref 16), some (pw_i b), some (pw_i e), some (pw_i wt)] [pw_i x28, pw_i x24] _
            refine pw_add E (pc' := 52) rfl rfl ?_
            refine pw_bip E (pc' := 54) rfl rfl (by decide) ?_
            refine pw_if2 E (pc' := 61) rfl (by decide) (by omega) (by omega) (by decide) (by decide) ?_ ?_
            · intro hc29
              have hc29 : x24 + x28 ≤ (14 : Int) := hc29
              refine pw_ld E (pc' := 62) (st' := [.ref 16]) rfl (fun _ => rfl) ?_
              refine pw_getR (b := 32) h13I E (c := 0) (k := 7) (pc' := 65) rfl rfl rfl rfl rfl rfl rfl ?_
              refine pw_ld E (pc' := 66) (st' := [.ref 16, .ref 32]) rfl (fun _ => rfl) ?_
              refine pw_getR (b := 38) h13I E (c := 0) (k := 8) (pc' := 69) rfl rfl rfl rfl rfl rfl rfl ?_
              obtain ⟨f30l, f30h, -⟩ := pw_obj (c := 16) h13I rfl
              refine pw_call (m' := 87) (As := [.ref 32, .ref 38]) (rest := []) (ls'' := [some (.ref 32), some (.ref 38), none, none, none, none, none, none, none, none, none]) (by omega) E rfl (fun _ => pw_iV rfl rfl rfl rfl (pw_cellI f30h rfl)) (rfl : pm_ent 87 = some (2, 11, 8, 4, pmc_87)) rfl rfl (cm_87 (by omega) h13I 22 (by unfold pw_Fr; omega)) ?_
              rintro h31 v32 ⟨h31I, h31E, rfl⟩
              refine ⟨_, rfl, ?_⟩
              have h31F := h13F.tr (h31E.wk (W' := [17, 18, 19, 22]) (by first | rfl | simp))
              show pw X d h31 136 72 [some (.ref 16), some (pw_i b), some (pw_i e), some (pw_i wt)] [] _
              refine pw_ld E (pc' := 73) (st' := [.ref 16]) rfl (fun _ => rfl) ?_
              refine pw_getR (b := 38) h31I E (c := 0) (k := 8) (pc' := 76) rfl rfl rfl rfl rfl rfl rfl ?_
              refine pw_ld E (pc' := 77) (st' := [pw_i wt, .ref 38]) rfl (fun _ => rfl) ?_
              obtain ⟨f33l, f33h, -⟩ := pw_obj (c := 22) h31I rfl
              refine pw_call (m' := 9) (As := [.ref 38, pw_i wt]) (rest := []) (ls'' := [some (.ref 38), some (pw_i wt)]) (by omega) E rfl (fun _ => pw_iV rfl rfl rfl rfl (pw_cellI f33h rfl)) (rfl : pm_ent 9 = some (2, 2, 1, 2, pmc_9)) rfl rfl (cm_9 (by omega) h31I 22 (by unfold pw_Fr; omega) (wt) (by omega) (by omega)) ?_
              rintro u35 v34 ⟨rfl, w36, rfl⟩
              refine ⟨_, rfl, ?_⟩
              show pw X d h31 136 80 [some (.ref 16), some (pw_i b), some (pw_i e), some (pw_i wt)] [.long w36] _
              refine pw_lret E rfl ?_
              exact ⟨h31I, h31F, ⟨_, rfl⟩⟩
            · intro hc37
              have hc37 : ¬ (x24 + x28 ≤ (14 : Int)) := hc37
              refine pw_ld E (pc' := 60) (st' := [.long (Int64.ofNat 18446744073709551615)]) rfl (fun _ => rfl) ?_
              refine pw_lret E rfl ?_
              exact ⟨h13I, h13F, ⟨_, rfl⟩⟩
        · intro hc38
          have hc38 : ¬ (x9 ≠ (0 : Int)) := hc38
          exfalso; omega
      · have hb39 : x9 = 0 := by omega
        refine pw_if E (pc' := 19) rfl (by decide) (by omega) (by omega) ?_ ?_
        · intro hc40
          have hc40 : x9 ≠ (0 : Int) := hc40
          exfalso; omega
        · intro hc41
          have hc41 : ¬ (x9 ≠ (0 : Int)) := hc41
          refine pw_ld E (pc' := 18) (st' := [.long (Int64.ofNat 18446744073709551615)]) rfl (fun _ => rfl) ?_
          refine pw_lret E rfl ?_
          exact ⟨I, E0, ⟨_, rfl⟩⟩
  · have hb42 : x3 = 0 := by omega
    refine pw_if E (pc' := 15) rfl (by decide) (by omega) (by omega) ?_ ?_
    · intro hc43
      have hc43 : x3 = (0 : Int) := hc43
      refine pw_ld E (pc' := 18) (st' := [.long (Int64.ofNat 18446744073709551615)]) rfl (fun _ => rfl) ?_
      refine pw_lret E rfl ?_
      exact ⟨I, E0, ⟨_, rfl⟩⟩
    · intro hc44
      have hc44 : ¬ (x3 = (0 : Int)) := hc44
      exfalso; omega
set_option maxHeartbeats 4000000 in
theorem cm_139 {X : List (Nat × List Value)} {d : Nat} {h : pm_H} (hd : 5 ≤ d) (I : pw_I h) (mo : Int) (hmo1 : (-2147483648) ≤ mo) (hmo2 : mo ≤ 2147483647) (wt : Int) (hwt1 : (-2147483648) ≤ wt) (hwt2 : wt ≤ 2147483647) : pw X d h 139 0 [some (.ref 16), some (pw_i mo), some (pw_i wt), none, none] [] (fun h' v => pw_I h' ∧ pw_E [17, 18, 22, 23] h h' ∧ ∃ w : Int64, v = .inl (some (.long w))) := by
  have E : pm_ent 139 = some (3, 5, 11, 2, pmc_139) := rfl
  have E0 : pw_E [17, 18, 22, 23] h h := pw_E.rf _ _
  refine pw_ld E (pc' := 1) (st' := [pw_i mo]) rfl (fun _ => rfl) ?_
  refine pw_ld E (pc' := 2) (st' := [pw_i 1, pw_i mo]) rfl (fun _ => rfl) ?_
  refine pw_bip E (pc' := 4) rfl rfl (by decide) ?_
  refine pw_call (m' := 121) (As := [pw_i mo, pw_i 1, pw_i 11]) (rest := []) (ls'' := [some (pw_i mo), some (pw_i 1), some (pw_i 11)]) (by omega) E rfl (fun _ => pw_iS rfl rfl rfl) (rfl : pm_ent 121 = some (3, 3, 11, 1, pmc_121)) rfl rfl (cm_121 (by omega) I (mo) (by omega) (by omega) (1) (by omega) (by omega) (11) (by omega) (by omega)) ?_
  rintro u2 v1 ⟨rfl, x3, rfl, hx3a, hx3b, hx3r⟩
  refine ⟨_, rfl, ?_⟩
  show pw X d h 139 7 [some (.ref 16), some (pw_i mo), some (pw_i wt), none, none] [pw_i x3] _
  have hx3r : (x3 = 1 ∧ 1 ≤ mo ∧ mo ≤ 11) ∨ (x3 = 0 ∧ ¬ (1 ≤ mo ∧ mo ≤ 11)) := hx3r
  rcases (by omega : x3 = 1 ∨ x3 = 0) with hb4 | hb4
  · have hb4 : x3 = 1 := by omega
    refine pw_if E (pc' := 19) rfl (by decide) (by omega) (by omega) ?_ ?_
    · intro hc5
      have hc5 : x3 = (0 : Int) := hc5
      exfalso; omega
    · intro hc6
      have hc6 : ¬ (x3 = (0 : Int)) := hc6
      refine pw_ld E (pc' := 11) (st' := [pw_i wt]) rfl (fun _ => rfl) ?_
      refine pw_ld E (pc' := 12) (st' := [pw_i 0, pw_i wt]) rfl (fun _ => rfl) ?_
      refine pw_ld E (pc' := 13) (st' := [pw_i 2, pw_i 0, pw_i wt]) rfl (fun _ => rfl) ?_
      refine pw_call (m' := 121) (As := [pw_i wt, pw_i 0, pw_i 2]) (rest := []) (ls'' := [some (pw_i wt), some (pw_i 0), some (pw_i 2)]) (by omega) E rfl (fun _ => pw_iS rfl rfl rfl) (rfl : pm_ent 121 = some (3, 3, 11, 1, pmc_121)) rfl rfl (cm_121 (by omega) I (wt) (by omega) (by omega) (0) (by omega) (by omega) (2) (by omega) (by omega)) ?_
      rintro u8 v7 ⟨rfl, x9, rfl, hx9a, hx9b, hx9r⟩
      refine ⟨_, rfl, ?_⟩
      show pw X d h 139 16 [some (.ref 16), some (pw_i mo), some (pw_i wt), none, none] [pw_i x9] _
      have hx9r : (x9 = 1 ∧ 0 ≤ wt ∧ wt ≤ 2) ∨ (x9 = 0 ∧ ¬ (0 ≤ wt ∧ wt ≤ 2)) := hx9r
      rcases (by omega : x9 = 1 ∨ x9 = 0) with hb10 | hb10
      · have hb10 : x9 = 1 := by omega
        refine pw_if E (pc' := 23) rfl (by decide) (by omega) (by omega) ?_ ?_
        · intro hc11
          have hc11 : x9 ≠ (0 : Int) := hc11
          refine pw_ld E (pc' := 24) (st' := [pw_i 0]) rfl (fun _ => rfl) ?_
          refine pw_istn E (pc' := 25) (ls' := [some (.ref 16), some (pw_i mo), some (pw_i wt), some (pw_i 0), none]) rfl rfl rfl rfl ?_
          refine pw_ld E (pc' := 26) (st' := [.ref 16]) rfl (fun _ => rfl) ?_
          refine pw_getR (b := 39) I E (c := 0) (k := 9) (pc' := 29) rfl rfl rfl rfl rfl rfl rfl ?_
          refine pw_ld E (pc' := 30) (st' := [.long (Int64.ofNat 0), .ref 39]) rfl (fun _ => rfl) ?_
          refine pw_ld E (pc' := 31) (st' := [.long (Int64.ofNat 1), .long (Int64.ofNat 0), .ref 39]) rfl (fun _ => rfl) ?_
          obtain ⟨f12l, f12h, -⟩ := pw_obj (c := 23) I rfl
          refine pw_call (m' := 6) (As := [.ref 39, .long (Int64.ofNat 0), .long (Int64.ofNat 1)]) (rest := []) (ls'' := [some (.ref 39), some (.long (Int64.ofNat 0)), none, some (.long (Int64.ofNat 1)), none, none, none]) (by omega) E rfl (fun _ => pw_iV rfl rfl rfl rfl (pw_cellI f12h rfl)) (rfl : pm_ent 6 = some (3, 7, 1, 4, pmc_6)) rfl rfl (cm_6 (by omega) I 23 (by unfold pw_Fr; omega) (Int64.ofNat 0) (Int64.ofNat 1)) ?_
          rintro h13 v14 ⟨h13I, h13E, rfl⟩
          refine ⟨_, rfl, ?_⟩
          have h13F := E0.tr (h13E.wk (W' := [17, 18, 22, 23]) (by first | rfl | simp))
          show pw X d h13 139 34 [some (.ref 16), some (pw_i mo), some (pw_i wt), some (pw_i 0), none] [] _
          refine pw_ld E (pc' := 35) (st' := [pw_i 1]) rfl (fun _ => rfl) ?_
          refine pw_ist E (pc' := 37) (ls' := [some (.ref 16), some (pw_i mo), some (pw_i wt), some (pw_i 0), some (pw_i 1)]) rfl rfl rfl rfl ?_
          have L37 : ∀ (n37 : Nat) (k37_3 : Int) (k37_4 : Int) (h37 : pm_H), pw_I h37 → pw_E [17, 18, 22, 23] h h37 → 0 ≤ k37_3 → k37_3 ≤ 11 → 1 ≤ k37_4 → k37_4 ≤ 12 → k37_3 + 1 ≤ k37_4 + 0 → (12 - k37_4).toNat = n37 → pw X d h37 139 37 [some (.ref 16), some (pw_i mo), some (pw_i wt), some (pw_i k37_3), some (pw_i k37_4)] [] (fun h' v => pw_I h' ∧ pw_E [17, 18, 22, 23] h h' ∧ ∃ w : Int64, v = .inl (some (.long w))) := by
            intro n37
            induction n37 using Nat.strongRecOn with
            | ind n37 ih37 =>
              intro k37_3 k37_4 h37 I37 E37 k37_3a k37_3b k37_4a k37_4b hx37_0 hm37
              refine pw_ld E (pc' := 39) (st' := [pw_i k37_4]) rfl (fun _ => rfl) ?_
              refine pw_ld E (pc' := 40) (st' := [pw_i mo, pw_i k37_4]) rfl (fun _ => rfl) ?_
              refine pw_if2 E (pc' := 108) rfl (by decide) (by omega) (by omega) (by omega) (by omega) ?_ ?_
              · intro hc15
                have hc15 : mo < k37_4 := hc15
                refine pw_ld E (pc' := 109) (st' := [pw_i wt]) rfl (fun _ => rfl) ?_
                refine pw_if E (pc' := 115) rfl (by decide) (by omega) (by omega) ?_ ?_
                · intro hc16
                  have hc16 : wt ≠ (0 : Int) := hc16
                  refine pw_ld E (pc' := 116) (st' := [pw_i k37_3]) rfl (fun _ => rfl) ?_
                  refine pw_if E (pc' := 125) rfl (by decide) (by omega) (by omega) ?_ ?_
                  · intro hc17
                    have hc17 : k37_3 ≠ (0 : Int) := hc17
                    refine pw_ld E (pc' := 126) (st' := [.ref 16]) rfl (fun _ => rfl) ?_
                    refine pw_getR (b := 39) I37 E (c := 0) (k := 9) (pc' := 129) rfl rfl rfl rfl rfl rfl rfl ?_
                    refine pw_ld E (pc' := 130) (st' := [pw_i wt, .ref 39]) rfl (fun _ => rfl) ?_
                    refine pw_ld E (pc' := 131) (st' := [pw_i 1, pw_i wt, .ref 39]) rfl (fun _ => rfl) ?_
                    refine pw_sub E (pc' := 132) rfl rfl ?_
                    obtain ⟨f18l, f18h, -⟩ := pw_obj (c := 23) I37 rfl
                    refine pw_call (m' := 9) (As := [.ref 39, pw_i (wt - 1)]) (rest := []) (ls'' := [some (.ref 39), some (pw_i (wt - 1))]) (by omega) E rfl (fun _ => pw_iV rfl rfl rfl rfl (pw_cellI f18h rfl)) (rfl : pm_ent 9 = some (2, 2, 1, 2, pmc_9)) rfl rfl (cm_9 (by omega) I37 23 (by unfold pw_Fr; omega) (wt - 1) (by omega) (by omega)) ?_
                    rintro u20 v19 ⟨rfl, w21, rfl⟩
                    refine ⟨_, rfl, ?_⟩
                    show pw X d h37 139 135 [some (.ref 16), some (pw_i mo), some (pw_i wt), some (pw_i k37_3), some (pw_i k37_4)] [.long w21] _
                    refine pw_lret E rfl ?_
                    exact ⟨I37, E37, ⟨_, rfl⟩⟩
                  · intro hc22
                    have hc22 : ¬ (k37_3 ≠ (0 : Int)) := hc22
                    refine pw_ld E (pc' := 122) (st' := [.long (Int64.ofNat 18446744073709551615)]) rfl (fun _ => rfl) ?_
                    refine pw_goto E (pc' := 135) rfl (by decide) ?_
                    refine pw_lret E rfl ?_
                    exact ⟨I37, E37, ⟨_, rfl⟩⟩
                · intro hc23
                  have hc23 : ¬ (wt ≠ (0 : Int)) := hc23
                  refine pw_ld E (pc' := 113) (st' := [pw_i k37_3]) rfl (fun _ => rfl) ?_
                  refine pw_ld E (pc' := 114) (st' := [.long ((Int32.ofInt k37_3).toInt64)]) rfl (fun _ => rfl) ?_
                  refine pw_lret E rfl ?_
                  exact ⟨I37, E37, ⟨_, rfl⟩⟩
              · intro hc24
                have hc24 : ¬ (mo < k37_4) := hc24
                refine pw_ld E (pc' := 44) (st' := [.ref 16]) rfl (fun _ => rfl) ?_
                refine pw_ld E (pc' := 46) (st' := [pw_i k37_4, .ref 16]) rfl (fun _ => rfl) ?_
                refine pw_ld E (pc' := 47) (st' := [pw_i 1, pw_i k37_4, .ref 16]) rfl (fun _ => rfl) ?_
                refine pw_sub E (pc' := 48) rfl rfl ?_
                refine pw_ld E (pc' := 50) (st' := [pw_i k37_4, pw_i (k37_4 - 1), .ref 16]) rfl (fun _ => rfl) ?_
                obtain ⟨f25l, f25h, -⟩ := pw_obj (c := 0) I37 rfl
                refine pw_call (m' := 138) (As := [.ref 16, pw_i (k37_4 - 1), pw_i k37_4]) (rest := []) (ls'' := [some (.ref 16), some (pw_i (k37_4 - 1)), some (pw_i k37_4), none]) (by omega) E rfl (fun _ => pw_iV rfl rfl rfl rfl (pw_cellI f25h rfl)) (rfl : pm_ent 138 = some (3, 4, 11, 4, pmc_138)) rfl rfl (cm_138 (by omega) I37 (k37_4 - 1) (by omega) (by omega) (k37_4) (by omega) (by omega)) ?_
                rintro h26 v27 ⟨h26I, h26E, rfl⟩
                refine ⟨_, rfl, ?_⟩
                have h26F := E37.tr (h26E.wk (W' := [17, 18, 22, 23]) (by first | rfl | simp))
                show pw X d h26 139 53 [some (.ref 16), some (pw_i mo), some (pw_i wt), some (pw_i k37_3), some (pw_i k37_4)] [] _
                refine pw_ld E (pc' := 54) (st' := [.ref 16]) rfl (fun _ => rfl) ?_
                refine pw_getR (b := 32) h26I E (c := 0) (k := 7) (pc' := 57) rfl rfl rfl rfl rfl rfl rfl ?_
                refine pw_ld E (pc' := 58) (st' := [.ref 16, .ref 32]) rfl (fun _ => rfl) ?_
                refine pw_getR (b := 38) h26I E (c := 0) (k := 8) (pc' := 61) rfl rfl rfl rfl rfl rfl rfl ?_
                obtain ⟨f28l, f28h, -⟩ := pw_obj (c := 16) h26I rfl
                refine pw_call (m' := 83) (As := [.ref 32, .ref 38]) (rest := []) (ls'' := [some (.ref 32), some (.ref 38), none, none, none, none]) (by omega) E rfl (fun _ => pw_iV rfl rfl rfl rfl (pw_cellI f28h rfl)) (rfl : pm_ent 83 = some (2, 6, 8, 1, pmc_83)) rfl rfl (cm_83 (by omega) h26I 22 (by unfold pw_Fr; omega)) ?_
                rintro h29 v30 ⟨h29I, h29E, x31, rfl, hx31a, hx31b⟩
                refine ⟨_, rfl, ?_⟩
                have h29F := h26F.tr (h29E.wk (W' := [17, 18, 22, 23]) (by first | rfl | simp))
                show pw X d h29 139 64 [some (.ref 16), some (pw_i mo), some (pw_i wt), some (pw_i k37_3), some (pw_i k37_4)] [pw_i x31] _
                refine pw_if E (pc' := 102) rfl (by decide) (by omega) (by omega) ?_ ?_
                · intro hc32
                  have hc32 : x31 = (0 : Int) := hc32
                  refine pw_inc E (pc' := 105) (ls' := [some (.ref 16), some (pw_i mo), some (pw_i wt), some (pw_i k37_3), some (pw_i (k37_4 + 1))]) rfl rfl rfl rfl ?_
                  refine pw_goto E (pc' := 37) rfl (by decide) ?_
                  exact ih37 _ (by omega) (k37_3) (k37_4 + 1) h29 h29I h29F (by omega) (by omega) (by omega) (by omega) (by omega) rfl
                · intro hc33
                  have hc33 : ¬ (x31 = (0 : Int)) := hc33
                  refine pw_inc E (pc' := 70) (ls' := [some (.ref 16), some (pw_i mo), some (pw_i wt), some (pw_i (k37_3 + 1)), some (pw_i k37_4)]) rfl rfl rfl rfl ?_
                  refine pw_ld E (pc' := 71) (st' := [.ref 16]) rfl (fun _ => rfl) ?_
                  refine pw_getR (b := 38) h29I E (c := 0) (k := 8) (pc' := 74) rfl rfl rfl rfl rfl rfl rfl ?_
                  obtain ⟨f34l, f34h, -⟩ := pw_obj (c := 22) h29I rfl
                  refine pw_call (m' := 10) (As := [.ref 38]) (rest := []) (ls'' := [some (.ref 38)]) (by omega) E rfl (fun _ => pw_iV rfl rfl rfl rfl (pw_cellI f34h rfl)) (rfl : pm_ent 10 = some (1, 1, 1, 4, pmc_10)) rfl rfl (cm_10 (by omega) h29I 22 (by unfold pw_Fr; omega)) ?_
                  rintro h35 v36 ⟨h35I, h35E, rfl⟩
                  refine ⟨_, rfl, ?_⟩
                  have h35F := h29F.tr (h35E.wk (W' := [17, 18, 22, 23]) (by first | rfl | simp))
                  show pw X d h35 139 77 [some (.ref 16), some (pw_i mo), some (pw_i wt), some (pw_i (k37_3 + 1)), some (pw_i k37_4)] [] _
                  refine pw_ld E (pc' := 78) (st' := [.ref 16]) rfl (fun _ => rfl) ?_
                  refine pw_getR (b := 39) h35I E (c := 0) (k := 9) (pc' := 81) rfl rfl rfl rfl rfl rfl rfl ?_
                  refine pw_ld E (pc' := 82) (st' := [.ref 16, .ref 39]) rfl (fun _ => rfl) ?_
                  refine pw_getR (b := 38) h35I E (c := 0) (k := 8) (pc' := 85) rfl rfl rfl rfl rfl rfl rfl ?_
                  obtain ⟨f37l, f37h, -⟩ := pw_obj (c := 23) h35I rfl
                  refine pw_call (m' := 11) (As := [.ref 39, .ref 38]) (rest := []) (ls'' := [some (.ref 39), some (.ref 38)]) (by omega) E rfl (fun _ => pw_iV rfl rfl rfl rfl (pw_cellI f37h rfl)) (rfl : pm_ent 11 = some (2, 2, 1, 1, pmc_11)) rfl rfl (cm_11 (by omega) h35I 23 (by unfold pw_Fr; omega) 22 (by unfold pw_Fr; omega)) ?_
                  rintro u39 v38 ⟨rfl, x40, rfl, hx40a, hx40b⟩
                  refine ⟨_, rfl, ?_⟩
                  show pw X d h35 139 88 [some (.ref 16), some (pw_i mo), some (pw_i wt), some (pw_i (k37_3 + 1)), some (pw_i k37_4)] [pw_i x40] _
                  refine pw_if E (pc' := 102) rfl (by decide) (by omega) (by omega) ?_ ?_
                  · intro hc41
                    have hc41 : x40 = (0 : Int) := hc41
                    refine pw_inc E (pc' := 105) (ls' := [some (.ref 16), some (pw_i mo), some (pw_i wt), some (pw_i (k37_3 + 1)), some (pw_i (k37_4 + 1))]) rfl rfl rfl rfl ?_
                    refine pw_goto E (pc' := 37) rfl (by decide) ?_
                    exact ih37 _ (by omega) (k37_3 + 1) (k37_4 + 1) h35 h35I h35F (by omega) (by omega) (by omega) (by omega) (by omega) rfl
                  · intro hc42
                    have hc42 : ¬ (x40 = (0 : Int)) := hc42
                    refine pw_ld E (pc' := 92) (st' := [.ref 16]) rfl (fun _ => rfl) ?_
                    refine pw_getR (b := 39) h35I E (c := 0) (k := 9) (pc' := 95) rfl rfl rfl rfl rfl rfl rfl ?_
                    refine pw_ld E (pc' := 96) (st' := [.ref 16, .ref 39]) rfl (fun _ => rfl) ?_
                    refine pw_getR (b := 38) h35I E (c := 0) (k := 8) (pc' := 99) rfl rfl rfl rfl rfl rfl rfl ?_
                    obtain ⟨f43l, f43h, -⟩ := pw_obj (c := 23) h35I rfl
                    refine pw_call (m' := 12) (As := [.ref 39, .ref 38]) (rest := []) (ls'' := [some (.ref 39), some (.ref 38)]) (by omega) E rfl (fun _ => pw_iV rfl rfl rfl rfl (pw_cellI f43h rfl)) (rfl : pm_ent 12 = some (2, 2, 1, 4, pmc_12)) rfl rfl (cm_12 (by omega) h35I 23 (by unfold pw_Fr; omega) 22 (by unfold pw_Fr; omega)) ?_
                    rintro h44 v45 ⟨h44I, h44E, rfl⟩
                    refine ⟨_, rfl, ?_⟩
                    have h44F := h35F.tr (h44E.wk (W' := [17, 18, 22, 23]) (by first | rfl | simp))
                    show pw X d h44 139 102 [some (.ref 16), some (pw_i mo), some (pw_i wt), some (pw_i (k37_3 + 1)), some (pw_i k37_4)] [] _
                    refine pw_inc E (pc' := 105) (ls' := [some (.ref 16), some (pw_i mo), some (pw_i wt), some (pw_i (k37_3 + 1)), some (pw_i (k37_4 + 1))]) rfl rfl rfl rfl ?_
                    refine pw_goto E (pc' := 37) rfl (by decide) ?_
                    exact ih37 _ (by omega) (k37_3 + 1) (k37_4 + 1) h44 h44I h44F (by omega) (by omega) (by omega) (by omega) (by omega) rfl
          exact L37 _ (0) (1) h13 h13I h13F (by omega) (by omega) (by omega) (by omega) (by omega) rfl
        · intro hc46
          have hc46 : ¬ (x9 ≠ (0 : Int)) := hc46
          exfalso; omega
      · have hb47 : x9 = 0 := by omega
        refine pw_if E (pc' := 23) rfl (by decide) (by omega) (by omega) ?_ ?_
        · intro hc48
          have hc48 : x9 ≠ (0 : Int) := hc48
          exfalso; omega
        · intro hc49
          have hc49 : ¬ (x9 ≠ (0 : Int)) := hc49
          refine pw_ld E (pc' := 22) (st' := [.long (Int64.ofNat 18446744073709551615)]) rfl (fun _ => rfl) ?_
          refine pw_lret E rfl ?_
          exact ⟨I, E0, ⟨_, rfl⟩⟩
  · have hb50 : x3 = 0 := by omega
    refine pw_if E (pc' := 19) rfl (by decide) (by omega) (by omega) ?_ ?_
    · intro hc51
      have hc51 : x3 = (0 : Int) := hc51
      refine pw_ld E (pc' := 22) (st' := [.long (Int64.ofNat 18446744073709551615)]) rfl (fun _ => rfl) ?_
      refine pw_lret E rfl ?_
      exact ⟨I, E0, ⟨_, rfl⟩⟩
    · intro hc52
      have hc52 : ¬ (x3 = (0 : Int)) := hc52
      exfalso; omega
set_option maxHeartbeats 4000000 in
theorem cm_140 {X : List (Nat × List Value)} {d : Nat} {h : pm_H} (hd : 3 ≤ d) (I : pw_I h) (x : Int64) (y : Int64) (z : Int64) : pw X d h 140 0 [some (.ref 16), some (.long x), none, some (.long y), none, some (.long z), none] [] (fun h' v => pw_I h' ∧ pw_E [24, 25] h h' ∧ ∃ a : Int, v = .inl (some (pw_i a)) ∧ (-2147483648) ≤ a ∧ a ≤ 2147483647) := by
  have E : pm_ent 140 = some (4, 7, 11, 0, pmc_140) := rfl
  have E0 : pw_E [24, 25] h h := pw_E.rf _ _
  refine pw_ld E (pc' := 1) (st' := [.ref 16]) rfl (fun _ => rfl) ?_
  refine pw_getR (b := 40) I E (c := 0) (k := 10) (pc' := 4) rfl rfl rfl rfl rfl rfl rfl ?_
  refine pw_ld E (pc' := 5) (st' := [.long x, .ref 40]) rfl (fun _ => rfl) ?_
  obtain ⟨f1l, f1h, -⟩ := pw_obj (c := 24) I rfl
  refine pw_call (m' := 97) (As := [.ref 40, .long x]) (rest := []) (ls'' := [some (.ref 40), some (.long x), none, none, none, none]) (by omega) E rfl (fun _ => pw_iV rfl rfl rfl rfl (pw_cellI f1h rfl)) (rfl : pm_ent 97 = some (2, 6, 9, 4, pmc_97)) rfl rfl (cm_97 (by omega) I (x)) ?_
  rintro h2 v3 ⟨h2I, h2E, rfl⟩
  refine ⟨_, rfl, ?_⟩
  have h2F := E0.tr (h2E.wk (W' := [24, 25]) (by first | rfl | simp))
  show pw X d h2 140 8 [some (.ref 16), some (.long x), none, some (.long y), none, some (.long z), none] [] _
  refine pw_ld E (pc' := 9) (st' := [.ref 16]) rfl (fun _ => rfl) ?_
  refine pw_getR (b := 40) h2I E (c := 0) (k := 10) (pc' := 12) rfl rfl rfl rfl rfl rfl rfl ?_
  refine pw_ld E (pc' := 13) (st' := [.long y, .ref 40]) rfl (fun _ => rfl) ?_
  obtain ⟨f4l, f4h, -⟩ := pw_obj (c := 24) h2I rfl
  refine pw_call (m' := 97) (As := [.ref 40, .long y]) (rest := []) (ls'' := [some (.ref 40), some (.long y), none, none, none, none]) (by omega) E rfl (fun _ => pw_iV rfl rfl rfl rfl (pw_cellI f4h rfl)) (rfl : pm_ent 97 = some (2, 6, 9, 4, pmc_97)) rfl rfl (cm_97 (by omega) h2I (y)) ?_
  rintro h5 v6 ⟨h5I, h5E, rfl⟩
  refine ⟨_, rfl, ?_⟩
  have h5F := h2F.tr (h5E.wk (W' := [24, 25]) (by first | rfl | simp))
  show pw X d h5 140 16 [some (.ref 16), some (.long x), none, some (.long y), none, some (.long z), none] [] _
  refine pw_ld E (pc' := 17) (st' := [.ref 16]) rfl (fun _ => rfl) ?_
  refine pw_getR (b := 40) h5I E (c := 0) (k := 10) (pc' := 20) rfl rfl rfl rfl rfl rfl rfl ?_
  refine pw_ld E (pc' := 22) (st' := [.long z, .ref 40]) rfl (fun _ => rfl) ?_
  obtain ⟨f7l, f7h, -⟩ := pw_obj (c := 24) h5I rfl
  refine pw_call (m' := 97) (As := [.ref 40, .long z]) (rest := []) (ls'' := [some (.ref 40), some (.long z), none, none, none, none]) (by omega) E rfl (fun _ => pw_iV rfl rfl rfl rfl (pw_cellI f7h rfl)) (rfl : pm_ent 97 = some (2, 6, 9, 4, pmc_97)) rfl rfl (cm_97 (by omega) h5I (z)) ?_
  rintro h8 v9 ⟨h8I, h8E, rfl⟩
  refine ⟨_, rfl, ?_⟩
  have h8F := h5F.tr (h8E.wk (W' := [24, 25]) (by first | rfl | simp))
  show pw X d h8 140 25 [some (.ref 16), some (.long x), none, some (.long y), none, some (.long z), none] [] _
  refine pw_ld E (pc' := 26) (st' := [.ref 16]) rfl (fun _ => rfl) ?_
  refine pw_getR (b := 40) h8I E (c := 0) (k := 10) (pc' := 29) rfl rfl rfl rfl rfl rfl rfl ?_
  obtain ⟨f10l, f10h, -⟩ := pw_obj (c := 24) h8I rfl
  refine pw_call (m' := 98) (As := [.ref 40]) (rest := []) (ls'' := [some (.ref 40)]) (by omega) E rfl (fun _ => pw_iV rfl rfl rfl rfl (pw_cellI f10h rfl)) (rfl : pm_ent 98 = some (1, 1, 9, 0, pmc_98)) rfl rfl (cm_98 (by omega) h8I ) ?_
  rintro u12 v11 ⟨rfl, x13, rfl, hx13a, hx13b⟩
  refine ⟨_, rfl, ?_⟩
  show pw X d h8 140 32 [some (.ref 16), some (.long x), none, some (.long y), none, some (.long z), none] [pw_i x13] _
  refine pw_iret E rfl ?_
  exact ⟨h8I, h8F, ⟨_, rfl, by omega, by omega⟩⟩
