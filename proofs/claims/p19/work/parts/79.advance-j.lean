section
/-! the next token: it is the end, or the tokens go on (printed by wip/tool/reader10.py) -/
set_option maxHeartbeats 4000000 in
theorem cm_101_24 {X : List (Nat × List Value)} {d : Nat} {h : pm_H} (hd : 3 ≤ d) (I : pw_I h) (hX : pw_Xk X)  : pw X d h 101 0 [some (.ref 40)] [] (fun h' v => pw_I h' ∧ pw_E [24] h h' ∧ ((pw_g h' 24 4 = 4 ∨ pw_g h 24 3 + 1 ≤ pw_g h' 24 3) ∧ (pw_g h' 24 4 ≠ 2 ∨ 0 ≤ pw_g h' 24 5)) ∧ (v = .inl none)) := by
  have E : pm_ent 101 = some (1, 1, 9, 4, pmc_101) := rfl
  have E0 : pw_E [24] h h := pw_E.rf _ _
  refine pw_ld E (pc' := 1) (st' := [.ref 40]) rfl (fun _ => rfl) ?_
  refine pw_ld E (pc' := 2) (st' := [.ref 40, .ref 40]) rfl (fun _ => rfl) ?_
  refine pw_getI2 I E (c := 24) (k := 3) (pc' := 5) rfl rfl rfl rfl rfl rfl (fun hf1a hf1b => ?_)
  refine pw_putI I E (c := 24) (k := 2) (pc' := 8) rfl rfl rfl rfl (by omega) (by omega) (by omega) (by omega) rfl rfl ?_
  intro h2I h2E
  generalize h2w : pw_w h 24 2 (pw_i (pw_g h 24 3)) = h2 at h2I h2E ⊢
  have h2F := E0.tr (h2E.wk (W' := [24]) (by first | rfl | simp))
  have L8 : ∀ (n8 : Nat)  (h8 : pm_H), pw_I h8 → pw_E [24] h h8 → pw_g h 24 3 ≤ pw_g h8 24 2 → (1000 - pw_g h8 24 2).toNat = n8 → pw X d h8 101 8 [some (.ref 40)] [] (fun h' v => pw_I h' ∧ pw_E [24] h h' ∧ ((pw_g h' 24 4 = 4 ∨ pw_g h 24 3 + 1 ≤ pw_g h' 24 3) ∧ (pw_g h' 24 4 ≠ 2 ∨ 0 ≤ pw_g h' 24 5)) ∧ (v = .inl none)) := by
    intro n8
    induction n8 using Nat.strongRecOn with
    | ind n8 ih8 =>
      intro  h8 I8 E8 hx8_0 hm8
      refine pw_ld E (pc' := 9) (st' := [.ref 40]) rfl (fun _ => rfl) ?_
      refine pw_getI2 I8 E (c := 24) (k := 2) (pc' := 12) rfl rfl rfl rfl rfl rfl (fun hf3a hf3b => ?_)
      refine pw_ld E (pc' := 13) (st' := [.ref 40, pw_i (pw_g h8 24 2)]) rfl (fun _ => rfl) ?_
      refine pw_getI2 I8 E (c := 24) (k := 1) (pc' := 16) rfl rfl rfl rfl rfl rfl (fun hf4a hf4b => ?_)
      refine pw_if2 E (pc' := 47) rfl (by decide) (by omega) (by omega) (by omega) (by omega) ?_ ?_
      · intro hc5
        change pw_g h8 24 1 ≤ pw_g h8 24 2 at hc5
        refine pw_ld E (pc' := 48) (st' := [.ref 40]) rfl (fun _ => rfl) ?_
        refine pw_ld E (pc' := 49) (st' := [.ref 40, .ref 40]) rfl (fun _ => rfl) ?_
        refine pw_getI2 I8 E (c := 24) (k := 2) (pc' := 52) rfl rfl rfl rfl rfl rfl (fun hf6a hf6b => ?_)
        refine pw_putI I8 E (c := 24) (k := 3) (pc' := 55) rfl rfl rfl rfl (by omega) (by omega) (by omega) (by omega) rfl rfl ?_
        intro h7I h7E
        generalize h7w : pw_w h8 24 3 (pw_i (pw_g h8 24 2)) = h7 at h7I h7E ⊢
        have h7F := E8.tr (h7E.wk (W' := [24]) (by first | rfl | simp))
        refine pw_ld E (pc' := 56) (st' := [.ref 40]) rfl (fun _ => rfl) ?_
        have he9 : pw_g h7 24 2 = pw_g h8 24 2 := by rw [← h7w]; exact pw_g_ne (by omega)
        refine pw_getI2 h7I E (c := 24) (k := 2) (pc' := 59) rfl rfl rfl rfl rfl rfl (fun hf8a hf8b => ?_)
        refine pw_ld E (pc' := 60) (st' := [.ref 40, pw_i (pw_g h7 24 2)]) rfl (fun _ => rfl) ?_
        have he11 : pw_g h7 24 1 = pw_g h8 24 1 := by rw [← h7w]; exact pw_g_ne (by omega)
        refine pw_getI2 h7I E (c := 24) (k := 1) (pc' := 63) rfl rfl rfl rfl rfl rfl (fun hf10a hf10b => ?_)
        refine pw_if2 E (pc' := 74) rfl (by decide) (by omega) (by omega) (by omega) (by omega) ?_ ?_
        · intro hc12
          change pw_g h7 24 2 < pw_g h7 24 1 at hc12
          refine pw_ld E (pc' := 75) (st' := [.ref 40]) rfl (fun _ => rfl) ?_
          refine pw_getR (b := 41) h7I E (c := 24) (k := 0) (pc' := 78) rfl rfl rfl rfl rfl rfl rfl ?_
          refine pw_ld E (pc' := 79) (st' := [.ref 40, .ref 41]) rfl (fun _ => rfl) ?_
          refine pw_getI2 h7I E (c := 24) (k := 2) (pc' := 82) rfl rfl rfl rfl rfl rfl (fun hf13a hf13b => ?_)
          refine pw_ald2 h7I E (c := 25) (pc' := 83) rfl rfl rfl (by decide) rfl (by decide) (by omega) (by omega) rfl (fun hf14a hf14b => ?_)
          refine pw_call (m' := 103) (As := [pw_i (pw_g h7 25 ((pw_g h7 24 2).toNat))]) (rest := []) (ls'' := [some (pw_i (pw_g h7 25 ((pw_g h7 24 2).toNat)))]) (Nat.le_trans (by decide) hd) E rfl (fun _ => pw_iS rfl rfl rfl) (rfl : pm_ent 103 = some (1, 1, 9, 1, pmc_103)) rfl rfl (cm_103_24 (pw_dp hd (by decide)) h7I (pw_g h7 25 ((pw_g h7 24 2).toNat)) (by omega) (by omega)) ?_
          rintro u16 v15 ⟨rfl, x17, rfl, hx17a, hx17b, hx17r⟩
          refine ⟨_, rfl, ?_⟩
          show pw X d h7 101 86 [some (.ref 40)] [pw_i x17] _
          change (x17 = 1 ∧ 97 ≤ (pw_g h7 25 ((pw_g h7 24 2).toNat)) ∧ (pw_g h7 25 ((pw_g h7 24 2).toNat)) ≤ 122) ∨ (x17 = 0 ∧ ¬ (97 ≤ (pw_g h7 25 ((pw_g h7 24 2).toNat)) ∧ (pw_g h7 25 ((pw_g h7 24 2).toNat)) ≤ 122)) at hx17r
          rcases (by omega : x17 = 1 ∨ x17 = 0) with hb18 | hb18
          · skip
            refine pw_if E (pc' := 96) rfl (by decide) (by omega) (by omega) ?_ ?_
            · intro hc19
              change x17 = (0 : Int) at hc19
              exfalso; omega
            · intro hc20
              change ¬ (x17 = (0 : Int)) at hc20
              refine pw_ld E (pc' := 90) (st' := [.ref 40]) rfl (fun _ => rfl) ?_
              have he21 : pw_g h7 24 3 = pw_g h8 24 2 := by rw [← h7w]; exact pw_g_eq (c := 24) (k := 3) I8 rfl rfl (by omega) (by omega)
              obtain ⟨f22l, f22h, -⟩ := pw_obj (c := 24) h7I rfl
              have hidx : pw_g h7 25 (pw_g h7 24 3).toNat = pw_g h7 25 (pw_g h7 24 2).toNat := by rw [show pw_g h7 24 3 = pw_g h7 24 2 by omega]
              refine pw_call (m' := 104) (As := [.ref 40]) (rest := []) (ls'' := [some (.ref 40)]) (Nat.le_trans (by decide) hd) E rfl (fun _ => pw_iV rfl rfl rfl rfl (pw_cellI f22h rfl)) (rfl : pm_ent 104 = some (1, 1, 9, 4, pmc_104)) rfl rfl (cm_104_24 (pw_dp hd (by decide)) h7I (by omega) (by omega)) ?_
              rintro h23 v24 ⟨h23I, h23E, hq25, rfl⟩
              refine ⟨_, rfl, ?_⟩
              have h23F := h7F.tr (h23E.wk (W' := [24]) (by first | rfl | simp))
              show pw X d h23 101 93 [some (.ref 40)] [] _
              refine pw_goto E (pc' := 167) rfl (by decide) ?_
              refine pw_vret E rfl ?_
              exact ⟨h23I, h23F, ⟨by omega, rfl⟩⟩
          · skip
            refine pw_if E (pc' := 96) rfl (by decide) (by omega) (by omega) ?_ ?_
            · intro hc27
              change x17 = (0 : Int) at hc27
              refine pw_ld E (pc' := 97) (st' := [.ref 40]) rfl (fun _ => rfl) ?_
              refine pw_getR (b := 41) h7I E (c := 24) (k := 0) (pc' := 100) rfl rfl rfl rfl rfl rfl rfl ?_
              refine pw_ld E (pc' := 101) (st' := [.ref 40, .ref 41]) rfl (fun _ => rfl) ?_
              refine pw_getI2 h7I E (c := 24) (k := 2) (pc' := 104) rfl rfl rfl rfl rfl rfl (fun hf28a hf28b => ?_)
              refine pw_ald2 h7I E (c := 25) (pc' := 105) rfl rfl rfl (by decide) rfl (by decide) (by omega) (by omega) rfl (fun hf29a hf29b => ?_)
              refine pw_call (m' := 105) (As := [pw_i (pw_g h7 25 ((pw_g h7 24 2).toNat))]) (rest := []) (ls'' := [some (pw_i (pw_g h7 25 ((pw_g h7 24 2).toNat)))]) (Nat.le_trans (by decide) hd) E rfl (fun _ => pw_iS rfl rfl rfl) (rfl : pm_ent 105 = some (1, 1, 9, 1, pmc_105)) rfl rfl (cm_105_24 (pw_dp hd (by decide)) h7I (pw_g h7 25 ((pw_g h7 24 2).toNat)) (by omega) (by omega)) ?_
              rintro u31 v30 ⟨rfl, x32, rfl, hx32a, hx32b, hx32r⟩
              refine ⟨_, rfl, ?_⟩
              show pw X d h7 101 108 [some (.ref 40)] [pw_i x32] _
              change (x32 = 1 ∧ 48 ≤ (pw_g h7 25 ((pw_g h7 24 2).toNat)) ∧ (pw_g h7 25 ((pw_g h7 24 2).toNat)) ≤ 57) ∨ (x32 = 0 ∧ ¬ (48 ≤ (pw_g h7 25 ((pw_g h7 24 2).toNat)) ∧ (pw_g h7 25 ((pw_g h7 24 2).toNat)) ≤ 57)) at hx32r
              rcases (by omega : x32 = 1 ∨ x32 = 0) with hb33 | hb33
              · skip
                refine pw_if E (pc' := 118) rfl (by decide) (by omega) (by omega) ?_ ?_
                · intro hc34
                  change x32 = (0 : Int) at hc34
                  exfalso; omega
                · intro hc35
                  change ¬ (x32 = (0 : Int)) at hc35
                  refine pw_ld E (pc' := 112) (st' := [.ref 40]) rfl (fun _ => rfl) ?_
                  have he36 : pw_g h7 24 3 = pw_g h8 24 2 := by rw [← h7w]; exact pw_g_eq (c := 24) (k := 3) I8 rfl rfl (by omega) (by omega)
                  obtain ⟨f37l, f37h, -⟩ := pw_obj (c := 24) h7I rfl
                  have hidx : pw_g h7 25 (pw_g h7 24 3).toNat = pw_g h7 25 (pw_g h7 24 2).toNat := by rw [show pw_g h7 24 3 = pw_g h7 24 2 by omega]
                  refine pw_call (m' := 106) (As := [.ref 40]) (rest := []) (ls'' := [some (.ref 40)]) (Nat.le_trans (by decide) hd) E rfl (fun _ => pw_iV rfl rfl rfl rfl (pw_cellI f37h rfl)) (rfl : pm_ent 106 = some (1, 1, 9, 4, pmc_106)) rfl rfl (cm_106_24 (pw_dp hd (by decide)) h7I (by omega) (by omega) (by omega)) ?_
                  rintro h38 v39 ⟨h38I, h38E, hq40, rfl⟩
                  refine ⟨_, rfl, ?_⟩
                  have h38F := h7F.tr (h38E.wk (W' := [24]) (by first | rfl | simp))
                  show pw X d h38 101 115 [some (.ref 40)] [] _
                  refine pw_goto E (pc' := 167) rfl (by decide) ?_
                  refine pw_vret E rfl ?_
                  exact ⟨h38I, h38F, ⟨by omega, rfl⟩⟩
              · skip
                refine pw_if E (pc' := 118) rfl (by decide) (by omega) (by omega) ?_ ?_
                · intro hc42
                  change x32 = (0 : Int) at hc42
                  refine pw_ld E (pc' := 119) (st' := [.ref 40]) rfl (fun _ => rfl) ?_
                  refine pw_ld E (pc' := 120) (st' := [.ref 40, .ref 40]) rfl (fun _ => rfl) ?_
                  have he44 : pw_g h7 24 3 = pw_g h8 24 2 := by rw [← h7w]; exact pw_g_eq (c := 24) (k := 3) I8 rfl rfl (by omega) (by omega)
                  refine pw_getI2 h7I E (c := 24) (k := 3) (pc' := 123) rfl rfl rfl rfl rfl rfl (fun hf43a hf43b => ?_)
                  refine pw_ld E (pc' := 124) (st' := [pw_i 1, pw_i (pw_g h7 24 3), .ref 40]) rfl (fun _ => rfl) ?_
                  refine pw_add E (pc' := 125) rfl rfl ?_
                  refine pw_putI h7I E (c := 24) (k := 3) (pc' := 128) rfl rfl rfl rfl (by omega) (by omega) (by omega) (by omega) rfl rfl ?_
                  intro h45I h45E
                  generalize h45w : pw_w h7 24 3 (pw_i ((pw_g h7 24 3) + 1)) = h45 at h45I h45E ⊢
                  have h45F := h7F.tr (h45E.wk (W' := [24]) (by first | rfl | simp))
                  refine pw_ld E (pc' := 129) (st' := [.ref 40]) rfl (fun _ => rfl) ?_
                  refine pw_ld E (pc' := 130) (st' := [.ref 40, .ref 40]) rfl (fun _ => rfl) ?_
                  refine pw_getR (b := 41) h45I E (c := 24) (k := 0) (pc' := 133) rfl rfl rfl rfl rfl rfl rfl ?_
                  refine pw_ld E (pc' := 134) (st' := [.ref 40, .ref 41, .ref 40]) rfl (fun _ => rfl) ?_
                  have he47 : pw_g h45 24 2 = pw_g h7 24 2 := by rw [← h45w]; exact pw_g_ne (by omega)
                  refine pw_getI2 h45I E (c := 24) (k := 2) (pc' := 137) rfl rfl rfl rfl rfl rfl (fun hf46a hf46b => ?_)
                  refine pw_ald2 h45I E (c := 25) (pc' := 138) rfl rfl rfl (by decide) rfl (by decide) (by omega) (by omega) rfl (fun hf48a hf48b => ?_)
                  refine pw_putI h45I E (c := 24) (k := 5) (pc' := 141) rfl rfl rfl rfl (by omega) (by omega) (by omega) (by omega) rfl rfl ?_
                  intro h49I h49E
                  generalize h49w : pw_w h45 24 5 (pw_i (pw_g h45 25 ((pw_g h45 24 2).toNat))) = h49 at h49I h49E ⊢
                  have h49F := h45F.tr (h49E.wk (W' := [24]) (by first | rfl | simp))
                  refine pw_ld E (pc' := 142) (st' := [.ref 40]) rfl (fun _ => rfl) ?_
                  refine pw_ld E (pc' := 144) (st' := [.ref 8, .ref 40]) rfl (fun _ => rfl) ?_
                  refine pw_ld E (pc' := 145) (st' := [.ref 40, .ref 8, .ref 40]) rfl (fun _ => rfl) ?_
                  refine pw_getR (b := 41) h49I E (c := 24) (k := 0) (pc' := 148) rfl rfl rfl rfl rfl rfl rfl ?_
                  refine pw_ld E (pc' := 149) (st' := [.ref 40, .ref 41, .ref 8, .ref 40]) rfl (fun _ => rfl) ?_
                  have he51 : pw_g h49 24 2 = pw_g h45 24 2 := by rw [← h49w]; exact pw_g_ne (by omega)
                  refine pw_getI2 h49I E (c := 24) (k := 2) (pc' := 152) rfl rfl rfl rfl rfl rfl (fun hf50a hf50b => ?_)
                  refine pw_ald2 h49I E (c := 25) (pc' := 153) rfl rfl rfl (by decide) rfl (by decide) (by omega) (by omega) rfl (fun hf52a hf52b => ?_)
                  obtain ⟨y53l, y53s, y53n, y53i⟩ := pw_sxk (p := 8) hX (by omega) (by omega)
                  refine pw_sidx E rfl rfl y53s rfl (fun x54 hx54a hx54b => ?_)
                  refine pw_if E (pc' := 163) rfl (by decide) (by omega) (by omega) ?_ ?_
                  · intro hc55
                    change x54 < (0 : Int) at hc55
                    refine pw_ld E (pc' := 164) (st' := [pw_i 0, .ref 40]) rfl (fun _ => rfl) ?_
                    refine pw_putI h49I E (c := 24) (k := 4) (pc' := 167) rfl rfl rfl rfl (by omega) (by omega) (by omega) (by omega) rfl rfl ?_
                    intro h56I h56E
                    generalize h56w : pw_w h49 24 4 (pw_i 0) = h56 at h56I h56E ⊢
                    have h56F := h49F.tr (h56E.wk (W' := [24]) (by first | rfl | simp))
                    have he57 : pw_g h56 24 3 = pw_g h49 24 3 := by rw [← h56w]; exact pw_g_ne (by omega)
                    have he58 : pw_g h49 24 3 = pw_g h45 24 3 := by rw [← h49w]; exact pw_g_ne (by omega)
                    have he59 : pw_g h45 24 3 = (pw_g h7 24 3) + 1 := by rw [← h45w]; exact pw_g_eq (c := 24) (k := 3) h7I rfl rfl (by omega) (by omega)
                    have he60 : pw_g h56 24 4 = 0 := by rw [← h56w]; exact pw_g_eq (c := 24) (k := 4) h49I rfl rfl (by omega) (by omega)
                    have he61 : pw_g h56 24 5 = pw_g h49 24 5 := by rw [← h56w]; exact pw_g_ne (by omega)
                    have he62 : pw_g h49 24 5 = pw_g h45 25 ((pw_g h45 24 2).toNat) := by rw [← h49w]; exact pw_g_eq (c := 24) (k := 5) h45I rfl rfl (by omega) (by omega)
                    refine pw_vret E rfl ?_
                    exact ⟨h56I, h56F, ⟨by omega, rfl⟩⟩
                  · intro hc63
                    change ¬ (x54 < (0 : Int)) at hc63
                    refine pw_ld E (pc' := 160) (st' := [pw_i 3, .ref 40]) rfl (fun _ => rfl) ?_
                    refine pw_goto E (pc' := 164) rfl (by decide) ?_
                    refine pw_putI h49I E (c := 24) (k := 4) (pc' := 167) rfl rfl rfl rfl (by omega) (by omega) (by omega) (by omega) rfl rfl ?_
                    intro h64I h64E
                    generalize h64w : pw_w h49 24 4 (pw_i 3) = h64 at h64I h64E ⊢
                    have h64F := h49F.tr (h64E.wk (W' := [24]) (by first | rfl | simp))
                    have he65 : pw_g h64 24 3 = pw_g h49 24 3 := by rw [← h64w]; exact pw_g_ne (by omega)
                    have he66 : pw_g h49 24 3 = pw_g h45 24 3 := by rw [← h49w]; exact pw_g_ne (by omega)
                    have he67 : pw_g h45 24 3 = (pw_g h7 24 3) + 1 := by rw [← h45w]; exact pw_g_eq (c := 24) (k := 3) h7I rfl rfl (by omega) (by omega)
                    have he68 : pw_g h64 24 4 = 3 := by rw [← h64w]; exact pw_g_eq (c := 24) (k := 4) h49I rfl rfl (by omega) (by omega)
                    have he69 : pw_g h64 24 5 = pw_g h49 24 5 := by rw [← h64w]; exact pw_g_ne (by omega)
                    have he70 : pw_g h49 24 5 = pw_g h45 25 ((pw_g h45 24 2).toNat) := by rw [← h49w]; exact pw_g_eq (c := 24) (k := 5) h45I rfl rfl (by omega) (by omega)
                    refine pw_vret E rfl ?_
                    exact ⟨h64I, h64F, ⟨by omega, rfl⟩⟩
                · intro hc71
                  change ¬ (x32 = (0 : Int)) at hc71
                  exfalso; omega
            · intro hc72
              change ¬ (x17 = (0 : Int)) at hc72
              exfalso; omega
        · intro hc73
          change ¬ (pw_g h7 24 2 < pw_g h7 24 1) at hc73
          refine pw_ld E (pc' := 67) (st' := [.ref 40]) rfl (fun _ => rfl) ?_
          refine pw_ld E (pc' := 68) (st' := [pw_i 4, .ref 40]) rfl (fun _ => rfl) ?_
          refine pw_putI h7I E (c := 24) (k := 4) (pc' := 71) rfl rfl rfl rfl (by omega) (by omega) (by omega) (by omega) rfl rfl ?_
          intro h74I h74E
          generalize h74w : pw_w h7 24 4 (pw_i 4) = h74 at h74I h74E ⊢
          have h74F := h7F.tr (h74E.wk (W' := [24]) (by first | rfl | simp))
          refine pw_goto E (pc' := 167) rfl (by decide) ?_
          have he75 : pw_g h74 24 3 = pw_g h7 24 3 := by rw [← h74w]; exact pw_g_ne (by omega)
          have he76 : pw_g h7 24 3 = pw_g h8 24 2 := by rw [← h7w]; exact pw_g_eq (c := 24) (k := 3) I8 rfl rfl (by omega) (by omega)
          have he77 : pw_g h74 24 4 = 4 := by rw [← h74w]; exact pw_g_eq (c := 24) (k := 4) h7I rfl rfl (by omega) (by omega)
          refine pw_vret E rfl ?_
          exact ⟨h74I, h74F, ⟨by omega, rfl⟩⟩
      · intro hc78
        change ¬ (pw_g h8 24 1 ≤ pw_g h8 24 2) at hc78
        refine pw_ld E (pc' := 20) (st' := [.ref 40]) rfl (fun _ => rfl) ?_
        refine pw_getR (b := 41) I8 E (c := 24) (k := 0) (pc' := 23) rfl rfl rfl rfl rfl rfl rfl ?_
        refine pw_ld E (pc' := 24) (st' := [.ref 40, .ref 41]) rfl (fun _ => rfl) ?_
        refine pw_getI2 I8 E (c := 24) (k := 2) (pc' := 27) rfl rfl rfl rfl rfl rfl (fun hf79a hf79b => ?_)
        refine pw_ald2 I8 E (c := 25) (pc' := 28) rfl rfl rfl (by decide) rfl (by decide) (by omega) (by omega) rfl (fun hf80a hf80b => ?_)
        refine pw_call (m' := 102) (As := [pw_i (pw_g h8 25 ((pw_g h8 24 2).toNat))]) (rest := []) (ls'' := [some (pw_i (pw_g h8 25 ((pw_g h8 24 2).toNat)))]) (Nat.le_trans (by decide) hd) E rfl (fun _ => pw_iS rfl rfl rfl) (rfl : pm_ent 102 = some (1, 1, 9, 1, pmc_102)) rfl rfl (cm_102 (pw_dp hd (by decide)) I8 (pw_g h8 25 ((pw_g h8 24 2).toNat)) (by omega) (by omega)) ?_
        rintro u82 v81 ⟨rfl, x83, rfl, hx83a, hx83b⟩
        refine ⟨_, rfl, ?_⟩
        show pw X d h8 101 31 [some (.ref 40)] [pw_i x83] _
        refine pw_if E (pc' := 47) rfl (by decide) (by omega) (by omega) ?_ ?_
        · intro hc84
          change x83 = (0 : Int) at hc84
          refine pw_ld E (pc' := 48) (st' := [.ref 40]) rfl (fun _ => rfl) ?_
          refine pw_ld E (pc' := 49) (st' := [.ref 40, .ref 40]) rfl (fun _ => rfl) ?_
          refine pw_getI2 I8 E (c := 24) (k := 2) (pc' := 52) rfl rfl rfl rfl rfl rfl (fun hf85a hf85b => ?_)
          refine pw_putI I8 E (c := 24) (k := 3) (pc' := 55) rfl rfl rfl rfl (by omega) (by omega) (by omega) (by omega) rfl rfl ?_
          intro h86I h86E
          generalize h86w : pw_w h8 24 3 (pw_i (pw_g h8 24 2)) = h86 at h86I h86E ⊢
          have h86F := E8.tr (h86E.wk (W' := [24]) (by first | rfl | simp))
          refine pw_ld E (pc' := 56) (st' := [.ref 40]) rfl (fun _ => rfl) ?_
          have he88 : pw_g h86 24 2 = pw_g h8 24 2 := by rw [← h86w]; exact pw_g_ne (by omega)
          refine pw_getI2 h86I E (c := 24) (k := 2) (pc' := 59) rfl rfl rfl rfl rfl rfl (fun hf87a hf87b => ?_)
          refine pw_ld E (pc' := 60) (st' := [.ref 40, pw_i (pw_g h86 24 2)]) rfl (fun _ => rfl) ?_
          have he90 : pw_g h86 24 1 = pw_g h8 24 1 := by rw [← h86w]; exact pw_g_ne (by omega)
          refine pw_getI2 h86I E (c := 24) (k := 1) (pc' := 63) rfl rfl rfl rfl rfl rfl (fun hf89a hf89b => ?_)
          refine pw_if2 E (pc' := 74) rfl (by decide) (by omega) (by omega) (by omega) (by omega) ?_ ?_
          · intro hc91
            change pw_g h86 24 2 < pw_g h86 24 1 at hc91
            refine pw_ld E (pc' := 75) (st' := [.ref 40]) rfl (fun _ => rfl) ?_
            refine pw_getR (b := 41) h86I E (c := 24) (k := 0) (pc' := 78) rfl rfl rfl rfl rfl rfl rfl ?_
            refine pw_ld E (pc' := 79) (st' := [.ref 40, .ref 41]) rfl (fun _ => rfl) ?_
            refine pw_getI2 h86I E (c := 24) (k := 2) (pc' := 82) rfl rfl rfl rfl rfl rfl (fun hf92a hf92b => ?_)
            refine pw_ald2 h86I E (c := 25) (pc' := 83) rfl rfl rfl (by decide) rfl (by decide) (by omega) (by omega) rfl (fun hf93a hf93b => ?_)
            refine pw_call (m' := 103) (As := [pw_i (pw_g h86 25 ((pw_g h86 24 2).toNat))]) (rest := []) (ls'' := [some (pw_i (pw_g h86 25 ((pw_g h86 24 2).toNat)))]) (Nat.le_trans (by decide) hd) E rfl (fun _ => pw_iS rfl rfl rfl) (rfl : pm_ent 103 = some (1, 1, 9, 1, pmc_103)) rfl rfl (cm_103_24 (pw_dp hd (by decide)) h86I (pw_g h86 25 ((pw_g h86 24 2).toNat)) (by omega) (by omega)) ?_
            rintro u95 v94 ⟨rfl, x96, rfl, hx96a, hx96b, hx96r⟩
            refine ⟨_, rfl, ?_⟩
            show pw X d h86 101 86 [some (.ref 40)] [pw_i x96] _
            change (x96 = 1 ∧ 97 ≤ (pw_g h86 25 ((pw_g h86 24 2).toNat)) ∧ (pw_g h86 25 ((pw_g h86 24 2).toNat)) ≤ 122) ∨ (x96 = 0 ∧ ¬ (97 ≤ (pw_g h86 25 ((pw_g h86 24 2).toNat)) ∧ (pw_g h86 25 ((pw_g h86 24 2).toNat)) ≤ 122)) at hx96r
            rcases (by omega : x96 = 1 ∨ x96 = 0) with hb97 | hb97
            · skip
              refine pw_if E (pc' := 96) rfl (by decide) (by omega) (by omega) ?_ ?_
              · intro hc98
                change x96 = (0 : Int) at hc98
                exfalso; omega
              · intro hc99
                change ¬ (x96 = (0 : Int)) at hc99
                refine pw_ld E (pc' := 90) (st' := [.ref 40]) rfl (fun _ => rfl) ?_
                have he100 : pw_g h86 24 3 = pw_g h8 24 2 := by rw [← h86w]; exact pw_g_eq (c := 24) (k := 3) I8 rfl rfl (by omega) (by omega)
                obtain ⟨f101l, f101h, -⟩ := pw_obj (c := 24) h86I rfl
                have hidx : pw_g h86 25 (pw_g h86 24 3).toNat = pw_g h86 25 (pw_g h86 24 2).toNat := by rw [show pw_g h86 24 3 = pw_g h86 24 2 by omega]
                refine pw_call (m' := 104) (As := [.ref 40]) (rest := []) (ls'' := [some (.ref 40)]) (Nat.le_trans (by decide) hd) E rfl (fun _ => pw_iV rfl rfl rfl rfl (pw_cellI f101h rfl)) (rfl : pm_ent 104 = some (1, 1, 9, 4, pmc_104)) rfl rfl (cm_104_24 (pw_dp hd (by decide)) h86I (by omega) (by omega)) ?_
                rintro h102 v103 ⟨h102I, h102E, hq104, rfl⟩
                refine ⟨_, rfl, ?_⟩
                have h102F := h86F.tr (h102E.wk (W' := [24]) (by first | rfl | simp))
                show pw X d h102 101 93 [some (.ref 40)] [] _
                refine pw_goto E (pc' := 167) rfl (by decide) ?_
                refine pw_vret E rfl ?_
                exact ⟨h102I, h102F, ⟨by omega, rfl⟩⟩
            · skip
              refine pw_if E (pc' := 96) rfl (by decide) (by omega) (by omega) ?_ ?_
              · intro hc106
                change x96 = (0 : Int) at hc106
                refine pw_ld E (pc' := 97) (st' := [.ref 40]) rfl (fun _ => rfl) ?_
                refine pw_getR (b := 41) h86I E (c := 24) (k := 0) (pc' := 100) rfl rfl rfl rfl rfl rfl rfl ?_
                refine pw_ld E (pc' := 101) (st' := [.ref 40, .ref 41]) rfl (fun _ => rfl) ?_
                refine pw_getI2 h86I E (c := 24) (k := 2) (pc' := 104) rfl rfl rfl rfl rfl rfl (fun hf107a hf107b => ?_)
                refine pw_ald2 h86I E (c := 25) (pc' := 105) rfl rfl rfl (by decide) rfl (by decide) (by omega) (by omega) rfl (fun hf108a hf108b => ?_)
                refine pw_call (m' := 105) (As := [pw_i (pw_g h86 25 ((pw_g h86 24 2).toNat))]) (rest := []) (ls'' := [some (pw_i (pw_g h86 25 ((pw_g h86 24 2).toNat)))]) (Nat.le_trans (by decide) hd) E rfl (fun _ => pw_iS rfl rfl rfl) (rfl : pm_ent 105 = some (1, 1, 9, 1, pmc_105)) rfl rfl (cm_105_24 (pw_dp hd (by decide)) h86I (pw_g h86 25 ((pw_g h86 24 2).toNat)) (by omega) (by omega)) ?_
                rintro u110 v109 ⟨rfl, x111, rfl, hx111a, hx111b, hx111r⟩
                refine ⟨_, rfl, ?_⟩
                show pw X d h86 101 108 [some (.ref 40)] [pw_i x111] _
                change (x111 = 1 ∧ 48 ≤ (pw_g h86 25 ((pw_g h86 24 2).toNat)) ∧ (pw_g h86 25 ((pw_g h86 24 2).toNat)) ≤ 57) ∨ (x111 = 0 ∧ ¬ (48 ≤ (pw_g h86 25 ((pw_g h86 24 2).toNat)) ∧ (pw_g h86 25 ((pw_g h86 24 2).toNat)) ≤ 57)) at hx111r
                rcases (by omega : x111 = 1 ∨ x111 = 0) with hb112 | hb112
                · skip
                  refine pw_if E (pc' := 118) rfl (by decide) (by omega) (by omega) ?_ ?_
                  · intro hc113
                    change x111 = (0 : Int) at hc113
                    exfalso; omega
                  · intro hc114
                    change ¬ (x111 = (0 : Int)) at hc114
                    refine pw_ld E (pc' := 112) (st' := [.ref 40]) rfl (fun _ => rfl) ?_
                    have he115 : pw_g h86 24 3 = pw_g h8 24 2 := by rw [← h86w]; exact pw_g_eq (c := 24) (k := 3) I8 rfl rfl (by omega) (by omega)
                    obtain ⟨f116l, f116h, -⟩ := pw_obj (c := 24) h86I rfl
                    have hidx : pw_g h86 25 (pw_g h86 24 3).toNat = pw_g h86 25 (pw_g h86 24 2).toNat := by rw [show pw_g h86 24 3 = pw_g h86 24 2 by omega]
                    refine pw_call (m' := 106) (As := [.ref 40]) (rest := []) (ls'' := [some (.ref 40)]) (Nat.le_trans (by decide) hd) E rfl (fun _ => pw_iV rfl rfl rfl rfl (pw_cellI f116h rfl)) (rfl : pm_ent 106 = some (1, 1, 9, 4, pmc_106)) rfl rfl (cm_106_24 (pw_dp hd (by decide)) h86I (by omega) (by omega) (by omega)) ?_
                    rintro h117 v118 ⟨h117I, h117E, hq119, rfl⟩
                    refine ⟨_, rfl, ?_⟩
                    have h117F := h86F.tr (h117E.wk (W' := [24]) (by first | rfl | simp))
                    show pw X d h117 101 115 [some (.ref 40)] [] _
                    refine pw_goto E (pc' := 167) rfl (by decide) ?_
                    refine pw_vret E rfl ?_
                    exact ⟨h117I, h117F, ⟨by omega, rfl⟩⟩
                · skip
                  refine pw_if E (pc' := 118) rfl (by decide) (by omega) (by omega) ?_ ?_
                  · intro hc121
                    change x111 = (0 : Int) at hc121
                    refine pw_ld E (pc' := 119) (st' := [.ref 40]) rfl (fun _ => rfl) ?_
                    refine pw_ld E (pc' := 120) (st' := [.ref 40, .ref 40]) rfl (fun _ => rfl) ?_
                    have he123 : pw_g h86 24 3 = pw_g h8 24 2 := by rw [← h86w]; exact pw_g_eq (c := 24) (k := 3) I8 rfl rfl (by omega) (by omega)
                    refine pw_getI2 h86I E (c := 24) (k := 3) (pc' := 123) rfl rfl rfl rfl rfl rfl (fun hf122a hf122b => ?_)
                    refine pw_ld E (pc' := 124) (st' := [pw_i 1, pw_i (pw_g h86 24 3), .ref 40]) rfl (fun _ => rfl) ?_
                    refine pw_add E (pc' := 125) rfl rfl ?_
                    refine pw_putI h86I E (c := 24) (k := 3) (pc' := 128) rfl rfl rfl rfl (by omega) (by omega) (by omega) (by omega) rfl rfl ?_
                    intro h124I h124E
                    generalize h124w : pw_w h86 24 3 (pw_i ((pw_g h86 24 3) + 1)) = h124 at h124I h124E ⊢
                    have h124F := h86F.tr (h124E.wk (W' := [24]) (by first | rfl | simp))
                    refine pw_ld E (pc' := 129) (st' := [.ref 40]) rfl (fun _ => rfl) ?_
                    refine pw_ld E (pc' := 130) (st' := [.ref 40, .ref 40]) rfl (fun _ => rfl) ?_
                    refine pw_getR (b := 41) h124I E (c := 24) (k := 0) (pc' := 133) rfl rfl rfl rfl rfl rfl rfl ?_
                    refine pw_ld E (pc' := 134) (st' := [.ref 40, .ref 41, .ref 40]) rfl (fun _ => rfl) ?_
                    have he126 : pw_g h124 24 2 = pw_g h86 24 2 := by rw [← h124w]; exact pw_g_ne (by omega)
                    refine pw_getI2 h124I E (c := 24) (k := 2) (pc' := 137) rfl rfl rfl rfl rfl rfl (fun hf125a hf125b => ?_)
                    refine pw_ald2 h124I E (c := 25) (pc' := 138) rfl rfl rfl (by decide) rfl (by decide) (by omega) (by omega) rfl (fun hf127a hf127b => ?_)
                    refine pw_putI h124I E (c := 24) (k := 5) (pc' := 141) rfl rfl rfl rfl (by omega) (by omega) (by omega) (by omega) rfl rfl ?_
                    intro h128I h128E
                    generalize h128w : pw_w h124 24 5 (pw_i (pw_g h124 25 ((pw_g h124 24 2).toNat))) = h128 at h128I h128E ⊢
                    have h128F := h124F.tr (h128E.wk (W' := [24]) (by first | rfl | simp))
                    refine pw_ld E (pc' := 142) (st' := [.ref 40]) rfl (fun _ => rfl) ?_
                    refine pw_ld E (pc' := 144) (st' := [.ref 8, .ref 40]) rfl (fun _ => rfl) ?_
                    refine pw_ld E (pc' := 145) (st' := [.ref 40, .ref 8, .ref 40]) rfl (fun _ => rfl) ?_
                    refine pw_getR (b := 41) h128I E (c := 24) (k := 0) (pc' := 148) rfl rfl rfl rfl rfl rfl rfl ?_
                    refine pw_ld E (pc' := 149) (st' := [.ref 40, .ref 41, .ref 8, .ref 40]) rfl (fun _ => rfl) ?_
                    have he130 : pw_g h128 24 2 = pw_g h124 24 2 := by rw [← h128w]; exact pw_g_ne (by omega)
                    refine pw_getI2 h128I E (c := 24) (k := 2) (pc' := 152) rfl rfl rfl rfl rfl rfl (fun hf129a hf129b => ?_)
                    refine pw_ald2 h128I E (c := 25) (pc' := 153) rfl rfl rfl (by decide) rfl (by decide) (by omega) (by omega) rfl (fun hf131a hf131b => ?_)
                    obtain ⟨y132l, y132s, y132n, y132i⟩ := pw_sxk (p := 8) hX (by omega) (by omega)
                    refine pw_sidx E rfl rfl y132s rfl (fun x133 hx133a hx133b => ?_)
                    refine pw_if E (pc' := 163) rfl (by decide) (by omega) (by omega) ?_ ?_
                    · intro hc134
                      change x133 < (0 : Int) at hc134
                      refine pw_ld E (pc' := 164) (st' := [pw_i 0, .ref 40]) rfl (fun _ => rfl) ?_
                      refine pw_putI h128I E (c := 24) (k := 4) (pc' := 167) rfl rfl rfl rfl (by omega) (by omega) (by omega) (by omega) rfl rfl ?_
                      intro h135I h135E
                      generalize h135w : pw_w h128 24 4 (pw_i 0) = h135 at h135I h135E ⊢
                      have h135F := h128F.tr (h135E.wk (W' := [24]) (by first | rfl | simp))
                      have he136 : pw_g h135 24 3 = pw_g h128 24 3 := by rw [← h135w]; exact pw_g_ne (by omega)
                      have he137 : pw_g h128 24 3 = pw_g h124 24 3 := by rw [← h128w]; exact pw_g_ne (by omega)
                      have he138 : pw_g h124 24 3 = (pw_g h86 24 3) + 1 := by rw [← h124w]; exact pw_g_eq (c := 24) (k := 3) h86I rfl rfl (by omega) (by omega)
                      have he139 : pw_g h135 24 4 = 0 := by rw [← h135w]; exact pw_g_eq (c := 24) (k := 4) h128I rfl rfl (by omega) (by omega)
                      have he140 : pw_g h135 24 5 = pw_g h128 24 5 := by rw [← h135w]; exact pw_g_ne (by omega)
                      have he141 : pw_g h128 24 5 = pw_g h124 25 ((pw_g h124 24 2).toNat) := by rw [← h128w]; exact pw_g_eq (c := 24) (k := 5) h124I rfl rfl (by omega) (by omega)
                      refine pw_vret E rfl ?_
                      exact ⟨h135I, h135F, ⟨by omega, rfl⟩⟩
                    · intro hc142
                      change ¬ (x133 < (0 : Int)) at hc142
                      refine pw_ld E (pc' := 160) (st' := [pw_i 3, .ref 40]) rfl (fun _ => rfl) ?_
                      refine pw_goto E (pc' := 164) rfl (by decide) ?_
                      refine pw_putI h128I E (c := 24) (k := 4) (pc' := 167) rfl rfl rfl rfl (by omega) (by omega) (by omega) (by omega) rfl rfl ?_
                      intro h143I h143E
                      generalize h143w : pw_w h128 24 4 (pw_i 3) = h143 at h143I h143E ⊢
                      have h143F := h128F.tr (h143E.wk (W' := [24]) (by first | rfl | simp))
                      have he144 : pw_g h143 24 3 = pw_g h128 24 3 := by rw [← h143w]; exact pw_g_ne (by omega)
                      have he145 : pw_g h128 24 3 = pw_g h124 24 3 := by rw [← h128w]; exact pw_g_ne (by omega)
                      have he146 : pw_g h124 24 3 = (pw_g h86 24 3) + 1 := by rw [← h124w]; exact pw_g_eq (c := 24) (k := 3) h86I rfl rfl (by omega) (by omega)
                      have he147 : pw_g h143 24 4 = 3 := by rw [← h143w]; exact pw_g_eq (c := 24) (k := 4) h128I rfl rfl (by omega) (by omega)
                      have he148 : pw_g h143 24 5 = pw_g h128 24 5 := by rw [← h143w]; exact pw_g_ne (by omega)
                      have he149 : pw_g h128 24 5 = pw_g h124 25 ((pw_g h124 24 2).toNat) := by rw [← h128w]; exact pw_g_eq (c := 24) (k := 5) h124I rfl rfl (by omega) (by omega)
                      refine pw_vret E rfl ?_
                      exact ⟨h143I, h143F, ⟨by omega, rfl⟩⟩
                  · intro hc150
                    change ¬ (x111 = (0 : Int)) at hc150
                    exfalso; omega
              · intro hc151
                change ¬ (x96 = (0 : Int)) at hc151
                exfalso; omega
          · intro hc152
            change ¬ (pw_g h86 24 2 < pw_g h86 24 1) at hc152
            refine pw_ld E (pc' := 67) (st' := [.ref 40]) rfl (fun _ => rfl) ?_
            refine pw_ld E (pc' := 68) (st' := [pw_i 4, .ref 40]) rfl (fun _ => rfl) ?_
            refine pw_putI h86I E (c := 24) (k := 4) (pc' := 71) rfl rfl rfl rfl (by omega) (by omega) (by omega) (by omega) rfl rfl ?_
            intro h153I h153E
            generalize h153w : pw_w h86 24 4 (pw_i 4) = h153 at h153I h153E ⊢
            have h153F := h86F.tr (h153E.wk (W' := [24]) (by first | rfl | simp))
            refine pw_goto E (pc' := 167) rfl (by decide) ?_
            have he154 : pw_g h153 24 3 = pw_g h86 24 3 := by rw [← h153w]; exact pw_g_ne (by omega)
            have he155 : pw_g h86 24 3 = pw_g h8 24 2 := by rw [← h86w]; exact pw_g_eq (c := 24) (k := 3) I8 rfl rfl (by omega) (by omega)
            have he156 : pw_g h153 24 4 = 4 := by rw [← h153w]; exact pw_g_eq (c := 24) (k := 4) h86I rfl rfl (by omega) (by omega)
            refine pw_vret E rfl ?_
            exact ⟨h153I, h153F, ⟨by omega, rfl⟩⟩
        · intro hc157
          change ¬ (x83 = (0 : Int)) at hc157
          refine pw_ld E (pc' := 35) (st' := [.ref 40]) rfl (fun _ => rfl) ?_
          refine pw_ld E (pc' := 36) (st' := [.ref 40, .ref 40]) rfl (fun _ => rfl) ?_
          refine pw_getI2 I8 E (c := 24) (k := 2) (pc' := 39) rfl rfl rfl rfl rfl rfl (fun hf158a hf158b => ?_)
          refine pw_ld E (pc' := 40) (st' := [pw_i 1, pw_i (pw_g h8 24 2), .ref 40]) rfl (fun _ => rfl) ?_
          refine pw_add E (pc' := 41) rfl rfl ?_
          refine pw_putI I8 E (c := 24) (k := 2) (pc' := 44) rfl rfl rfl rfl (by omega) (by omega) (by omega) (by omega) rfl rfl ?_
          intro h159I h159E
          generalize h159w : pw_w h8 24 2 (pw_i ((pw_g h8 24 2) + 1)) = h159 at h159I h159E ⊢
          have h159F := E8.tr (h159E.wk (W' := [24]) (by first | rfl | simp))
          refine pw_goto E (pc' := 8) rfl (by decide) ?_
          have he160 : pw_g h159 24 2 = (pw_g h8 24 2) + 1 := by rw [← h159w]; exact pw_g_eq (c := 24) (k := 2) I8 rfl rfl (by omega) (by omega)
          have he161 : pw_g h159 24 3 = pw_g h8 24 3 := by rw [← h159w]; exact pw_g_ne (by omega)
          have he162 : pw_g h159 24 1 = pw_g h8 24 1 := by rw [← h159w]; exact pw_g_ne (by omega)
          exact ih8 _ (by omega)  h159 h159I h159F  (by omega) rfl
  have he163 : pw_g h2 24 2 = pw_g h 24 3 := by rw [← h2w]; exact pw_g_eq (c := 24) (k := 2) I rfl rfl (by omega) (by omega)
  have he164 : pw_g h2 24 3 = pw_g h 24 3 := by rw [← h2w]; exact pw_g_ne (by omega)
  exact L8 _  h2 h2I h2F  (by omega) rfl
end
section
/-! the Readers: the whole text (printed by wip/tool/reader11.py) -/
theorem pw_Sr.wk {c c1 : Nat} {h : pm_H} {T T' : Int} (S : pw_Sr c c1 h T) (ht : T ≤ T') : pw_Sr c c1 h T' := ⟨by have := S.1; omega, fun hz => (S.2 hz).wk (by omega)⟩
theorem pw_SrE {c c1 : Nat} {h h' : pm_H} {T : Int} (S : pw_Sr c c1 h T) (hc : ∀ k, pw_g h' c k = pw_g h c k) (hw : ∀ j, pw_g h' c1 j = pw_g h c1 j) (hl : pw_g h' 30 1 = pw_g h 30 1) : pw_Sr c c1 h' T := by
  refine ⟨by rw [hl]; exact S.1, fun hz => ?_⟩
  rw [hc 7] at hz
  exact pw_Pof (S.2 hz) (hc 4) (hc 5) (hc 6) hw hl
set_option maxHeartbeats 4000000 in
theorem cm_44_26 {X : List (Nat × List Value)} {d : Nat} {h : pm_H} (hd : 6 ≤ d) (I : pw_I h) (hX : pw_Xk X) (hR : pw_Xr X) : pw X d h 44 0 [some (.ref 42), some (.ref 40), some (.ref 46), none, none] [] (fun h' v => pw_I h' ∧ pw_E [24, 26, 27, 30, 31, 32, 33, 34, 36] h h' ∧ ∃ a : Int, v = .inl (some (pw_i a)) ∧ (-2147483648) ≤ a ∧ a ≤ 2147483647 ∧ (a ≠ 0 ∨ pw_g h' 30 1 ≤ 999)) := by
  have E : pm_ent 44 = some (3, 5, 5, 0, pmc_44) := rfl
  have E0 : pw_E [24, 26, 27, 30, 31, 32, 33, 34, 36] h h := pw_E.rf _ _
  refine pw_ld E (pc' := 1) (st' := [.ref 46]) rfl (fun _ => rfl) ?_
  obtain ⟨f1l, f1h, -⟩ := pw_obj (c := 30) I rfl
  refine pw_call (m' := 68) (As := [.ref 46]) (rest := []) (ls'' := [some (.ref 46), none]) (Nat.le_trans (by decide) hd) E rfl (fun _ => pw_iV rfl rfl rfl rfl (pw_cellI f1h rfl)) (rfl : pm_ent 68 = some (1, 2, 7, 4, pmc_68)) rfl rfl (cm_68_30 (pw_dp hd (by decide)) I ) ?_
  rintro h2 v3 ⟨h2I, h2E, hq4, rfl⟩
  refine ⟨_, rfl, ?_⟩
  have h2F := E0.tr (h2E.wk (W' := [24, 26, 27, 30, 31, 32, 33, 34, 36]) (by first | rfl | simp))
  show pw X d h2 44 4 [some (.ref 42), some (.ref 40), some (.ref 46), none, none] [] _
  refine pw_ld E (pc' := 5) (st' := [.ref 40]) rfl (fun _ => rfl) ?_
  obtain ⟨f5l, f5h, -⟩ := pw_obj (c := 24) h2I rfl
  refine pw_call (m' := 100) (As := [.ref 40]) (rest := []) (ls'' := [some (.ref 40)]) (Nat.le_trans (by decide) hd) E rfl (fun _ => pw_iV rfl rfl rfl rfl (pw_cellI f5h rfl)) (rfl : pm_ent 100 = some (1, 1, 9, 4, pmc_100)) rfl rfl (cm_100 (pw_dp hd (by decide)) h2I ) ?_
  rintro h6 v7 ⟨h6I, h6E, rfl⟩
  refine ⟨_, rfl, ?_⟩
  have h6F := h2F.tr (h6E.wk (W' := [24, 26, 27, 30, 31, 32, 33, 34, 36]) (by first | rfl | simp))
  show pw X d h6 44 8 [some (.ref 42), some (.ref 40), some (.ref 46), none, none] [] _
  refine pw_ld E (pc' := 9) (st' := [.ref 42]) rfl (fun _ => rfl) ?_
  refine pw_ld E (pc' := 10) (st' := [pw_i 0, .ref 42]) rfl (fun _ => rfl) ?_
  refine pw_putI h6I E (c := 26) (k := 7) (pc' := 13) rfl rfl rfl rfl (by omega) (by omega) (by omega) (by omega) rfl rfl ?_
  intro h8I h8E
  generalize h8w : pw_w h6 26 7 (pw_i 0) = h8 at h8I h8E ⊢
  have h8F := h6F.tr (h8E.wk (W' := [24, 26, 27, 30, 31, 32, 33, 34, 36]) (by first | rfl | simp))
  refine pw_ld E (pc' := 14) (st' := [pw_i 0]) rfl (fun _ => rfl) ?_
  refine pw_istn E (pc' := 15) (ls' := [some (.ref 42), some (.ref 40), some (.ref 46), some (pw_i 0), none]) rfl rfl rfl rfl ?_
  have L15 : ∀ (n15 : Nat) (k15_3 : Int) (k15_4 : Option Value) (h15 : pm_H), pw_I h15 → pw_E [24, 26, 27, 30, 31, 32, 33, 34, 36] h h15 → pw_Sr 26 27 h15 (pw_g h15 24 3) → 0 ≤ k15_3 → k15_3 ≤ 1001 → (1001 - k15_3).toNat = n15 → pw X d h15 44 15 [some (.ref 42), some (.ref 40), some (.ref 46), some (pw_i k15_3), k15_4] [] (fun h' v => pw_I h' ∧ pw_E [24, 26, 27, 30, 31, 32, 33, 34, 36] h h' ∧ ∃ a : Int, v = .inl (some (pw_i a)) ∧ (-2147483648) ≤ a ∧ a ≤ 2147483647 ∧ (a ≠ 0 ∨ pw_g h' 30 1 ≤ 999)) := by
    intro n15
    induction n15 using Nat.strongRecOn with
    | ind n15 ih15 =>
      intro k15_3 k15_4 h15 I15 E15 S15 k15_3a k15_3b hm15
      have T15 := pw_gI (c := 24) (k := 3) I15 rfl rfl
      have L15a := S15.1
      refine pw_ld E (pc' := 16) (st' := [pw_i k15_3]) rfl (fun _ => rfl) ?_
      refine pw_sip E (pc' := 19) rfl rfl (by decide) ?_
      refine pw_if2 E (pc' := 66) rfl (by decide) (by omega) (by omega) (by decide) (by decide) ?_ ?_
      · intro hc9
        change (1000 : Int) < k15_3 at hc9
        refine pw_ld E (pc' := 67) (st' := [pw_i 0]) rfl (fun _ => rfl) ?_
        refine pw_iret E rfl ?_
        exact ⟨I15, E15, ⟨_, rfl, by omega, by omega, Or.inr (by omega)⟩⟩
      · intro hc10
        change ¬ ((1000 : Int) < k15_3) at hc10
        refine pw_ld E (pc' := 23) (st' := [.ref 40]) rfl (fun _ => rfl) ?_
        obtain ⟨f11l, f11h, -⟩ := pw_obj (c := 24) I15 rfl
        refine pw_call (m' := 101) (As := [.ref 40]) (rest := []) (ls'' := [some (.ref 40)]) (Nat.le_trans (by decide) hd) E rfl (fun _ => pw_iV rfl rfl rfl rfl (pw_cellI f11h rfl)) (rfl : pm_ent 101 = some (1, 1, 9, 4, pmc_101)) rfl rfl (cm_101_24 (pw_dp hd (by decide)) I15 hX ) ?_
        rintro h12 v13 ⟨h12I, h12E, hq14, rfl⟩
        refine ⟨_, rfl, ?_⟩
        have h12F := E15.tr (h12E.wk (W' := [24, 26, 27, 30, 31, 32, 33, 34, 36]) (by first | rfl | simp))
        have l12 := pw_Eg (c := 30) I15 h12E rfl rfl 1
        have S12 : pw_Sr 26 27 h12 (pw_g h15 24 3) := pw_SrE S15 (pw_Eg (c := 26) I15 h12E rfl rfl) (pw_Eg (c := 27) I15 h12E rfl rfl) l12
        show pw X d h12 44 26 [some (.ref 42), some (.ref 40), some (.ref 46), some (pw_i k15_3), k15_4] [] _
        refine pw_ld E (pc' := 27) (st' := [.ref 42]) rfl (fun _ => rfl) ?_
        refine pw_ld E (pc' := 28) (st' := [.ref 40, .ref 42]) rfl (fun _ => rfl) ?_
        refine pw_ld E (pc' := 29) (st' := [.ref 46, .ref 40, .ref 42]) rfl (fun _ => rfl) ?_
        obtain ⟨f15l, f15h, -⟩ := pw_obj (c := 26) h12I rfl
        refine pw_call (m' := 45) (As := [.ref 42, .ref 40, .ref 46]) (rest := []) (ls'' := [some (.ref 42), some (.ref 40), some (.ref 46)]) (Nat.le_trans (by decide) hd) E rfl (fun _ => pw_iV rfl rfl rfl rfl (pw_cellI f15h rfl)) (rfl : pm_ent 45 = some (3, 3, 5, 0, pmc_45)) rfl rfl (cm_45_26 (pw_dp hd (by decide)) h12I hX hR (T := pw_g h15 24 3) T15.1 hq14.2 S12) ?_
        rintro h16 v17 ⟨h16I, h16E, hp, x18, rfl, hx18a, hx18b, hz⟩
        refine ⟨_, rfl, ?_⟩
        have h16F := h12F.tr (h16E.wk (W' := [24, 26, 27, 30, 31, 32, 33, 34, 36]) (by first | rfl | simp))
        have k16 := pw_Eg (c := 24) h12I h16E rfl rfl 4
        have e16 := pw_Eg (c := 24) h12I h16E rfl rfl 3
        show pw X d h16 44 32 [some (.ref 42), some (.ref 40), some (.ref 46), some (pw_i k15_3), k15_4] [pw_i x18] _
        refine pw_ist E (pc' := 34) (ls' := [some (.ref 42), some (.ref 40), some (.ref 46), some (pw_i k15_3), some (pw_i x18)]) rfl rfl rfl rfl ?_
        refine pw_ld E (pc' := 36) (st' := [pw_i x18]) rfl (fun _ => rfl) ?_
        refine pw_if E (pc' := 50) rfl (by decide) (by omega) (by omega) ?_ ?_
        · intro hc19
          change x18 = (0 : Int) at hc19
          refine pw_ld E (pc' := 51) (st' := [.ref 40]) rfl (fun _ => rfl) ?_
          obtain ⟨f20l, f20h, -⟩ := pw_obj (c := 24) h16I rfl
          refine pw_call (m' := 107) (As := [.ref 40]) (rest := []) (ls'' := [some (.ref 40)]) (Nat.le_trans (by decide) hd) E rfl (fun _ => pw_iV rfl rfl rfl rfl (pw_cellI f20h rfl)) (rfl : pm_ent 107 = some (1, 1, 9, 0, pmc_107)) rfl rfl (cm_107_24 (pw_dp hd (by decide)) h16I ) ?_
          rintro u22 v21 ⟨rfl, x23, rfl, hx23a, hx23b, hx23r⟩
          refine ⟨_, rfl, ?_⟩
          show pw X d h16 44 54 [some (.ref 42), some (.ref 40), some (.ref 46), some (pw_i k15_3), some (pw_i x18)] [pw_i x23] _
          change x23 = pw_g h16 24 4 at hx23r
          refine pw_ld E (pc' := 55) (st' := [pw_i 4, pw_i x23]) rfl (fun _ => rfl) ?_
          refine pw_if2 E (pc' := 60) rfl (by decide) (by omega) (by omega) (by decide) (by decide) ?_ ?_
          · intro hc24
            change x23 ≠ (4 : Int) at hc24
            refine pw_inc E (pc' := 63) (ls' := [some (.ref 42), some (.ref 40), some (.ref 46), some (pw_i (k15_3 + 1)), some (pw_i x18)]) rfl rfl rfl rfl ?_
            refine pw_goto E (pc' := 15) rfl (by decide) ?_
            exact ih15 _ (by omega) (k15_3 + 1) (some (pw_i x18)) h16 h16I h16F (hp.wk (by omega)) (by omega) (by omega)  rfl
          · intro hc25
            change ¬ (x23 ≠ (4 : Int)) at hc25
            refine pw_ld E (pc' := 59) (st' := [pw_i 0]) rfl (fun _ => rfl) ?_
            refine pw_iret E rfl ?_
            exact ⟨h16I, h16F, ⟨_, rfl, by omega, by omega, Or.inr (by omega)⟩⟩
        · intro hc26
          change ¬ (x18 = (0 : Int)) at hc26
          refine pw_ld E (pc' := 41) (st' := [pw_i x18]) rfl (fun _ => rfl) ?_
          refine pw_bip E (pc' := 43) rfl rfl (by decide) ?_
          refine pw_ld E (pc' := 44) (st' := [.ref 40, pw_i 16, pw_i x18]) rfl (fun _ => rfl) ?_
          obtain ⟨f27l, f27h, -⟩ := pw_obj (c := 24) h16I rfl
          refine pw_call (m' := 111) (As := [.ref 40]) (rest := [pw_i 16, pw_i x18]) (ls'' := [some (.ref 40)]) (Nat.le_trans (by decide) hd) E rfl (fun _ => pw_iV rfl rfl rfl rfl (pw_cellI f27h rfl)) (rfl : pm_ent 111 = some (1, 1, 9, 0, pmc_111)) rfl rfl (cm_111 (pw_dp hd (by decide)) h16I ) ?_
          rintro u29 v28 ⟨rfl, x30, rfl, hx30a, hx30b⟩
          refine ⟨_, rfl, ?_⟩
          show pw X d h16 44 47 [some (.ref 42), some (.ref 40), some (.ref 46), some (pw_i k15_3), some (pw_i x18)] [pw_i x30, pw_i 16, pw_i x18] _
          refine pw_mul E (pc' := 48) rfl rfl ?_
          refine pw_add E (pc' := 49) rfl rfl ?_
          refine pw_iret E rfl ?_
          exact ⟨h16I, h16F, ⟨_, rfl, by omega, by omega, Or.inl (by omega)⟩⟩
  have z7 : pw_g h8 26 7 = 0 := by rw [← h8w]; exact pw_g_eq (c := 26) (k := 7) h6I rfl rfl (by omega) (by omega)
  have z1 : pw_g h8 30 1 = pw_g h6 30 1 := by rw [← h8w]; exact pw_g_ne (by omega)
  have y1 := pw_Eg (c := 30) h2I h6E rfl rfl 1
  exact L15 _ (0) (none) h8 h8I h8F ⟨Or.inl (by omega), fun hz => by omega⟩ (by omega) (by omega)  rfl
set_option maxHeartbeats 4000000 in
theorem cm_44_28 {X : List (Nat × List Value)} {d : Nat} {h : pm_H} (hd : 6 ≤ d) (I : pw_I h) (hX : pw_Xk X) (hR : pw_Xr X) : pw X d h 44 0 [some (.ref 44), some (.ref 40), some (.ref 46), none, none] [] (fun h' v => pw_I h' ∧ pw_E [24, 28, 29, 30, 31, 32, 33, 34, 36] h h' ∧ ∃ a : Int, v = .inl (some (pw_i a)) ∧ (-2147483648) ≤ a ∧ a ≤ 2147483647 ∧ (a ≠ 0 ∨ pw_g h' 30 1 ≤ 999)) := by
  have E : pm_ent 44 = some (3, 5, 5, 0, pmc_44) := rfl
  have E0 : pw_E [24, 28, 29, 30, 31, 32, 33, 34, 36] h h := pw_E.rf _ _
  refine pw_ld E (pc' := 1) (st' := [.ref 46]) rfl (fun _ => rfl) ?_
  obtain ⟨f1l, f1h, -⟩ := pw_obj (c := 30) I rfl
  refine pw_call (m' := 68) (As := [.ref 46]) (rest := []) (ls'' := [some (.ref 46), none]) (Nat.le_trans (by decide) hd) E rfl (fun _ => pw_iV rfl rfl rfl rfl (pw_cellI f1h rfl)) (rfl : pm_ent 68 = some (1, 2, 7, 4, pmc_68)) rfl rfl (cm_68_30 (pw_dp hd (by decide)) I ) ?_
  rintro h2 v3 ⟨h2I, h2E, hq4, rfl⟩
  refine ⟨_, rfl, ?_⟩
  have h2F := E0.tr (h2E.wk (W' := [24, 28, 29, 30, 31, 32, 33, 34, 36]) (by first | rfl | simp))
  show pw X d h2 44 4 [some (.ref 44), some (.ref 40), some (.ref 46), none, none] [] _
  refine pw_ld E (pc' := 5) (st' := [.ref 40]) rfl (fun _ => rfl) ?_
  obtain ⟨f5l, f5h, -⟩ := pw_obj (c := 24) h2I rfl
  refine pw_call (m' := 100) (As := [.ref 40]) (rest := []) (ls'' := [some (.ref 40)]) (Nat.le_trans (by decide) hd) E rfl (fun _ => pw_iV rfl rfl rfl rfl (pw_cellI f5h rfl)) (rfl : pm_ent 100 = some (1, 1, 9, 4, pmc_100)) rfl rfl (cm_100 (pw_dp hd (by decide)) h2I ) ?_
  rintro h6 v7 ⟨h6I, h6E, rfl⟩
  refine ⟨_, rfl, ?_⟩
  have h6F := h2F.tr (h6E.wk (W' := [24, 28, 29, 30, 31, 32, 33, 34, 36]) (by first | rfl | simp))
  show pw X d h6 44 8 [some (.ref 44), some (.ref 40), some (.ref 46), none, none] [] _
  refine pw_ld E (pc' := 9) (st' := [.ref 44]) rfl (fun _ => rfl) ?_
  refine pw_ld E (pc' := 10) (st' := [pw_i 0, .ref 44]) rfl (fun _ => rfl) ?_
  refine pw_putI h6I E (c := 28) (k := 7) (pc' := 13) rfl rfl rfl rfl (by omega) (by omega) (by omega) (by omega) rfl rfl ?_
  intro h8I h8E
  generalize h8w : pw_w h6 28 7 (pw_i 0) = h8 at h8I h8E ⊢
  have h8F := h6F.tr (h8E.wk (W' := [24, 28, 29, 30, 31, 32, 33, 34, 36]) (by first | rfl | simp))
  refine pw_ld E (pc' := 14) (st' := [pw_i 0]) rfl (fun _ => rfl) ?_
  refine pw_istn E (pc' := 15) (ls' := [some (.ref 44), some (.ref 40), some (.ref 46), some (pw_i 0), none]) rfl rfl rfl rfl ?_
  have L15 : ∀ (n15 : Nat) (k15_3 : Int) (k15_4 : Option Value) (h15 : pm_H), pw_I h15 → pw_E [24, 28, 29, 30, 31, 32, 33, 34, 36] h h15 → pw_Sr 28 29 h15 (pw_g h15 24 3) → 0 ≤ k15_3 → k15_3 ≤ 1001 → (1001 - k15_3).toNat = n15 → pw X d h15 44 15 [some (.ref 44), some (.ref 40), some (.ref 46), some (pw_i k15_3), k15_4] [] (fun h' v => pw_I h' ∧ pw_E [24, 28, 29, 30, 31, 32, 33, 34, 36] h h' ∧ ∃ a : Int, v = .inl (some (pw_i a)) ∧ (-2147483648) ≤ a ∧ a ≤ 2147483647 ∧ (a ≠ 0 ∨ pw_g h' 30 1 ≤ 999)) := by
    intro n15
    induction n15 using Nat.strongRecOn with
    | ind n15 ih15 =>
      intro k15_3 k15_4 h15 I15 E15 S15 k15_3a k15_3b hm15
      have T15 := pw_gI (c := 24) (k := 3) I15 rfl rfl
      have L15a := S15.1
      refine pw_ld E (pc' := 16) (st' := [pw_i k15_3]) rfl (fun _ => rfl) ?_
      refine pw_sip E (pc' := 19) rfl rfl (by decide) ?_
      refine pw_if2 E (pc' := 66) rfl (by decide) (by omega) (by omega) (by decide) (by decide) ?_ ?_
      · intro hc9
        change (1000 : Int) < k15_3 at hc9
        refine pw_ld E (pc' := 67) (st' := [pw_i 0]) rfl (fun _ => rfl) ?_
        refine pw_iret E rfl ?_
        exact ⟨I15, E15, ⟨_, rfl, by omega, by omega, Or.inr (by omega)⟩⟩
      · intro hc10
        change ¬ ((1000 : Int) < k15_3) at hc10
        refine pw_ld E (pc' := 23) (st' := [.ref 40]) rfl (fun _ => rfl) ?_
        obtain ⟨f11l, f11h, -⟩ := pw_obj (c := 24) I15 rfl
        refine pw_call (m' := 101) (As := [.ref 40]) (rest := []) (ls'' := [some (.ref 40)]) (Nat.le_trans (by decide) hd) E rfl (fun _ => pw_iV rfl rfl rfl rfl (pw_cellI f11h rfl)) (rfl : pm_ent 101 = some (1, 1, 9, 4, pmc_101)) rfl rfl (cm_101_24 (pw_dp hd (by decide)) I15 hX ) ?_
        rintro h12 v13 ⟨h12I, h12E, hq14, rfl⟩
        refine ⟨_, rfl, ?_⟩
        have h12F := E15.tr (h12E.wk (W' := [24, 28, 29, 30, 31, 32, 33, 34, 36]) (by first | rfl | simp))
        have l12 := pw_Eg (c := 30) I15 h12E rfl rfl 1
        have S12 : pw_Sr 28 29 h12 (pw_g h15 24 3) := pw_SrE S15 (pw_Eg (c := 28) I15 h12E rfl rfl) (pw_Eg (c := 29) I15 h12E rfl rfl) l12
        show pw X d h12 44 26 [some (.ref 44), some (.ref 40), some (.ref 46), some (pw_i k15_3), k15_4] [] _
        refine pw_ld E (pc' := 27) (st' := [.ref 44]) rfl (fun _ => rfl) ?_
        refine pw_ld E (pc' := 28) (st' := [.ref 40, .ref 44]) rfl (fun _ => rfl) ?_
        refine pw_ld E (pc' := 29) (st' := [.ref 46, .ref 40, .ref 44]) rfl (fun _ => rfl) ?_
        obtain ⟨f15l, f15h, -⟩ := pw_obj (c := 28) h12I rfl
        refine pw_call (m' := 45) (As := [.ref 44, .ref 40, .ref 46]) (rest := []) (ls'' := [some (.ref 44), some (.ref 40), some (.ref 46)]) (Nat.le_trans (by decide) hd) E rfl (fun _ => pw_iV rfl rfl rfl rfl (pw_cellI f15h rfl)) (rfl : pm_ent 45 = some (3, 3, 5, 0, pmc_45)) rfl rfl (cm_45_28 (pw_dp hd (by decide)) h12I hX hR (T := pw_g h15 24 3) T15.1 hq14.2 S12) ?_
        rintro h16 v17 ⟨h16I, h16E, hp, x18, rfl, hx18a, hx18b, hz⟩
        refine ⟨_, rfl, ?_⟩
        have h16F := h12F.tr (h16E.wk (W' := [24, 28, 29, 30, 31, 32, 33, 34, 36]) (by first | rfl | simp))
        have k16 := pw_Eg (c := 24) h12I h16E rfl rfl 4
        have e16 := pw_Eg (c := 24) h12I h16E rfl rfl 3
        show pw X d h16 44 32 [some (.ref 44), some (.ref 40), some (.ref 46), some (pw_i k15_3), k15_4] [pw_i x18] _
        refine pw_ist E (pc' := 34) (ls' := [some (.ref 44), some (.ref 40), some (.ref 46), some (pw_i k15_3), some (pw_i x18)]) rfl rfl rfl rfl ?_
        refine pw_ld E (pc' := 36) (st' := [pw_i x18]) rfl (fun _ => rfl) ?_
        refine pw_if E (pc' := 50) rfl (by decide) (by omega) (by omega) ?_ ?_
        · intro hc19
          change x18 = (0 : Int) at hc19
          refine pw_ld E (pc' := 51) (st' := [.ref 40]) rfl (fun _ => rfl) ?_
          obtain ⟨f20l, f20h, -⟩ := pw_obj (c := 24) h16I rfl
          refine pw_call (m' := 107) (As := [.ref 40]) (rest := []) (ls'' := [some (.ref 40)]) (Nat.le_trans (by decide) hd) E rfl (fun _ => pw_iV rfl rfl rfl rfl (pw_cellI f20h rfl)) (rfl : pm_ent 107 = some (1, 1, 9, 0, pmc_107)) rfl rfl (cm_107_24 (pw_dp hd (by decide)) h16I ) ?_
          rintro u22 v21 ⟨rfl, x23, rfl, hx23a, hx23b, hx23r⟩
          refine ⟨_, rfl, ?_⟩
          show pw X d h16 44 54 [some (.ref 44), some (.ref 40), some (.ref 46), some (pw_i k15_3), some (pw_i x18)] [pw_i x23] _
          change x23 = pw_g h16 24 4 at hx23r
          refine pw_ld E (pc' := 55) (st' := [pw_i 4, pw_i x23]) rfl (fun _ => rfl) ?_
          refine pw_if2 E (pc' := 60) rfl (by decide) (by omega) (by omega) (by decide) (by decide) ?_ ?_
          · intro hc24
            change x23 ≠ (4 : Int) at hc24
            refine pw_inc E (pc' := 63) (ls' := [some (.ref 44), some (.ref 40), some (.ref 46), some (pw_i (k15_3 + 1)), some (pw_i x18)]) rfl rfl rfl rfl ?_
            refine pw_goto E (pc' := 15) rfl (by decide) ?_
            exact ih15 _ (by omega) (k15_3 + 1) (some (pw_i x18)) h16 h16I h16F (hp.wk (by omega)) (by omega) (by omega)  rfl
          · intro hc25
            change ¬ (x23 ≠ (4 : Int)) at hc25
            refine pw_ld E (pc' := 59) (st' := [pw_i 0]) rfl (fun _ => rfl) ?_
            refine pw_iret E rfl ?_
            exact ⟨h16I, h16F, ⟨_, rfl, by omega, by omega, Or.inr (by omega)⟩⟩
        · intro hc26
          change ¬ (x18 = (0 : Int)) at hc26
          refine pw_ld E (pc' := 41) (st' := [pw_i x18]) rfl (fun _ => rfl) ?_
          refine pw_bip E (pc' := 43) rfl rfl (by decide) ?_
          refine pw_ld E (pc' := 44) (st' := [.ref 40, pw_i 16, pw_i x18]) rfl (fun _ => rfl) ?_
          obtain ⟨f27l, f27h, -⟩ := pw_obj (c := 24) h16I rfl
          refine pw_call (m' := 111) (As := [.ref 40]) (rest := [pw_i 16, pw_i x18]) (ls'' := [some (.ref 40)]) (Nat.le_trans (by decide) hd) E rfl (fun _ => pw_iV rfl rfl rfl rfl (pw_cellI f27h rfl)) (rfl : pm_ent 111 = some (1, 1, 9, 0, pmc_111)) rfl rfl (cm_111 (pw_dp hd (by decide)) h16I ) ?_
          rintro u29 v28 ⟨rfl, x30, rfl, hx30a, hx30b⟩
          refine ⟨_, rfl, ?_⟩
          show pw X d h16 44 47 [some (.ref 44), some (.ref 40), some (.ref 46), some (pw_i k15_3), some (pw_i x18)] [pw_i x30, pw_i 16, pw_i x18] _
          refine pw_mul E (pc' := 48) rfl rfl ?_
          refine pw_add E (pc' := 49) rfl rfl ?_
          refine pw_iret E rfl ?_
          exact ⟨h16I, h16F, ⟨_, rfl, by omega, by omega, Or.inl (by omega)⟩⟩
  have z7 : pw_g h8 28 7 = 0 := by rw [← h8w]; exact pw_g_eq (c := 28) (k := 7) h6I rfl rfl (by omega) (by omega)
  have z1 : pw_g h8 30 1 = pw_g h6 30 1 := by rw [← h8w]; exact pw_g_ne (by omega)
  have y1 := pw_Eg (c := 30) h2I h6E rfl rfl 1
  exact L15 _ (0) (none) h8 h8I h8F ⟨Or.inl (by omega), fun hz => by omega⟩ (by omega) (by omega)  rfl
end
section
/-! RANKS at the start -/
theorem pw_Xr0 (xs : List Int32) : pw_Xr (pm_ext xs) := by
  show _ = _
  rfl
end
section
/-! the model (printed by wip/tool/mall.py) -/
/-! what the parser of the model keeps (the model's law and writer) -/
/-- the code from L on, n codes of it, leaves t numbers on the pile -/
def pw_D (h : pm_H) (L : Nat) : Nat → Int → Prop
  | 0, t => t = 0
  | n + 1, t => (pw_g h 146 (L + n) = 1 ∧ pw_D h L n (t - 1)) ∨ (pw_g h 146 (L + n) = 2 ∧ 0 ≤ pw_g h 147 (L + n) ∧ pw_g h 147 (L + n) ≤ 9 ∧ pw_D h L n (t - 1)) ∨ (pw_g h 146 (L + n) = 3 ∧ 1 ≤ t ∧ pw_D h L n t) ∨ (4 ≤ pw_g h 146 (L + n) ∧ 1 ≤ t ∧ pw_D h L n (t + 1))
theorem pw_D.cg {h h' : pm_H} {L L' : Nat} : ∀ {n : Nat} {t : Int}, (∀ j : Nat, j < n → pw_g h' 146 (L' + j) = pw_g h 146 (L + j) ∧ pw_g h' 147 (L' + j) = pw_g h 147 (L + j)) → pw_D h L n t → pw_D h' L' n t := by
  intro n
  induction n with
  | zero => intro t _ H; exact H
  | succ n ih =>
    intro t hc H
    obtain ⟨e1, e2⟩ := hc n (Nat.lt_succ_self n)
    have hc' := fun j (hj : j < n) => hc j (Nat.lt_succ_of_lt hj)
    unfold pw_D at H ⊢
    rw [e1, e2]
    rcases H with ⟨a, b⟩ | ⟨a, b, c, d⟩ | ⟨a, b, c⟩ | ⟨a, b, c⟩
    · exact Or.inl ⟨a, ih hc' b⟩
    · exact Or.inr (Or.inl ⟨a, b, c, ih hc' d⟩)
    · exact Or.inr (Or.inr (Or.inl ⟨a, b, ih hc' c⟩))
    · exact Or.inr (Or.inr (Or.inr ⟨a, b, ih hc' c⟩))
theorem pw_D.le {h : pm_H} {L : Nat} : ∀ {n : Nat} {t : Int}, pw_D h L n t → 0 ≤ t ∧ t ≤ n := by
  intro n
  induction n with
  | zero => intro t H; unfold pw_D at H; omega
  | succ n ih =>
    intro t H
    unfold pw_D at H
    rcases H with ⟨a, b⟩ | ⟨a, b, c, d⟩ | ⟨a, b, c⟩ | ⟨a, b, c⟩
    · have := ih b; omega
    · have := ih d; omega
    · have := ih c; omega
    · have := ih c; omega
theorem pw_D.un {h : pm_H} {L : Nat} : ∀ {n : Nat} {t t' : Int}, pw_D h L n t → pw_D h L n t' → t = t' := by
  intro n
  induction n with
  | zero => intro t t' H H'; unfold pw_D at H H'; omega
  | succ n ih =>
    intro t t' H H'
    unfold pw_D at H H'
    rcases H with ⟨a, b⟩ | ⟨a, -, -, b⟩ | ⟨a, -, b⟩ | ⟨a, -, b⟩ <;> rcases H' with ⟨a', b'⟩ | ⟨a', -, -, b'⟩ | ⟨a', -, b'⟩ | ⟨a', -, b'⟩ <;> first | omega | (have := ih b b'; omega)
theorem pw_D.dn {h : pm_H} {L : Nat} : ∀ {n : Nat} {t : Int}, pw_D h L n t → ∀ j : Nat, j ≤ n → ∃ t', pw_D h L j t' := by
  intro n
  induction n with
  | zero => intro t H j hj; exact ⟨t, by rw [Nat.le_zero.mp hj]; exact H⟩
  | succ n ih =>
    intro t H j hj
    rcases Nat.lt_or_ge n j with hl | hl
    · exact ⟨t, by rw [show j = n + 1 by omega]; exact H⟩
    · unfold pw_D at H
      rcases H with ⟨a, b⟩ | ⟨a, -, -, b⟩ | ⟨a, -, b⟩ | ⟨a, -, b⟩ <;> exact ih b j hl
/-- the tokens end at n, and the parser has not gone past them -/
def pw_A (n : Nat) (h : pm_H) : Prop := n ≤ 1000 ∧ pw_g h 127 n = 0 ∧ pw_g h 125 7 ≤ n ∧ 0 ≤ pw_g h 125 8 ∧ 0 ≤ pw_g h 125 7 ∧ 0 ≤ pw_g h 125 32
def pw_Q (e : Int) (h h' : pm_H) : Prop := (pw_g h' 125 8 = 0 → pw_g h 125 8 = 0) ∧ pw_g h 125 7 ≤ pw_g h' 125 7 ∧ pw_g h 125 32 ≤ pw_g h' 125 32 ∧ pw_g h 125 7 - pw_g h 125 32 + e ≤ pw_g h' 125 7 - pw_g h' 125 32 ∧ 0 ≤ pw_g h 125 32 ∧ ∀ j : Nat, ((j : Int) < 4400 + pw_g h 125 32 ∨ 5500 ≤ j) → pw_g h' 146 j = pw_g h 146 j ∧ pw_g h' 147 j = pw_g h 147 j
def pw_DD (r u : Int) (h h' : pm_H) : Prop := pw_g h' 125 8 = 0 → ∀ (L : Nat) (t : Int), (L : Int) ≤ pw_g h 125 32 → r ≤ t → pw_D h (4400 + L) ((pw_g h 125 32).toNat - L) t → pw_D h' (4400 + L) ((pw_g h' 125 32).toNat - L) (t + u)
def pw_R (e r u : Int) (h h' : pm_H) : Prop := pw_Q e h h' ∧ pw_DD r u h h'
theorem pw_Q.tr {e1 e2 e3 : Int} {a b c : pm_H} (h1 : pw_Q e1 a b) (h2 : pw_Q e2 b c) (he : e3 ≤ e1 + e2) : pw_Q e3 a c := by
  obtain ⟨x1, x2, x3, x4, x5, x6⟩ := h1
  obtain ⟨y1, y2, y3, y4, y5, y6⟩ := h2
  refine ⟨fun q => x1 (y1 q), by omega, by omega, by omega, x5, fun j hj => ?_⟩
  obtain ⟨z1, z2⟩ := x6 j hj
  obtain ⟨w1, w2⟩ := y6 j (by omega)
  exact ⟨w1.trans z1, w2.trans z2⟩
theorem pw_R.tr {e1 e2 e3 r1 r2 u1 u2 u3 : Int} {a b c : pm_H} (h1 : pw_R e1 r1 u1 a b) (h2 : pw_R e2 r2 u2 b c) (he : e3 ≤ e1 + e2) (hr : r2 ≤ r1 + u1) (hu : u3 = u1 + u2) : pw_R e3 r1 u3 a c := by
  refine ⟨h1.1.tr h2.1 he, fun q L t hL ht hD => ?_⟩
  have hb : pw_g b 125 8 = 0 := h2.1.1 q
  have := h2.2 q L (t + u1) (by have := h1.1.2.2.1; omega) (by omega) (h1.2 hb L t hL ht hD)
  rw [hu, ← Int.add_assoc]
  exact this
theorem pw_R.bad {e r u u' : Int} {a b : pm_H} (h1 : pw_R e r u a b) (hb : pw_g b 125 8 ≠ 0) : pw_R e r u' a b := ⟨h1.1, fun q => absurd q hb⟩
theorem pw_R.rf {h : pm_H} (h0 : 0 ≤ pw_g h 125 32) : pw_R 0 0 0 h h := ⟨⟨fun q => q, Int.le_refl _, Int.le_refl _, by omega, h0, fun _ _ => ⟨rfl, rfl⟩⟩, fun _ L t _ _ hD => by rw [Int.add_zero]; exact hD⟩
/-- nothing of the code has changed -/
theorem pw_R.same {e : Int} {h h' : pm_H} (he : 0 ≤ e) (h0 : 0 ≤ pw_g h 125 32) (h8 : pw_g h' 125 8 = 0 → pw_g h 125 8 = 0) (h7 : pw_g h' 125 7 = pw_g h 125 7 + e) (hc : pw_g h' 125 32 = pw_g h 125 32) (ho : ∀ j, pw_g h' 146 j = pw_g h 146 j) (ha : ∀ j, pw_g h' 147 j = pw_g h 147 j) : pw_R e 0 0 h h' := by
  refine ⟨⟨h8, by omega, by omega, by omega, h0, fun j _ => ⟨ho _, ha _⟩⟩, fun _ L t _ _ hD => ?_⟩
  rw [Int.add_zero, hc]
  exact pw_D.cg (fun j _ => ⟨ho _, ha _⟩) hD
/-- one code more -/
theorem pw_Q.emit {h h' : pm_H} (h9 : pw_g h 125 32 < 1100) (h0 : 0 ≤ pw_g h 125 32) (h8 : pw_g h' 125 8 = pw_g h 125 8) (h7 : pw_g h' 125 7 = pw_g h 125 7) (hc : pw_g h' 125 32 = pw_g h 125 32 + 1) (hu : ∀ j : Nat, j ≠ (4400 + pw_g h 125 32).toNat → pw_g h' 146 j = pw_g h 146 j ∧ pw_g h' 147 j = pw_g h 147 j) : pw_Q (-1) h h' :=
  ⟨fun q => by omega, by omega, by omega, by omega, h0, fun j hj => hu _ (by omega)⟩
theorem pw_R.emit {r u c : Int} {h h' : pm_H} (hk : (u = 1 ∧ r = 0 ∧ (c = 1 ∨ (c = 2 ∧ 0 ≤ pw_g h' 147 (4400 + pw_g h 125 32).toNat ∧ pw_g h' 147 (4400 + pw_g h 125 32).toNat ≤ 9))) ∨ (u = 0 ∧ r = 1 ∧ c = 3) ∨ (u = -1 ∧ r = 2 ∧ 4 ≤ c)) (h9 : pw_g h 125 32 < 1100) (h0 : 0 ≤ pw_g h 125 32) (h8 : pw_g h' 125 8 = pw_g h 125 8) (h7 : pw_g h' 125 7 = pw_g h 125 7) (hc : pw_g h' 125 32 = pw_g h 125 32 + 1) (ho : pw_g h' 146 (4400 + pw_g h 125 32).toNat = c) (hu : ∀ j : Nat, j ≠ (4400 + pw_g h 125 32).toNat → pw_g h' 146 j = pw_g h 146 j ∧ pw_g h' 147 j = pw_g h 147 j) : pw_R (-1) r u h h' := by
  refine ⟨pw_Q.emit h9 h0 h8 h7 hc hu, fun _ L t hL hr hD => ?_⟩
  have e1 : (pw_g h' 125 32).toNat - L = ((pw_g h 125 32).toNat - L) + 1 := by omega
  have e2 : (4400 + L) + ((pw_g h 125 32).toNat - L) = (4400 + pw_g h 125 32).toNat := by omega
  have hD' : pw_D h' (4400 + L) ((pw_g h 125 32).toNat - L) t := pw_D.cg (fun j hj => hu _ (by omega)) hD
  rw [e1]
  unfold pw_D
  rw [e2, ho]
  rcases hk with ⟨rfl, rfl, rfl | ⟨rfl, ha, hb⟩⟩ | ⟨rfl, rfl, rfl⟩ | ⟨rfl, rfl, hc4⟩
  · exact Or.inl ⟨rfl, by rw [Int.add_sub_cancel]; exact hD'⟩
  · exact Or.inr (Or.inl ⟨rfl, ha, hb, by rw [Int.add_sub_cancel]; exact hD'⟩)
  · exact Or.inr (Or.inr (Or.inl ⟨rfl, by omega, by rw [Int.add_zero]; exact hD'⟩))
  · exact Or.inr (Or.inr (Or.inr ⟨hc4, by omega, by rw [show t + -1 + 1 = t by omega]; exact hD'⟩))
theorem pw_R.wk {e e' r u : Int} {a b : pm_H} (h1 : pw_R e r u a b) (he : e' ≤ e) : pw_R e' r u a b := ⟨⟨h1.1.1, h1.1.2.1, h1.1.2.2.1, by have := h1.1.2.2.2.1; omega, h1.1.2.2.2.2⟩, h1.2⟩
theorem pw_A.lt {n : Nat} {h : pm_H} (A : pw_A n h) (hs : pw_g h 127 (pw_g h 125 7).toNat ≠ 0) : pw_g h 125 7 < n := by
  obtain ⟨a1, a2, a3, a4, a5, a6⟩ := A
  rcases (by omega : pw_g h 125 7 < n ∨ (n : Int) ≤ pw_g h 125 7) with hl | hl
  · exact hl
  · exact absurd (by rw [show (pw_g h 125 7).toNat = n by omega]; exact a2) hs
/-- a line's code: it leaves one number, and ends -/
def pw_Ln (h : pm_H) (b : Nat) (L : Int) (top : Int) : Prop := ∃ n : Nat, L + n < top ∧ pw_D h (b + L.toNat) n 1 ∧ pw_g h 146 (b + L.toNat + n) = 0
theorem pw_Ln.q {e : Int} {h h' : pm_H} {L : Int} (q : pw_Q e h h') (h0 : 0 ≤ L) (H : pw_Ln h 4400 L (pw_g h 125 32)) : pw_Ln h' 4400 L (pw_g h' 125 32) := by
  obtain ⟨n, h1, h2, h3⟩ := H
  obtain ⟨x1, x2, x3, x4, x5, x6⟩ := q
  refine ⟨n, by omega, pw_D.cg (fun j hj => x6 _ (by omega)) h2, ?_⟩
  rw [(x6 _ (by omega)).1]
  exact h3
/-- the line whose code has just ended -/
theorem pw_Ln.end {e r : Int} {a b c : pm_H} (h0 : 0 ≤ pw_g a 125 32) (hr : r ≤ 0) (R : pw_R e r 1 a b) (hz : pw_g b 125 8 = 0) (hc : pw_g c 125 32 = pw_g b 125 32 + 1) (ho : pw_g c 146 (4400 + pw_g b 125 32).toNat = 0) (hu : ∀ j : Nat, j ≠ (4400 + pw_g b 125 32).toNat → pw_g c 146 j = pw_g b 146 j ∧ pw_g c 147 j = pw_g b 147 j) : pw_Ln c 4400 (pw_g a 125 32) (pw_g c 125 32) := by
  obtain ⟨x1, x2, x3, x4, x5, x6⟩ := R.1
  have hD := R.2 hz (pw_g a 125 32).toNat 0 (by omega) hr (by rw [Nat.sub_self]; exact rfl)
  refine ⟨(pw_g b 125 32).toNat - (pw_g a 125 32).toNat, by omega, pw_D.cg (fun j hj => hu _ (by omega)) hD, ?_⟩
  rw [show 4400 + (pw_g a 125 32).toNat + ((pw_g b 125 32).toNat - (pw_g a 125 32).toNat) = (4400 + pw_g b 125 32).toNat by omega]
  exact ho
/-- one step of a kept code -/
theorem pw_D.st {h : pm_H} {L n j : Nat} {t t1 : Int} (H : pw_D h L n t1) (hj : j < n) (hD : pw_D h L j t) : ((pw_g h 146 (L + j) = 1 ∨ (pw_g h 146 (L + j) = 2 ∧ 0 ≤ pw_g h 147 (L + j) ∧ pw_g h 147 (L + j) ≤ 9)) ∧ pw_D h L (j + 1) (t + 1)) ∨ (pw_g h 146 (L + j) = 3 ∧ 1 ≤ t ∧ pw_D h L (j + 1) t) ∨ (4 ≤ pw_g h 146 (L + j) ∧ 2 ≤ t ∧ pw_D h L (j + 1) (t - 1)) := by
  obtain ⟨t2, H2⟩ := H.dn (j + 1) hj
  have H3 := H2
  unfold pw_D at H3
  rcases H3 with ⟨a, b⟩ | ⟨a, c, d, b⟩ | ⟨a, c, b⟩ | ⟨a, c, b⟩
  · have e := hD.un b
    exact Or.inl ⟨Or.inl a, by rw [show t + 1 = t2 by omega]; exact H2⟩
  · have e := hD.un b
    exact Or.inl ⟨Or.inr ⟨a, c, d⟩, by rw [show t + 1 = t2 by omega]; exact H2⟩
  · have e := hD.un b
    exact Or.inr (Or.inl ⟨a, by omega, by rw [e]; exact H2⟩)
  · have e := hD.un b
    exact Or.inr (Or.inr ⟨a, by omega, by rw [show t - 1 = t2 by omega]; exact H2⟩)
/-- what stands of the laws and the writers that are kept -/
def pw_K (h : pm_H) : Prop := (∀ l k : Nat, l < 4 → k < 4 → pw_g h 145 (4 * l + k) < 0 ∨ pw_Ln h (1100 * l) (pw_g h 145 (4 * l + k)) 1100) ∧ ∀ i : Nat, i < 4 → pw_g h 157 i < 0 ∨ pw_Ln h (1100 * (5 + i)) (pw_g h 157 i) 1100
/-- the lines read so far -/
def pw_Ls (h : pm_H) : Prop := ∀ k : Nat, k < 4 → pw_g h 145 (16 + k) < 0 ∨ pw_Ln h 4400 (pw_g h 145 (16 + k)) (pw_g h 125 32)
theorem pw_Ln.cg {h h' : pm_H} {b b' : Nat} {L top top' : Int} (h0 : 0 ≤ L) (H : pw_Ln h b L top) (ht : top ≤ top') (hc : ∀ j : Nat, (j : Int) < top → pw_g h' 146 (b' + j) = pw_g h 146 (b + j) ∧ pw_g h' 147 (b' + j) = pw_g h 147 (b + j)) : pw_Ln h' b' L top' := by
  obtain ⟨n, h1, h2, h3⟩ := H
  refine ⟨n, by omega, pw_D.cg (fun j hj => ?_) h2, ?_⟩
  · have := hc (L.toNat + j) (by omega)
    rw [Nat.add_assoc, Nat.add_assoc]
    exact this
  · have := hc (L.toNat + n) (by omega)
    rw [Nat.add_assoc, this.1, ← Nat.add_assoc]
    exact h3
theorem pw_K.cg {h h' : pm_H} (H : pw_K h) (h5 : ∀ j, pw_g h' 145 j = pw_g h 145 j) (h6 : ∀ j, pw_g h' 146 j = pw_g h 146 j) (h7 : ∀ j, pw_g h' 147 j = pw_g h 147 j) (h8 : ∀ j, pw_g h' 157 j = pw_g h 157 j) : pw_K h' := by
  refine ⟨fun l k hl hk => ?_, fun i hi => ?_⟩
  · rw [h5]
    rcases Int.lt_or_le (pw_g h 145 (4 * l + k)) 0 with hz | hz
    · exact Or.inl hz
    · exact Or.inr (((H.1 l k hl hk).resolve_left (by omega)).cg hz (Int.le_refl _) (fun j _ => ⟨h6 _, h7 _⟩))
  · rw [h8]
    rcases Int.lt_or_le (pw_g h 157 i) 0 with hz | hz
    · exact Or.inl hz
    · exact Or.inr (((H.2 i hi).resolve_left (by omega)).cg hz (Int.le_refl _) (fun j _ => ⟨h6 _, h7 _⟩))
/-- what is written is what was there -/
theorem pw_w_id {h : pm_H} {c k : Nat} {v : Value} (ha : pw_at h c k = some v) : pw_w h c k v = h := by
  unfold pw_at at ha
  unfold pw_w
  cases hq : h[c]? with
  | none => rfl
  | some q =>
    rw [hq] at ha
    obtain ⟨hc, hg⟩ := List.getElem?_eq_some_iff.mp hq
    match q, ha, hg with
    | .inl (t, l), ha, hg =>
      obtain ⟨hk, hv⟩ := List.getElem?_eq_some_iff.mp (show l[k]? = some v from ha)
      show h.set c (.inl (t, l.set k v)) = h
      rw [← hv, List.set_getElem_self, ← hg, List.set_getElem_self]
    | .inr (t, l), ha, hg =>
      obtain ⟨hk, hv⟩ := List.getElem?_eq_some_iff.mp (show l[k]? = some v from ha)
      show h.set c (.inr (t, l.set k v)) = h
      rw [← hv, List.set_getElem_self, ← hg, List.set_getElem_self]
theorem pw_atI {h : pm_H} {c ci k : Nat} {sps : List pw_F} {lo hi : Int} (I : pw_I h) (hs : pw_T[c]? = some (.inr (ci, sps))) (hk : sps[k]? = some (0, lo, hi)) : pw_at h c k = some (pw_i (pw_g h c k)) := by
  obtain ⟨fs, v, h1, h2, h3, a, rfl, h4, h5, h6, h7⟩ := pw_fld I hs hk
  have e : pw_g h c k = a := by unfold pw_g; rw [h3, pw_iv_i h6 h7]
  rw [e, h3]
/-- a code that can be run from f on -/
def pw_Wk (h : pm_H) (f : Int) : Prop := ∃ n : Nat, n < 1100 ∧ f + n < 9900 ∧ pw_D h f.toNat n 1 ∧ pw_g h 146 (f.toNat + n) = 0
theorem pw_KE {W : List Nat} {h h' : pm_H} (I : pw_I h) (E : pw_E W h h') (H : pw_K h) (hn : (W.contains 145 || (W.contains 146 || (W.contains 147 || W.contains 157))) = false) : pw_K h' := by
  obtain ⟨h1, h2⟩ := Bool.or_eq_false_iff.mp hn
  obtain ⟨h2, h3⟩ := Bool.or_eq_false_iff.mp h2
  obtain ⟨h3, h4⟩ := Bool.or_eq_false_iff.mp h3
  exact H.cg (pw_Eg (c := 145) I E rfl h1) (pw_Eg (c := 146) I E rfl h2) (pw_Eg (c := 147) I E rfl h3) (pw_Eg (c := 157) I E rfl h4)
theorem pw_Wk.of1 {h : pm_H} {l li : Int} (K : pw_K h) (h1 : 0 ≤ l) (h2 : l ≤ 3) (h3 : 0 ≤ li) (h4 : li ≤ 3) (h5 : 0 ≤ pw_g h 145 (4 * l + li).toNat) : pw_Wk h (1100 * l + pw_g h 145 (4 * l + li).toNat) := by
  have H := K.1 l.toNat li.toNat (by omega) (by omega)
  rw [show 4 * l.toNat + li.toNat = (4 * l + li).toNat by omega] at H
  obtain ⟨n, a, b, c⟩ := H.resolve_left (by omega)
  generalize pw_g h 145 (4 * l + li).toNat = L at *
  have e : 1100 * l.toNat + L.toNat = (1100 * l + L).toNat := by omega
  rw [e] at b c
  exact ⟨n, by omega, by omega, b, c⟩
theorem pw_Wk.of2 {W : List Nat} {h h' : pm_H} {i : Int} (I : pw_I h) (E : pw_E W h h') (K : pw_K h) (hn : (W.contains 145 || (W.contains 146 || (W.contains 147 || W.contains 157))) = false) (h1 : 0 ≤ i) (h2 : i ≤ 3) (h5 : 0 ≤ pw_g h 157 i.toNat) : pw_Wk h' (1100 * (5 + i) + pw_g h' 157 i.toNat) := by
  have K' := pw_KE I E K hn
  obtain ⟨_, q2⟩ := Bool.or_eq_false_iff.mp hn
  obtain ⟨_, q3⟩ := Bool.or_eq_false_iff.mp q2
  obtain ⟨_, q4⟩ := Bool.or_eq_false_iff.mp q3
  rw [← pw_Eg (c := 157) I E rfl q4] at h5
  obtain ⟨n, a, b, c⟩ := (K'.2 i.toNat (by omega)).resolve_left (by omega)
  generalize pw_g h' 157 i.toNat = L at *
  have e : 1100 * (5 + i.toNat) + L.toNat = (1100 * (5 + i) + L).toNat := by omega
  rw [e] at b c
  exact ⟨n, by omega, by omega, b, c⟩
theorem pw_ceq {a b : Int64} {c : Int} (h : (c = -1 ∧ a < b) ∨ (c = 0 ∧ a = b) ∨ (c = 1 ∧ b < a)) (hc : c = 0) : a = b := by
  rcases h with ⟨h, _⟩ | ⟨_, h⟩ | ⟨h, _⟩
  · omega
  · exact h
  · omega
/-- k codes of the draft are kept in the part to -/
def pw_KC (h g : pm_H) (to k : Int) : Prop := (∀ j : Nat, (j : Int) < k → pw_g g 146 ((1100 * to).toNat + j) = pw_g h 146 (4400 + j) ∧ pw_g g 147 ((1100 * to).toNat + j) = pw_g h 147 (4400 + j)) ∧ ∀ j : Nat, ((j : Int) < 1100 * to ∨ 1100 * to + 1100 ≤ j) → pw_g g 146 j = pw_g h 146 j ∧ pw_g g 147 j = pw_g h 147 j
theorem pw_KC.rf {h : pm_H} {to : Int} : pw_KC h h to 0 := ⟨fun j hj => by omega, fun _ _ => ⟨rfl, rfl⟩⟩
theorem pw_KC.st {h g g1 g2 : pm_H} {to k : Int} (H : pw_KC h g to k) (I : pw_I g) (h0 : 0 ≤ to) (h1 : to ≤ 8) (h4 : to ≠ 4) (hk : 0 ≤ k) (hk2 : k < 1100) (w1 : pw_w g 146 (1100 * to + k).toNat (pw_i (pw_g g 146 (4400 + k).toNat)) = g1) (w2 : pw_w g1 147 (1100 * to + k).toNat (pw_i (pw_g g1 147 (4400 + k).toNat)) = g2) (I1 : pw_I g1) : pw_KC h g2 to (k + 1) := by
  have r1 := pw_gA (j := 4400 + k) I (c := 146) rfl (by decide) (by omega) (by omega)
  have r2 := pw_gA (j := 4400 + k) I1 (c := 147) rfl (by decide) (by omega) (by omega)
  have e1 : pw_g g1 146 (1100 * to + k).toNat = pw_g g 146 (4400 + k).toNat := by rw [← w1]; exact pw_g_eqA I rfl (by omega) (by omega) (by omega)
  have e2 : pw_g g2 147 (1100 * to + k).toNat = pw_g g1 147 (4400 + k).toNat := by rw [← w2]; exact pw_g_eqA I1 rfl (by omega) (by omega) (by omega)
  have n1 : ∀ j : Nat, j ≠ (1100 * to + k).toNat → pw_g g2 146 j = pw_g g 146 j := fun j hj => by
    rw [← w2, pw_g_ne (by omega), ← w1, pw_g_ne (fun q => hj q.2.symm)]
  have n2 : ∀ j : Nat, j ≠ (1100 * to + k).toNat → pw_g g2 147 j = pw_g g 147 j := fun j hj => by
    rw [← w2, pw_g_ne (fun q => hj q.2.symm), ← w1, pw_g_ne (by omega)]
  have e3 : pw_g g2 146 (1100 * to + k).toNat = pw_g g 146 (4400 + k).toNat := by rw [← w2, pw_g_ne (by omega)]; exact e1
  have e4 : pw_g g1 147 (4400 + k).toNat = pw_g g 147 (4400 + k).toNat := by rw [← w1, pw_g_ne (by omega)]
  refine ⟨fun j hj => ?_, fun j hj => ?_⟩
  · rcases (by omega : (j : Int) = k ∨ (j : Int) < k) with hq | hq
    · have a1 : (1100 * to).toNat + j = (1100 * to + k).toNat := by omega
      have a2 : 4400 + j = (4400 + k).toNat := by omega
      have q := H.2 (4400 + k).toNat (by omega)
      rw [a1, a2, e3, e2, e4]
      exact q
    · rw [n1 _ (by omega), n2 _ (by omega)]
      exact H.1 j hq
  · rw [n1 _ (by omega), n2 _ (by omega)]
    exact H.2 j hj
theorem pw_K.of {h g : pm_H} (K : pw_K h) (h5 : ∀ j : Nat, j < 16 → pw_g g 145 j = pw_g h 145 j) (h6 : ∀ j : Nat, (j < 4400 ∨ 5500 ≤ j) → pw_g g 146 j = pw_g h 146 j ∧ pw_g g 147 j = pw_g h 147 j) (h7 : ∀ j, pw_g g 157 j = pw_g h 157 j) : pw_K g := by
  refine ⟨fun l k hl hk => ?_, fun i hi => ?_⟩
  · rw [h5 _ (by omega)]
    rcases Int.lt_or_le (pw_g h 145 (4 * l + k)) 0 with hz | hz
    · exact Or.inl hz
    · exact Or.inr (((K.1 l k hl hk).resolve_left (by omega)).cg hz (Int.le_refl _) (fun j hj => h6 _ (by omega)))
  · rw [h7]
    rcases Int.lt_or_le (pw_g h 157 i) 0 with hz | hz
    · exact Or.inl hz
    · exact Or.inr (((K.2 i hi).resolve_left (by omega)).cg hz (Int.le_refl _) (fun j hj => h6 _ (by omega)))
/-- a law is kept -/
theorem pw_K.law {h g : pm_H} {l : Int} (K : pw_K h) (h0 : 0 ≤ l) (h3 : l ≤ 3) (hL : pw_Ls h) (hc : pw_g h 125 32 ≤ 1100) (h5 : ∀ k : Nat, k < 4 → pw_g g 145 ((4 * l).toNat + k) = pw_g h 145 (16 + k)) (h6 : ∀ j : Nat, j < 16 → ((j : Int) < 4 * l ∨ 4 * l + 4 ≤ j) → pw_g g 145 j = pw_g h 145 j) (h7 : pw_KC h g l (pw_g h 125 32)) (h8 : ∀ j, pw_g g 157 j = pw_g h 157 j) : pw_K g := by
  refine ⟨fun l' k hl hk => ?_, fun i hi => ?_⟩
  · rcases (by omega : (l' : Int) = l ∨ (l' : Int) ≠ l) with hq | hq
    · have e : 4 * l' + k = (4 * l).toNat + k := by omega
      rw [e, h5 k hk]
      rcases Int.lt_or_le (pw_g h 145 (16 + k)) 0 with hz | hz
      · exact Or.inl hz
      · refine Or.inr (((hL k hk).resolve_left (by omega)).cg hz hc (fun j hj => ?_))
        rw [show 1100 * l' = (1100 * l).toNat by omega]
        exact h7.1 j hj
    · rw [h6 _ (by omega) (by omega)]
      rcases Int.lt_or_le (pw_g h 145 (4 * l' + k)) 0 with hz | hz
      · exact Or.inl hz
      · exact Or.inr (((K.1 l' k hl hk).resolve_left (by omega)).cg hz (Int.le_refl _) (fun j hj => h7.2 _ (by omega)))
  · rw [h8]
    rcases Int.lt_or_le (pw_g h 157 i) 0 with hz | hz
    · exact Or.inl hz
    · exact Or.inr (((K.2 i hi).resolve_left (by omega)).cg hz (Int.le_refl _) (fun j hj => h7.2 _ (by omega)))
/-- a writer is kept -/
theorem pw_K.wri {h g : pm_H} {i : Int} {L : Int} (K : pw_K h) (h0 : 0 ≤ i) (h3 : i ≤ 3) (hL : L < 0 ∨ pw_Ln h 4400 L (pw_g h 125 32)) (hc : pw_g h 125 32 ≤ 1100) (h5 : pw_g g 157 i.toNat = L) (h6 : ∀ j : Nat, j ≠ i.toNat → pw_g g 157 j = pw_g h 157 j) (h7 : pw_KC h g (5 + i) (pw_g h 125 32)) (h8 : ∀ j, pw_g g 145 j = pw_g h 145 j) : pw_K g := by
  refine ⟨fun l' k hl hk => ?_, fun i' hi => ?_⟩
  · rw [h8]
    rcases Int.lt_or_le (pw_g h 145 (4 * l' + k)) 0 with hz | hz
    · exact Or.inl hz
    · exact Or.inr (((K.1 l' k hl hk).resolve_left (by omega)).cg hz (Int.le_refl _) (fun j hj => h7.2 _ (by omega)))
  · rcases (by omega : i' = i.toNat ∨ i' ≠ i.toNat) with hq | hq
    · rw [hq, h5]
      rcases Int.lt_or_le L 0 with hz | hz
      · exact Or.inl hz
      · refine Or.inr ((hL.resolve_left (by omega)).cg hz hc (fun j hj => ?_))
        rw [show 1100 * (5 + i.toNat) = (1100 * (5 + i)).toNat by omega]
        exact h7.1 j hj
    · rw [h6 _ hq]
      rcases Int.lt_or_le (pw_g h 157 i') 0 with hz | hz
      · exact Or.inl hz
      · exact Or.inr (((K.2 i' hi).resolve_left (by omega)).cg hz (Int.le_refl _) (fun j hj => h7.2 _ (by omega)))
theorem pw_KC.cg {h h' g : pm_H} {to k : Int} (H : pw_KC h g to k) (ho : ∀ j, pw_g h 146 j = pw_g h' 146 j) (ha : ∀ j, pw_g h 147 j = pw_g h' 147 j) : pw_KC h' g to k := ⟨fun j hj => ⟨(H.1 j hj).1.trans (ho _), (H.1 j hj).2.trans (ha _)⟩, fun j hj => ⟨(H.2 j hj).1.trans (ho _), (H.2 j hj).2.trans (ha _)⟩⟩
/-- nothing has changed but the draft -/
def pw_O (h g : pm_H) : Prop := (∀ j : Nat, j < 16 → pw_g g 145 j = pw_g h 145 j) ∧ (∀ j : Nat, (j < 4400 ∨ 5500 ≤ j) → pw_g g 146 j = pw_g h 146 j ∧ pw_g g 147 j = pw_g h 147 j) ∧ ∀ j, pw_g g 157 j = pw_g h 157 j
theorem pw_O.tr {a b c : pm_H} (h1 : pw_O a b) (h2 : pw_O b c) : pw_O a c := ⟨fun j hj => (h2.1 j hj).trans (h1.1 j hj), fun j hj => ⟨((h2.2.1 j hj).1).trans (h1.2.1 j hj).1, ((h2.2.1 j hj).2).trans (h1.2.1 j hj).2⟩, fun j => (h2.2.2 j).trans (h1.2.2 j)⟩
theorem pw_O.q {e : Int} {a b : pm_H} (h0 : 0 ≤ pw_g a 125 32) (q : pw_Q e a b) (h5 : ∀ j : Nat, j < 16 → pw_g b 145 j = pw_g a 145 j) (h7 : ∀ j, pw_g b 157 j = pw_g a 157 j) : pw_O a b := ⟨h5, fun j hj => q.2.2.2.2.2 j (by omega), h7⟩
theorem pw_cp4 {h0 g1 g2 g3 g4 : pm_H} {l : Int} (h1 : 0 ≤ l) (h2 : l ≤ 3) (I0 : pw_I h0) (I1 : pw_I g1) (I2 : pw_I g2) (I3 : pw_I g3) (w1 : pw_w h0 145 (4 * l + 0).toNat (pw_i (pw_g h0 145 (16 + 0 : Int).toNat)) = g1) (w2 : pw_w g1 145 (4 * l + (0 + 1)).toNat (pw_i (pw_g g1 145 (16 + (0 + 1) : Int).toNat)) = g2) (w3 : pw_w g2 145 (4 * l + (0 + 1 + 1)).toNat (pw_i (pw_g g2 145 (16 + (0 + 1 + 1) : Int).toNat)) = g3) (w4 : pw_w g3 145 (4 * l + (0 + 1 + 1 + 1)).toNat (pw_i (pw_g g3 145 (16 + (0 + 1 + 1 + 1) : Int).toNat)) = g4) : (∀ k : Nat, k < 4 → pw_g g4 145 ((4 * l).toNat + k) = pw_g h0 145 (16 + k)) ∧ ∀ j : Nat, ((j : Int) < 4 * l ∨ 4 * l + 4 ≤ j) → pw_g g4 145 j = pw_g h0 145 j := by
  have r : ∀ {g : pm_H} {j : Int}, pw_I g → 0 ≤ j → j < 20 → -2147483648 ≤ pw_g g 145 j.toNat ∧ pw_g g 145 j.toNat ≤ 2147483647 := fun I a b => (pw_gA (c := 145) I rfl (by decide) a b).2.2
  have e1 : pw_g g1 145 (4 * l + 0).toNat = pw_g h0 145 (16 + 0 : Int).toNat := by rw [← w1]; exact pw_g_eqA I0 rfl (by omega) (r I0 (by omega) (by omega)).1 (r I0 (by omega) (by omega)).2
  have e2 : pw_g g2 145 (4 * l + (0 + 1)).toNat = pw_g g1 145 (16 + (0 + 1) : Int).toNat := by rw [← w2]; exact pw_g_eqA I1 rfl (by omega) (r I1 (by omega) (by omega)).1 (r I1 (by omega) (by omega)).2
  have e3 : pw_g g3 145 (4 * l + (0 + 1 + 1)).toNat = pw_g g2 145 (16 + (0 + 1 + 1) : Int).toNat := by rw [← w3]; exact pw_g_eqA I2 rfl (by omega) (r I2 (by omega) (by omega)).1 (r I2 (by omega) (by omega)).2
  have e4 : pw_g g4 145 (4 * l + (0 + 1 + 1 + 1)).toNat = pw_g g3 145 (16 + (0 + 1 + 1 + 1) : Int).toNat := by rw [← w4]; exact pw_g_eqA I3 rfl (by omega) (r I3 (by omega) (by omega)).1 (r I3 (by omega) (by omega)).2
  have n1 : ∀ j : Nat, j ≠ (4 * l + 0).toNat → pw_g g1 145 j = pw_g h0 145 j := fun j hj => by rw [← w1]; exact pw_g_ne (fun q => hj q.2.symm)
  have n2 : ∀ j : Nat, j ≠ (4 * l + (0 + 1)).toNat → pw_g g2 145 j = pw_g g1 145 j := fun j hj => by rw [← w2]; exact pw_g_ne (fun q => hj q.2.symm)
  have n3 : ∀ j : Nat, j ≠ (4 * l + (0 + 1 + 1)).toNat → pw_g g3 145 j = pw_g g2 145 j := fun j hj => by rw [← w3]; exact pw_g_ne (fun q => hj q.2.symm)
  have n4 : ∀ j : Nat, j ≠ (4 * l + (0 + 1 + 1 + 1)).toNat → pw_g g4 145 j = pw_g g3 145 j := fun j hj => by rw [← w4]; exact pw_g_ne (fun q => hj q.2.symm)
  refine ⟨fun k hk => ?_, fun j hj => ?_⟩
  · rcases (by omega : k = 0 ∨ k = 1 ∨ k = 2 ∨ k = 3) with rfl | rfl | rfl | rfl
    · rw [n4 _ (by omega), n3 _ (by omega), n2 _ (by omega), show (4 * l).toNat + 0 = (4 * l + 0).toNat by omega, e1]; rfl
    · rw [n4 _ (by omega), n3 _ (by omega), show (4 * l).toNat + 1 = (4 * l + (0 + 1)).toNat by omega, e2, n1 _ (by omega)]; rfl
    · rw [n4 _ (by omega), show (4 * l).toNat + 2 = (4 * l + (0 + 1 + 1)).toNat by omega, e3, n2 _ (by omega), n1 _ (by omega)]; rfl
    · rw [show (4 * l).toNat + 3 = (4 * l + (0 + 1 + 1 + 1)).toNat by omega, e4, n3 _ (by omega), n2 _ (by omega), n1 _ (by omega)]; rfl
  · rw [n4 _ (by omega), n3 _ (by omega), n2 _ (by omega), n1 _ (by omega)]
/-- a number's token has a value of at most four digits -/
def pw_NV (n : Nat) (h : pm_H) : Prop := ∀ j : Nat, j < n → pw_g h 127 j = 2 → 0 ≤ pw_gm h 129 j ∧ pw_gm h 129 j ≤ 9999
theorem pw_NV.E {W : List Nat} {n : Nat} {h h' : pm_H} (I : pw_I h) (E : pw_E W h h') (H : pw_NV n h) (hn : (W.contains 127 || W.contains 129) = false) : pw_NV n h' := by
  obtain ⟨h1, h2⟩ := Bool.or_eq_false_iff.mp hn
  intro j hj
  rw [pw_Eg (c := 127) I E rfl h1, pw_Egm (c := 129) I E rfl h2]
  exact H j hj
theorem pw_gm_eqA {h : pm_H} {c n k : Nat} {lo hi : Int} {w : Int64} (I : pw_I h) (hs : pw_T[c]? = some (.inl (3, n, lo, hi))) (hk : k < n) : pw_gm (pw_w h c k (.long w)) c k = w.toInt := by
  obtain ⟨l, e1, e2, e3⟩ := pw_arr I hs
  have hc : c < h.length := (List.getElem?_eq_some_iff.mp e1).1
  unfold pw_gm pw_gl pw_at pw_w
  rw [e1]
  dsimp only
  rw [List.getElem?_set_self hc]
  dsimp only
  rw [List.getElem?_set_self (by omega)]
  rfl
theorem pw_NV.st {n s : Int} {v1 : Value} {w : Int64} {g g1 g2 g3 : pm_H} (H : pw_NV n.toNat g) (h0 : 0 ≤ n) (h1 : n < 1002) (w1 : pw_w g 128 n.toNat v1 = g1) (w2 : pw_w g1 127 n.toNat (pw_i s) = g2) (w3 : pw_w g2 129 n.toNat (.long w) = g3) (I1 : pw_I g1) (I2 : pw_I g2) (hs1 : 0 ≤ s) (hs2 : s ≤ 4) (hs : s ≠ 2 ∨ (0 ≤ w.toInt ∧ w.toInt ≤ 9999)) : pw_NV (n + 1).toNat g3 := by
  intro j hj hq
  rcases (by omega : j = n.toNat ∨ j ≠ n.toNat) with e | e
  · subst e
    have e1 : pw_g g3 127 n.toNat = s := by
      rw [← w3, pw_g_ne (by omega), ← w2]
      exact pw_g_eqA I1 rfl (by omega) (by omega) (by omega)
    have e2 : pw_gm g3 129 n.toNat = w.toInt := by
      rw [← w3]
      exact pw_gm_eqA I2 rfl (by omega)
    rw [e2]
    exact hs.resolve_left (by omega)
  · have e1 : pw_g g3 127 j = pw_g g 127 j := by rw [← w3, pw_g_ne (by omega), ← w2, pw_g_ne (by omega), ← w1, pw_g_ne (by omega)]
    have e2 : pw_gm g3 129 j = pw_gm g 129 j := by rw [← w3, pw_gm_ne (by omega), ← w2, pw_gm_ne (by omega), ← w1, pw_gm_ne (by omega)]
    rw [e2]
    exact H j (by omega) (by rw [← e1]; exact hq)
theorem pw_laldM {X : List (Nat × List Value)} {d : Nat} {h : pm_H} {m pc pc' len na nl own rt : Nat} {C : pm_T (Instr × Nat)} {ls : pm_L} {r : List Value} {Q : pm_H → (Option Value ⊕ Unit) → Prop} {c n a : Nat} {lo hi : Int} {j : Int} (I : pw_I h) (he : pm_ent m = some (na, nl, own, rt, C)) (hq : pm_get C pc = some (.laload, len)) (hs : pw_T[c]? = some (.inl (3, n, lo, hi))) (ha : 16 + c = a) (hn : n ≤ 2147483647) (h0 : 0 ≤ j) (h1 : j < n) (hc : pc + len = pc') (H : pw X d h m pc' ls (.long (Int64.ofInt (pw_gm h c j.toNat)) :: r) Q) : pw X d h m pc ls (pw_i j :: .ref a :: r) Q := by
  refine pw_lald I he hq hs ha hn h0 h1 hc ?_
  unfold pw_gm at H
  rw [Int64.ofInt_toInt] at H
  exact H
/-- what a writer's lines have told so far -/
def pw_Lw (h : pm_H) : Prop := (pw_g h 161 0 < 0 ∨ pw_Ln h 4400 (pw_g h 161 0) (pw_g h 125 32)) ∧ pw_g h 161 1 ≤ 11 ∧ pw_g h 161 2 ≤ 11 ∧ pw_g h 161 3 ≤ 10
end
section
/-! the model (printed by wip/tool/mall.py) -/
theorem pw_Q.wk {e e' : Int} {a b : pm_H} (h1 : pw_Q e a b) (he : e' ≤ e) : pw_Q e' a b := ⟨h1.1, h1.2.1, h1.2.2.1, by have := h1.2.2.2.1; omega, h1.2.2.2.2⟩
/-- the answers of isSign and isWord -/
def pw_sg (h : pm_H) (c : Int) : Int := if pw_g h 125 8 = 0 ∧ pw_g h 127 (pw_g h 125 7).toNat = 3 ∧ pw_gl h 129 (pw_g h 125 7).toNat = Int64.ofInt c then 1 else 0
def pw_wd (h : pm_H) (w : Int) : Int := if pw_g h 125 8 = 0 ∧ pw_g h 127 (pw_g h 125 7).toNat = 1 ∧ pw_gl h 129 (pw_g h 125 7).toNat = pw_gl h 130 w.toNat then 1 else 0

set_option maxHeartbeats 4000000 in
theorem cm_254 {X : List (Nat × List Value)} {d : Nat} {h : pm_H} (hd : 1 ≤ d) (I : pw_I h) (ch : Int) (hch1 : (-2147483648) ≤ ch) (hch2 : ch ≤ 2147483647) : pw X d h 254 0 [some (.ref 141), some (pw_i ch)] [] (fun h' v => h = h' ∧ ∃ a : Int, v = .inl (some (pw_i a)) ∧ 0 ≤ a ∧ a ≤ 1 ∧ (a = pw_sg h ch ∧ (a = 1 → pw_g h 125 8 = 0 ∧ pw_g h 127 (pw_g h 125 7).toNat = 3))) := by
  have E : pm_ent 254 = some (2, 2, 12, 1, pmc_254) := rfl
  refine pw_ld E (pc' := 1) (st' := [.ref 141]) rfl (fun _ => rfl) ?_
  refine pw_getI2 I E (c := 125) (k := 8) (pc' := 4) rfl rfl rfl rfl rfl rfl (fun hf1a hf1b => ?_)
  refine pw_if E (pc' := 39) rfl (by decide) (by omega) (by omega) ?_ ?_
  · intro hc2
    change pw_g h 125 8 ≠ (0 : Int) at hc2
    refine pw_ld E (pc' := 40) (st' := [pw_i 0]) rfl (fun _ => rfl) ?_
    refine pw_zret E rfl (by omega) ?_
    exact ⟨rfl, ⟨_, rfl, by omega, by omega, ⟨by unfold pw_sg; first | exact (if_pos ⟨by omega, by omega, pw_ceq (by assumption) (by omega)⟩).symm | exact (if_neg (fun q => by first | exact absurd q.1 (by omega) | exact absurd q.2.1 (by omega) | exact absurd q.2.2 (pw_nz (by assumption) (by omega)))).symm, fun _ => ⟨by omega, by omega⟩⟩⟩⟩
  · intro hc3
    change ¬ (pw_g h 125 8 ≠ (0 : Int)) at hc3
    refine pw_ld E (pc' := 8) (st' := [.ref 141]) rfl (fun _ => rfl) ?_
    refine pw_getR (b := 143) I E (c := 125) (k := 4) (pc' := 11) rfl rfl rfl rfl rfl rfl rfl ?_
    refine pw_ld E (pc' := 12) (st' := [.ref 141, .ref 143]) rfl (fun _ => rfl) ?_
    refine pw_getI2 I E (c := 125) (k := 7) (pc' := 15) rfl rfl rfl rfl rfl rfl (fun hf4a hf4b => ?_)
    refine pw_ald2 I E (c := 127) (pc' := 16) rfl rfl rfl (by decide) rfl (by decide) (by omega) (by omega) rfl (fun hf5a hf5b => ?_)
    refine pw_ld E (pc' := 17) (st' := [pw_i 3, pw_i (pw_g h 127 ((pw_g h 125 7).toNat))]) rfl (fun _ => rfl) ?_
    refine pw_if2 E (pc' := 39) rfl (by decide) (by omega) (by omega) (by decide) (by decide) ?_ ?_
    · intro hc6
      change pw_g h 127 ((pw_g h 125 7).toNat) ≠ (3 : Int) at hc6
      refine pw_ld E (pc' := 40) (st' := [pw_i 0]) rfl (fun _ => rfl) ?_
      refine pw_zret E rfl (by omega) ?_
      exact ⟨rfl, ⟨_, rfl, by omega, by omega, ⟨by unfold pw_sg; first | exact (if_pos ⟨by omega, by omega, pw_ceq (by assumption) (by omega)⟩).symm | exact (if_neg (fun q => by first | exact absurd q.1 (by omega) | exact absurd q.2.1 (by omega) | exact absurd q.2.2 (pw_nz (by assumption) (by omega)))).symm, fun _ => ⟨by omega, by omega⟩⟩⟩⟩
    · intro hc7
      change ¬ (pw_g h 127 ((pw_g h 125 7).toNat) ≠ (3 : Int)) at hc7
      refine pw_ld E (pc' := 21) (st' := [.ref 141]) rfl (fun _ => rfl) ?_
      refine pw_getR (b := 145) I E (c := 125) (k := 6) (pc' := 24) rfl rfl rfl rfl rfl rfl rfl ?_
      refine pw_ld E (pc' := 25) (st' := [.ref 141, .ref 145]) rfl (fun _ => rfl) ?_
      refine pw_getI2 I E (c := 125) (k := 7) (pc' := 28) rfl rfl rfl rfl rfl rfl (fun hf8a hf8b => ?_)
      refine pw_lald I E (c := 129) (pc' := 29) rfl rfl rfl (by decide) (by omega) (by omega) rfl ?_
      refine pw_ld E (pc' := 30) (st' := [pw_i ch, .long (pw_gl h 129 ((pw_g h 125 7).toNat))]) rfl (fun _ => rfl) ?_
      refine pw_i2l E (pc' := 31) rfl rfl (by omega) (by omega) ?_
      refine pw_lcmp E (pc' := 32) rfl rfl (fun c9 hc9 => ?_)
      refine pw_if E (pc' := 39) rfl (by decide) (by omega) (by omega) ?_ ?_
      · intro hc10
        change c9 ≠ (0 : Int) at hc10
        refine pw_ld E (pc' := 40) (st' := [pw_i 0]) rfl (fun _ => rfl) ?_
        refine pw_zret E rfl (by omega) ?_
        exact ⟨rfl, ⟨_, rfl, by omega, by omega, ⟨by unfold pw_sg; first | exact (if_pos ⟨by omega, by omega, pw_ceq (by assumption) (by omega)⟩).symm | exact (if_neg (fun q => by first | exact absurd q.1 (by omega) | exact absurd q.2.1 (by omega) | exact absurd q.2.2 (pw_nz (by assumption) (by omega)))).symm, fun _ => ⟨by omega, by omega⟩⟩⟩⟩
      · intro hc11
        change ¬ (c9 ≠ (0 : Int)) at hc11
        refine pw_ld E (pc' := 36) (st' := [pw_i 1]) rfl (fun _ => rfl) ?_
        refine pw_goto E (pc' := 40) rfl (by decide) ?_
        refine pw_zret E rfl (by omega) ?_
        exact ⟨rfl, ⟨_, rfl, by omega, by omega, ⟨by unfold pw_sg; first | exact (if_pos ⟨by omega, by omega, pw_ceq (by assumption) (by omega)⟩).symm | exact (if_neg (fun q => by first | exact absurd q.1 (by omega) | exact absurd q.2.1 (by omega) | exact absurd q.2.2 (pw_nz (by assumption) (by omega)))).symm, fun _ => ⟨by omega, by omega⟩⟩⟩⟩
set_option maxHeartbeats 4000000 in
theorem cm_244 {X : List (Nat × List Value)} {d : Nat} {h : pm_H} (hd : 1 ≤ d) (I : pw_I h) (wd : Int) (hwd1 : 0 ≤ wd) (hwd2 : wd ≤ 27) : pw X d h 244 0 [some (.ref 141), some (pw_i wd)] [] (fun h' v => h = h' ∧ ∃ a : Int, v = .inl (some (pw_i a)) ∧ 0 ≤ a ∧ a ≤ 1 ∧ (a = pw_wd h wd ∧ (a = 1 → pw_g h 125 8 = 0 ∧ pw_g h 127 (pw_g h 125 7).toNat = 1))) := by
  have E : pm_ent 244 = some (2, 2, 12, 1, pmc_244) := rfl
  refine pw_ld E (pc' := 1) (st' := [.ref 141]) rfl (fun _ => rfl) ?_
  refine pw_getI2 I E (c := 125) (k := 8) (pc' := 4) rfl rfl rfl rfl rfl rfl (fun hf1a hf1b => ?_)
  refine pw_if E (pc' := 43) rfl (by decide) (by omega) (by omega) ?_ ?_
  · intro hc2
    change pw_g h 125 8 ≠ (0 : Int) at hc2
    refine pw_ld E (pc' := 44) (st' := [pw_i 0]) rfl (fun _ => rfl) ?_
    refine pw_zret E rfl (by omega) ?_
    exact ⟨rfl, ⟨_, rfl, by omega, by omega, ⟨by unfold pw_wd; first | exact (if_pos ⟨by omega, by omega, pw_ceq (by assumption) (by omega)⟩).symm | exact (if_neg (fun q => by first | exact absurd q.1 (by omega) | exact absurd q.2.1 (by omega) | exact absurd q.2.2 (pw_nz (by assumption) (by omega)))).symm, fun _ => ⟨by omega, by omega⟩⟩⟩⟩
  · intro hc3
    change ¬ (pw_g h 125 8 ≠ (0 : Int)) at hc3
    refine pw_ld E (pc' := 8) (st' := [.ref 141]) rfl (fun _ => rfl) ?_
    refine pw_getR (b := 143) I E (c := 125) (k := 4) (pc' := 11) rfl rfl rfl rfl rfl rfl rfl ?_
    refine pw_ld E (pc' := 12) (st' := [.ref 141, .ref 143]) rfl (fun _ => rfl) ?_
    refine pw_getI2 I E (c := 125) (k := 7) (pc' := 15) rfl rfl rfl rfl rfl rfl (fun hf4a hf4b => ?_)
    refine pw_ald2 I E (c := 127) (pc' := 16) rfl rfl rfl (by decide) rfl (by decide) (by omega) (by omega) rfl (fun hf5a hf5b => ?_)
    refine pw_ld E (pc' := 17) (st' := [pw_i 1, pw_i (pw_g h 127 ((pw_g h 125 7).toNat))]) rfl (fun _ => rfl) ?_
    refine pw_if2 E (pc' := 43) rfl (by decide) (by omega) (by omega) (by decide) (by decide) ?_ ?_
    · intro hc6
      change pw_g h 127 ((pw_g h 125 7).toNat) ≠ (1 : Int) at hc6
      refine pw_ld E (pc' := 44) (st' := [pw_i 0]) rfl (fun _ => rfl) ?_
      refine pw_zret E rfl (by omega) ?_
      exact ⟨rfl, ⟨_, rfl, by omega, by omega, ⟨by unfold pw_wd; first | exact (if_pos ⟨by omega, by omega, pw_ceq (by assumption) (by omega)⟩).symm | exact (if_neg (fun q => by first | exact absurd q.1 (by omega) | exact absurd q.2.1 (by omega) | exact absurd q.2.2 (pw_nz (by assumption) (by omega)))).symm, fun _ => ⟨by omega, by omega⟩⟩⟩⟩
    · intro hc7
      change ¬ (pw_g h 127 ((pw_g h 125 7).toNat) ≠ (1 : Int)) at hc7
      refine pw_ld E (pc' := 21) (st' := [.ref 141]) rfl (fun _ => rfl) ?_
      refine pw_getR (b := 145) I E (c := 125) (k := 6) (pc' := 24) rfl rfl rfl rfl rfl rfl rfl ?_
      refine pw_ld E (pc' := 25) (st' := [.ref 141, .ref 145]) rfl (fun _ => rfl) ?_
      refine pw_getI2 I E (c := 125) (k := 7) (pc' := 28) rfl rfl rfl rfl rfl rfl (fun hf8a hf8b => ?_)
      refine pw_lald I E (c := 129) (pc' := 29) rfl rfl rfl (by decide) (by omega) (by omega) rfl ?_
      refine pw_ld E (pc' := 30) (st' := [.ref 141, .long (pw_gl h 129 ((pw_g h 125 7).toNat))]) rfl (fun _ => rfl) ?_
      refine pw_getR (b := 146) I E (c := 125) (k := 9) (pc' := 33) rfl rfl rfl rfl rfl rfl rfl ?_
      refine pw_ld E (pc' := 34) (st' := [pw_i wd, .ref 146, .long (pw_gl h 129 ((pw_g h 125 7).toNat))]) rfl (fun _ => rfl) ?_
      refine pw_lald I E (c := 130) (pc' := 35) rfl rfl rfl (by decide) (by omega) (by omega) rfl ?_
      refine pw_lcmp E (pc' := 36) rfl rfl (fun c9 hc9 => ?_)
      refine pw_if E (pc' := 43) rfl (by decide) (by omega) (by omega) ?_ ?_
      · intro hc10
        change c9 ≠ (0 : Int) at hc10
        refine pw_ld E (pc' := 44) (st' := [pw_i 0]) rfl (fun _ => rfl) ?_
        refine pw_zret E rfl (by omega) ?_
        exact ⟨rfl, ⟨_, rfl, by omega, by omega, ⟨by unfold pw_wd; first | exact (if_pos ⟨by omega, by omega, pw_ceq (by assumption) (by omega)⟩).symm | exact (if_neg (fun q => by first | exact absurd q.1 (by omega) | exact absurd q.2.1 (by omega) | exact absurd q.2.2 (pw_nz (by assumption) (by omega)))).symm, fun _ => ⟨by omega, by omega⟩⟩⟩⟩
      · intro hc11
        change ¬ (c9 ≠ (0 : Int)) at hc11
        refine pw_ld E (pc' := 40) (st' := [pw_i 1]) rfl (fun _ => rfl) ?_
        refine pw_goto E (pc' := 44) rfl (by decide) ?_
        refine pw_zret E rfl (by omega) ?_
        exact ⟨rfl, ⟨_, rfl, by omega, by omega, ⟨by unfold pw_wd; first | exact (if_pos ⟨by omega, by omega, pw_ceq (by assumption) (by omega)⟩).symm | exact (if_neg (fun q => by first | exact absurd q.1 (by omega) | exact absurd q.2.1 (by omega) | exact absurd q.2.2 (pw_nz (by assumption) (by omega)))).symm, fun _ => ⟨by omega, by omega⟩⟩⟩⟩
set_option maxHeartbeats 4000000 in
theorem cm_253 {X : List (Nat × List Value)} {d : Nat} {h : pm_H} (hd : 2 ≤ d) (I : pw_I h)  : pw X d h 253 0 [some (.ref 141), none, none] [] (fun h' v => h = h' ∧ ∃ a : Int, v = .inl (some (pw_i a)) ∧ (-1) ≤ a ∧ a ≤ 9 ∧ (a < 0 ∨ (0 ≤ a ∧ a ≤ 9 ∧ pw_g h 127 (pw_g h 125 7).toNat = 1))) := by
  have E : pm_ent 253 = some (1, 3, 12, 0, pmc_253) := rfl
  refine pw_ld E (pc' := 1) (st' := [pw_i ((-1))]) rfl (fun _ => rfl) ?_
  refine pw_istn E (pc' := 2) (ls' := [some (.ref 141), some (pw_i ((-1))), none]) rfl rfl rfl rfl ?_
  refine pw_bip E (pc' := 4) rfl rfl (by decide) ?_
  refine pw_istn E (pc' := 5) (ls' := [some (.ref 141), some (pw_i ((-1))), some (pw_i 8)]) rfl rfl rfl rfl ?_
  have L5 : ∀ (n5 : Nat) (k5_1 : Int) (k5_2 : Int), (-1) ≤ k5_1 → k5_1 ≤ 9 → 8 ≤ k5_2 → k5_2 ≤ 18 → k5_1 < 0 ∨ (0 ≤ k5_1 ∧ k5_1 ≤ 9 ∧ pw_g h 127 (pw_g h 125 7).toNat = 1) → (18 - k5_2).toNat = n5 → pw X d h 253 5 [some (.ref 141), some (pw_i k5_1), some (pw_i k5_2)] [] (fun h' v => h = h' ∧ ∃ a : Int, v = .inl (some (pw_i a)) ∧ (-1) ≤ a ∧ a ≤ 9 ∧ (a < 0 ∨ (0 ≤ a ∧ a ≤ 9 ∧ pw_g h 127 (pw_g h 125 7).toNat = 1))) := by
    intro n5
    induction n5 using Nat.strongRecOn with
    | ind n5 ih5 =>
      intro k5_1 k5_2 k5_1a k5_1b k5_2a k5_2b hx5_0 hm5
      refine pw_ld E (pc' := 6) (st' := [pw_i k5_2]) rfl (fun _ => rfl) ?_
      refine pw_bip E (pc' := 8) rfl rfl (by decide) ?_
      refine pw_if2 E (pc' := 41) rfl (by decide) (by omega) (by omega) (by decide) (by decide) ?_ ?_
      · intro hc1
        change (18 : Int) ≤ k5_2 at hc1
        refine pw_ld E (pc' := 42) (st' := [pw_i 0]) rfl (fun _ => rfl) ?_
        refine pw_istn E (pc' := 43) (ls' := [some (.ref 141), some (pw_i k5_1), some (pw_i 0)]) rfl rfl rfl rfl ?_
        have L43 : ∀ (n43 : Nat) (k43_1 : Int) (k43_2 : Int), (-1) ≤ k43_1 → k43_1 ≤ 9 → 0 ≤ k43_2 → k43_2 ≤ 9 → k43_1 < 0 ∨ (0 ≤ k43_1 ∧ k43_1 ≤ 9 ∧ pw_g h 127 (pw_g h 125 7).toNat = 1) → (9 - k43_2).toNat = n43 → pw X d h 253 43 [some (.ref 141), some (pw_i k43_1), some (pw_i k43_2)] [] (fun h' v => h = h' ∧ ∃ a : Int, v = .inl (some (pw_i a)) ∧ (-1) ≤ a ∧ a ≤ 9 ∧ (a < 0 ∨ (0 ≤ a ∧ a ≤ 9 ∧ pw_g h 127 (pw_g h 125 7).toNat = 1))) := by
          intro n43
          induction n43 using Nat.strongRecOn with
          | ind n43 ih43 =>
            intro k43_1 k43_2 k43_1a k43_1b k43_2a k43_2b hx43_0 hm43
            refine pw_ld E (pc' := 44) (st' := [pw_i k43_2]) rfl (fun _ => rfl) ?_
            refine pw_bip E (pc' := 46) rfl rfl (by decide) ?_
            refine pw_if2 E (pc' := 81) rfl (by decide) (by omega) (by omega) (by decide) (by decide) ?_ ?_
            · intro hc2
              change (9 : Int) ≤ k43_2 at hc2
              refine pw_ld E (pc' := 82) (st' := [pw_i k43_1]) rfl (fun _ => rfl) ?_
              refine pw_iret E rfl ?_
              exact ⟨rfl, ⟨_, rfl, by omega, by omega, by omega⟩⟩
            · intro hc3
              change ¬ ((9 : Int) ≤ k43_2) at hc3
              refine pw_ld E (pc' := 50) (st' := [.ref 141]) rfl (fun _ => rfl) ?_
              refine pw_getI2 I E (c := 125) (k := 45) (pc' := 53) rfl rfl rfl rfl rfl rfl (fun hf4a hf4b => ?_)
              refine pw_if E (pc' := 81) rfl (by decide) (by omega) (by omega) ?_ ?_
              · intro hc5
                change pw_g h 125 45 = (0 : Int) at hc5
                refine pw_ld E (pc' := 82) (st' := [pw_i k43_1]) rfl (fun _ => rfl) ?_
                refine pw_iret E rfl ?_
                exact ⟨rfl, ⟨_, rfl, by omega, by omega, by omega⟩⟩
              · intro hc6
                change ¬ (pw_g h 125 45 = (0 : Int)) at hc6
                refine pw_ld E (pc' := 57) (st' := [.ref 141]) rfl (fun _ => rfl) ?_
                refine pw_ld E (pc' := 58) (st' := [.ref 141, .ref 141]) rfl (fun _ => rfl) ?_
                refine pw_getR (b := 164) I E (c := 125) (k := 35) (pc' := 61) rfl rfl rfl rfl rfl rfl rfl ?_
                refine pw_ld E (pc' := 62) (st' := [pw_i k43_2, .ref 164, .ref 141]) rfl (fun _ => rfl) ?_
                refine pw_ald2 I E (c := 148) (pc' := 63) rfl rfl rfl (by decide) rfl (by decide) (by omega) (by omega) rfl (fun hf7a hf7b => ?_)
                obtain ⟨f8l, f8h, -⟩ := pw_obj (c := 125) I rfl
                refine pw_call (m' := 244) (As := [.ref 141, pw_i (pw_g h 148 (k43_2.toNat))]) (rest := []) (ls'' := [some (.ref 141), some (pw_i (pw_g h 148 (k43_2.toNat)))]) (Nat.le_trans (by decide) hd) E rfl (fun _ => pw_iV rfl rfl rfl rfl (pw_cellI f8h rfl)) (rfl : pm_ent 244 = some (2, 2, 12, 1, pmc_244)) rfl rfl (cm_244 (pw_dp hd (by decide)) I (pw_g h 148 (k43_2.toNat)) (by omega) (by omega)) ?_
                rintro u10 v9 ⟨rfl, x11, rfl, hx11a, hx11b, hx11r⟩
                refine ⟨_, rfl, ?_⟩
                show pw X d h 253 66 [some (.ref 141), some (pw_i k43_1), some (pw_i k43_2)] [pw_i x11] _
                change x11 = pw_wd h (pw_g h 148 (k43_2.toNat)) ∧ (x11 = 1 → pw_g h 125 8 = 0 ∧ pw_g h 127 (pw_g h 125 7).toNat = 1) at hx11r
                rcases (by omega : x11 = 1 ∨ x11 = 0) with hb12 | hb12
                · skip
                  refine pw_if E (pc' := 73) rfl (by decide) (by omega) (by omega) ?_ ?_
                  · intro hc13
                    change x11 = (0 : Int) at hc13
                    exfalso; omega
                  · intro hc14
                    change ¬ (x11 = (0 : Int)) at hc14
                    refine pw_ld E (pc' := 70) (st' := [pw_i k43_2]) rfl (fun _ => rfl) ?_
                    refine pw_goto E (pc' := 74) rfl (by decide) ?_
                    refine pw_istn E (pc' := 75) (ls' := [some (.ref 141), some (pw_i k43_2), some (pw_i k43_2)]) rfl rfl rfl rfl ?_
                    refine pw_inc E (pc' := 78) (ls' := [some (.ref 141), some (pw_i k43_2), some (pw_i (k43_2 + 1))]) rfl rfl rfl rfl ?_
                    refine pw_goto E (pc' := 43) rfl (by decide) ?_
                    exact ih43 _ (by omega) (k43_2) (k43_2 + 1)  (by omega) (by omega) (by omega) (by omega) (by omega) rfl
                · skip
                  refine pw_if E (pc' := 73) rfl (by decide) (by omega) (by omega) ?_ ?_
                  · intro hc16
                    change x11 = (0 : Int) at hc16
                    refine pw_ld E (pc' := 74) (st' := [pw_i k43_1]) rfl (fun _ => rfl) ?_
                    refine pw_istn E (pc' := 75) (ls' := [some (.ref 141), some (pw_i k43_1), some (pw_i k43_2)]) rfl rfl rfl rfl ?_
                    refine pw_inc E (pc' := 78) (ls' := [some (.ref 141), some (pw_i k43_1), some (pw_i (k43_2 + 1))]) rfl rfl rfl rfl ?_
                    refine pw_goto E (pc' := 43) rfl (by decide) ?_
                    exact ih43 _ (by omega) (k43_1) (k43_2 + 1)  (by omega) (by omega) (by omega) (by omega) (by omega) rfl
                  · intro hc17
                    change ¬ (x11 = (0 : Int)) at hc17
                    exfalso; omega
        exact L43 _ (k5_1) (0)  (by omega) (by omega) (by omega) (by omega) (by omega) rfl
      · intro hc18
        change ¬ ((18 : Int) ≤ k5_2) at hc18
        refine pw_ld E (pc' := 12) (st' := [.ref 141]) rfl (fun _ => rfl) ?_
        refine pw_getI2 I E (c := 125) (k := 45) (pc' := 15) rfl rfl rfl rfl rfl rfl (fun hf19a hf19b => ?_)
        refine pw_if E (pc' := 41) rfl (by decide) (by omega) (by omega) ?_ ?_
        · intro hc20
          change pw_g h 125 45 ≠ (0 : Int) at hc20
          refine pw_ld E (pc' := 42) (st' := [pw_i 0]) rfl (fun _ => rfl) ?_
          refine pw_istn E (pc' := 43) (ls' := [some (.ref 141), some (pw_i k5_1), some (pw_i 0)]) rfl rfl rfl rfl ?_
          have L43 : ∀ (n43 : Nat) (k43_1 : Int) (k43_2 : Int), (-1) ≤ k43_1 → k43_1 ≤ 9 → 0 ≤ k43_2 → k43_2 ≤ 9 → k43_1 < 0 ∨ (0 ≤ k43_1 ∧ k43_1 ≤ 9 ∧ pw_g h 127 (pw_g h 125 7).toNat = 1) → (9 - k43_2).toNat = n43 → pw X d h 253 43 [some (.ref 141), some (pw_i k43_1), some (pw_i k43_2)] [] (fun h' v => h = h' ∧ ∃ a : Int, v = .inl (some (pw_i a)) ∧ (-1) ≤ a ∧ a ≤ 9 ∧ (a < 0 ∨ (0 ≤ a ∧ a ≤ 9 ∧ pw_g h 127 (pw_g h 125 7).toNat = 1))) := by
            intro n43
            induction n43 using Nat.strongRecOn with
            | ind n43 ih43 =>
              intro k43_1 k43_2 k43_1a k43_1b k43_2a k43_2b hx43_0 hm43
              refine pw_ld E (pc' := 44) (st' := [pw_i k43_2]) rfl (fun _ => rfl) ?_
              refine pw_bip E (pc' := 46) rfl rfl (by decide) ?_
              refine pw_if2 E (pc' := 81) rfl (by decide) (by omega) (by omega) (by decide) (by decide) ?_ ?_
              · intro hc21
                change (9 : Int) ≤ k43_2 at hc21
                refine pw_ld E (pc' := 82) (st' := [pw_i k43_1]) rfl (fun _ => rfl) ?_
                refine pw_iret E rfl ?_
                exact ⟨rfl, ⟨_, rfl, by omega, by omega, by omega⟩⟩
              · intro hc22
                change ¬ ((9 : Int) ≤ k43_2) at hc22
                refine pw_ld E (pc' := 50) (st' := [.ref 141]) rfl (fun _ => rfl) ?_
                refine pw_getI2 I E (c := 125) (k := 45) (pc' := 53) rfl rfl rfl rfl rfl rfl (fun hf23a hf23b => ?_)
                refine pw_if E (pc' := 81) rfl (by decide) (by omega) (by omega) ?_ ?_
                · intro hc24
                  change pw_g h 125 45 = (0 : Int) at hc24
                  exfalso; omega
                · intro hc25
                  change ¬ (pw_g h 125 45 = (0 : Int)) at hc25
                  refine pw_ld E (pc' := 57) (st' := [.ref 141]) rfl (fun _ => rfl) ?_
                  refine pw_ld E (pc' := 58) (st' := [.ref 141, .ref 141]) rfl (fun _ => rfl) ?_
                  refine pw_getR (b := 164) I E (c := 125) (k := 35) (pc' := 61) rfl rfl rfl rfl rfl rfl rfl ?_
                  refine pw_ld E (pc' := 62) (st' := [pw_i k43_2, .ref 164, .ref 141]) rfl (fun _ => rfl) ?_
                  refine pw_ald2 I E (c := 148) (pc' := 63) rfl rfl rfl (by decide) rfl (by decide) (by omega) (by omega) rfl (fun hf26a hf26b => ?_)
                  obtain ⟨f27l, f27h, -⟩ := pw_obj (c := 125) I rfl
                  refine pw_call (m' := 244) (As := [.ref 141, pw_i (pw_g h 148 (k43_2.toNat))]) (rest := []) (ls'' := [some (.ref 141), some (pw_i (pw_g h 148 (k43_2.toNat)))]) (Nat.le_trans (by decide) hd) E rfl (fun _ => pw_iV rfl rfl rfl rfl (pw_cellI f27h rfl)) (rfl : pm_ent 244 = some (2, 2, 12, 1, pmc_244)) rfl rfl (cm_244 (pw_dp hd (by decide)) I (pw_g h 148 (k43_2.toNat)) (by omega) (by omega)) ?_
                  rintro u29 v28 ⟨rfl, x30, rfl, hx30a, hx30b, hx30r⟩
                  refine ⟨_, rfl, ?_⟩
                  show pw X d h 253 66 [some (.ref 141), some (pw_i k43_1), some (pw_i k43_2)] [pw_i x30] _
                  change x30 = pw_wd h (pw_g h 148 (k43_2.toNat)) ∧ (x30 = 1 → pw_g h 125 8 = 0 ∧ pw_g h 127 (pw_g h 125 7).toNat = 1) at hx30r
                  rcases (by omega : x30 = 1 ∨ x30 = 0) with hb31 | hb31
                  · skip
                    refine pw_if E (pc' := 73) rfl (by decide) (by omega) (by omega) ?_ ?_
                    · intro hc32
                      change x30 = (0 : Int) at hc32
                      exfalso; omega
                    · intro hc33
                      change ¬ (x30 = (0 : Int)) at hc33
                      refine pw_ld E (pc' := 70) (st' := [pw_i k43_2]) rfl (fun _ => rfl) ?_
                      refine pw_goto E (pc' := 74) rfl (by decide) ?_
                      refine pw_istn E (pc' := 75) (ls' := [some (.ref 141), some (pw_i k43_2), some (pw_i k43_2)]) rfl rfl rfl rfl ?_
                      refine pw_inc E (pc' := 78) (ls' := [some (.ref 141), some (pw_i k43_2), some (pw_i (k43_2 + 1))]) rfl rfl rfl rfl ?_
                      refine pw_goto E (pc' := 43) rfl (by decide) ?_
                      exact ih43 _ (by omega) (k43_2) (k43_2 + 1)  (by omega) (by omega) (by omega) (by omega) (by omega) rfl
                  · skip
                    refine pw_if E (pc' := 73) rfl (by decide) (by omega) (by omega) ?_ ?_
                    · intro hc35
                      change x30 = (0 : Int) at hc35
                      refine pw_ld E (pc' := 74) (st' := [pw_i k43_1]) rfl (fun _ => rfl) ?_
                      refine pw_istn E (pc' := 75) (ls' := [some (.ref 141), some (pw_i k43_1), some (pw_i k43_2)]) rfl rfl rfl rfl ?_
                      refine pw_inc E (pc' := 78) (ls' := [some (.ref 141), some (pw_i k43_1), some (pw_i (k43_2 + 1))]) rfl rfl rfl rfl ?_
                      refine pw_goto E (pc' := 43) rfl (by decide) ?_
                      exact ih43 _ (by omega) (k43_1) (k43_2 + 1)  (by omega) (by omega) (by omega) (by omega) (by omega) rfl
                    · intro hc36
                      change ¬ (x30 = (0 : Int)) at hc36
                      exfalso; omega
          exact L43 _ (k5_1) (0)  (by omega) (by omega) (by omega) (by omega) (by omega) rfl
        · intro hc37
          change ¬ (pw_g h 125 45 ≠ (0 : Int)) at hc37
          refine pw_ld E (pc' := 19) (st' := [.ref 141]) rfl (fun _ => rfl) ?_
          refine pw_ld E (pc' := 20) (st' := [pw_i k5_2, .ref 141]) rfl (fun _ => rfl) ?_
          obtain ⟨f38l, f38h, -⟩ := pw_obj (c := 125) I rfl
          refine pw_call (m' := 244) (As := [.ref 141, pw_i k5_2]) (rest := []) (ls'' := [some (.ref 141), some (pw_i k5_2)]) (Nat.le_trans (by decide) hd) E rfl (fun _ => pw_iV rfl rfl rfl rfl (pw_cellI f38h rfl)) (rfl : pm_ent 244 = some (2, 2, 12, 1, pmc_244)) rfl rfl (cm_244 (pw_dp hd (by decide)) I (k5_2) (by omega) (by omega)) ?_
          rintro u40 v39 ⟨rfl, x41, rfl, hx41a, hx41b, hx41r⟩
          refine ⟨_, rfl, ?_⟩
          show pw X d h 253 23 [some (.ref 141), some (pw_i k5_1), some (pw_i k5_2)] [pw_i x41] _
          change x41 = pw_wd h k5_2 ∧ (x41 = 1 → pw_g h 125 8 = 0 ∧ pw_g h 127 (pw_g h 125 7).toNat = 1) at hx41r
          rcases (by omega : x41 = 1 ∨ x41 = 0) with hb42 | hb42
          · skip
            refine pw_if E (pc' := 33) rfl (by decide) (by omega) (by omega) ?_ ?_
            · intro hc43
              change x41 = (0 : Int) at hc43
              exfalso; omega
            · intro hc44
              change ¬ (x41 = (0 : Int)) at hc44
              refine pw_ld E (pc' := 27) (st' := [pw_i k5_2]) rfl (fun _ => rfl) ?_
              refine pw_bip E (pc' := 29) rfl rfl (by decide) ?_
              refine pw_sub E (pc' := 30) rfl rfl ?_
              refine pw_goto E (pc' := 34) rfl (by decide) ?_
              refine pw_istn E (pc' := 35) (ls' := [some (.ref 141), some (pw_i (k5_2 - 8)), some (pw_i k5_2)]) rfl rfl rfl rfl ?_
              refine pw_inc E (pc' := 38) (ls' := [some (.ref 141), some (pw_i (k5_2 - 8)), some (pw_i (k5_2 + 1))]) rfl rfl rfl rfl ?_
              refine pw_goto E (pc' := 5) rfl (by decide) ?_
              exact ih5 _ (by omega) (k5_2 - 8) (k5_2 + 1)  (by omega) (by omega) (by omega) (by omega) (by omega) rfl
          · skip
            refine pw_if E (pc' := 33) rfl (by decide) (by omega) (by omega) ?_ ?_
            · intro hc46
              change x41 = (0 : Int) at hc46
              refine pw_ld E (pc' := 34) (st' := [pw_i k5_1]) rfl (fun _ => rfl) ?_
              refine pw_istn E (pc' := 35) (ls' := [some (.ref 141), some (pw_i k5_1), some (pw_i k5_2)]) rfl rfl rfl rfl ?_
              refine pw_inc E (pc' := 38) (ls' := [some (.ref 141), some (pw_i k5_1), some (pw_i (k5_2 + 1))]) rfl rfl rfl rfl ?_
              refine pw_goto E (pc' := 5) rfl (by decide) ?_
              exact ih5 _ (by omega) (k5_1) (k5_2 + 1)  (by omega) (by omega) (by omega) (by omega) (by omega) rfl
            · intro hc47
              change ¬ (x41 = (0 : Int)) at hc47
              exfalso; omega
  exact L5 _ ((-1)) (8)  (by omega) (by omega) (by omega) (by omega) (by omega) rfl
set_option maxHeartbeats 4000000 in
theorem cm_245 {X : List (Nat × List Value)} {d : Nat} {h : pm_H} (hd : 1 ≤ d) (I : pw_I h) {n : Nat} (A : pw_A n h) (wh : Int) (hwh1 : 1 ≤ wh) (hwh2 : wh ≤ 5) : pw X d h 245 0 [some (.ref 141), some (pw_i wh)] [] (fun h' v => pw_I h' ∧ pw_E [125] h h' ∧ (pw_A n h' ∧ pw_R 0 0 0 h h' ∧ 1 ≤ pw_g h' 125 8) ∧ (v = .inl none)) := by
  have E : pm_ent 245 = some (2, 2, 12, 4, pmc_245) := rfl
  have E0 : pw_E [125] h h := pw_E.rf _ _
  have R0 : pw_R 0 0 0 h h := pw_R.rf A.2.2.2.2.2
  have hn1 : n ≤ 1000 := A.1
  have hA1 : pw_g h 125 7 ≤ n ∧ 0 ≤ pw_g h 125 8 ∧ 0 ≤ pw_g h 125 7 ∧ 0 ≤ pw_g h 125 32 := A.2.2
  refine pw_ld E (pc' := 1) (st' := [.ref 141]) rfl (fun _ => rfl) ?_
  refine pw_getI2 I E (c := 125) (k := 8) (pc' := 4) rfl rfl rfl rfl rfl rfl (fun hf2a hf2b => ?_)
  refine pw_if E (pc' := 25) rfl (by decide) (by omega) (by omega) ?_ ?_
  · intro hc3
    change pw_g h 125 8 ≠ (0 : Int) at hc3
    refine pw_vret E rfl ?_
    exact ⟨I, E0, ⟨A, R0, by omega⟩, rfl⟩
  · intro hc4
    change ¬ (pw_g h 125 8 ≠ (0 : Int)) at hc4
    refine pw_ld E (pc' := 8) (st' := [.ref 141]) rfl (fun _ => rfl) ?_
    refine pw_ld E (pc' := 9) (st' := [pw_i wh, .ref 141]) rfl (fun _ => rfl) ?_
    refine pw_bip E (pc' := 11) rfl rfl (by decide) ?_
    refine pw_ld E (pc' := 12) (st' := [.ref 141, pw_i 16, pw_i wh, .ref 141]) rfl (fun _ => rfl) ?_
    refine pw_getR (b := 144) I E (c := 125) (k := 5) (pc' := 15) rfl rfl rfl rfl rfl rfl rfl ?_
    refine pw_ld E (pc' := 16) (st' := [.ref 141, .ref 144, pw_i 16, pw_i wh, .ref 141]) rfl (fun _ => rfl) ?_
    refine pw_getI2 I E (c := 125) (k := 7) (pc' := 19) rfl rfl rfl rfl rfl rfl (fun hf5a hf5b => ?_)
    refine pw_ald2 I E (c := 128) (pc' := 20) rfl rfl rfl (by decide) rfl (by decide) (by omega) (by omega) rfl (fun hf6a hf6b => ?_)
    refine pw_mul E (pc' := 21) rfl rfl ?_
    refine pw_add E (pc' := 22) rfl rfl ?_
    refine pw_putI I E (c := 125) (k := 8) (pc' := 25) rfl rfl rfl rfl (by omega) (by omega) (by omega) (by omega) rfl rfl ?_
    intro h7I h7E
    generalize h7w : pw_w h 125 8 (pw_i (wh + (16 * (pw_g h 128 ((pw_g h 125 7).toNat))))) = h7 at h7I h7E ⊢
    have h7F := E0.tr (h7E.wk (W' := [125]) (by first | rfl | simp))
    refine pw_vret E rfl ?_
    have e8 : pw_g h7 125 8 = wh + (16 * (pw_g h 128 ((pw_g h 125 7).toNat))) := by rw [← h7w]; exact pw_g_eq (c := 125) (k := 8) I rfl rfl (by omega) (by omega)
    have e7 : pw_g h7 125 7 = pw_g h 125 7 := by rw [← h7w]; exact pw_g_ne (by omega)
    have e9 : pw_g h7 125 32 = pw_g h 125 32 := by rw [← h7w]; exact pw_g_ne (by omega)
    exact ⟨h7I, h7F, ⟨⟨hn1, by rw [← h7w, pw_g_ne (by omega)]; exact A.2.1, by omega, by omega, by omega, by omega⟩, pw_R.same (by decide) (by omega) (by omega) (by omega) e9 (fun j => by rw [← h7w]; exact pw_g_ne (by omega)) (fun j => by rw [← h7w]; exact pw_g_ne (by omega)), by omega⟩, rfl⟩
set_option maxHeartbeats 4000000 in
theorem cm_247 {X : List (Nat × List Value)} {d : Nat} {h : pm_H} (hd : 2 ≤ d) (I : pw_I h) {n : Nat} (A : pw_A n h) (wd : Int) (hwd1 : 0 ≤ wd) (hwd2 : wd ≤ 27) : pw X d h 247 0 [some (.ref 141), some (pw_i wd), none] [] (fun h' v => ∃ a : Int, v = .inl (some (pw_i a)) ∧ a = pw_wd h wd ∧ ((a = 0 ∧ h = h') ∨ (a = 1 ∧ pw_I h' ∧ pw_E [125] h h' ∧ pw_A n h' ∧ pw_R 1 0 0 h h' ∧ pw_g h' 125 7 = pw_g h 125 7 + 1))) := by
  have E : pm_ent 247 = some (2, 3, 12, 1, pmc_247) := rfl
  have E0 : pw_E [125] h h := pw_E.rf _ _
  have R0 : pw_R 0 0 0 h h := pw_R.rf A.2.2.2.2.2
  have hn1 : n ≤ 1000 := A.1
  have hA1 : pw_g h 125 7 ≤ n ∧ 0 ≤ pw_g h 125 8 ∧ 0 ≤ pw_g h 125 7 ∧ 0 ≤ pw_g h 125 32 := A.2.2
  refine pw_ld E (pc' := 1) (st' := [.ref 141]) rfl (fun _ => rfl) ?_
  refine pw_ld E (pc' := 2) (st' := [pw_i wd, .ref 141]) rfl (fun _ => rfl) ?_
  obtain ⟨f2l, f2h, -⟩ := pw_obj (c := 125) I rfl
  refine pw_call (m' := 244) (As := [.ref 141, pw_i wd]) (rest := []) (ls'' := [some (.ref 141), some (pw_i wd)]) (Nat.le_trans (by decide) hd) E rfl (fun _ => pw_iV rfl rfl rfl rfl (pw_cellI f2h rfl)) (rfl : pm_ent 244 = some (2, 2, 12, 1, pmc_244)) rfl rfl (cm_244 (pw_dp hd (by decide)) I (wd) (by omega) (by omega)) ?_
  rintro u4 v3 ⟨rfl, x5, rfl, hx5a, hx5b, hx5r⟩
  refine ⟨_, rfl, ?_⟩
  show pw X d h 247 5 [some (.ref 141), some (pw_i wd), none] [pw_i x5] _
  change x5 = pw_wd h wd ∧ (x5 = 1 → pw_g h 125 8 = 0 ∧ pw_g h 127 (pw_g h 125 7).toNat = 1) at hx5r
  refine pw_istn E (pc' := 6) (ls' := [some (.ref 141), some (pw_i wd), some (pw_i x5)]) rfl rfl rfl rfl ?_
  refine pw_ld E (pc' := 7) (st' := [.ref 141]) rfl (fun _ => rfl) ?_
  refine pw_ld E (pc' := 8) (st' := [.ref 141, .ref 141]) rfl (fun _ => rfl) ?_
  refine pw_getI2 I E (c := 125) (k := 7) (pc' := 11) rfl rfl rfl rfl rfl rfl (fun hf6a hf6b => ?_)
  refine pw_ld E (pc' := 12) (st' := [pw_i x5, pw_i (pw_g h 125 7), .ref 141]) rfl (fun _ => rfl) ?_
  refine pw_if E (pc' := 19) rfl (by decide) (by omega) (by omega) ?_ ?_
  · intro hc7
    change x5 = (0 : Int) at hc7
    refine pw_ld E (pc' := 20) (st' := [pw_i 0, pw_i (pw_g h 125 7), .ref 141]) rfl (fun _ => rfl) ?_
    refine pw_add E (pc' := 21) rfl rfl ?_
    have hlt8 : (pw_g h 125 7) + 0 ≤ 1001 ∧ (pw_g h 125 7) + 0 ≤ n := by first | omega | (have := pw_A.lt A (by omega); omega) | (have := pw_A.lt A (by omega); omega)
    refine pw_putI I E (c := 125) (k := 7) (pc' := 24) rfl rfl rfl rfl (by omega) (by omega) (by omega) (by omega) rfl rfl ?_
    intro h9I h9E
    generalize h9w : pw_w h 125 7 (pw_i ((pw_g h 125 7) + 0)) = h9 at h9I h9E ⊢
    have h9F := E0.tr (h9E.wk (W' := [125]) (by first | rfl | simp))
    refine pw_ld E (pc' := 25) (st' := [pw_i x5]) rfl (fun _ => rfl) ?_
    refine pw_zret E rfl (by omega) ?_
    exact ⟨_, rfl, by omega, Or.inl ⟨by omega, by symm; rw [← h9w, show (pw_g h 125 7) + 0 = pw_g h 125 7 by omega]; exact pw_w_id (pw_atI I rfl rfl)⟩⟩
  · intro hc10
    change ¬ (x5 = (0 : Int)) at hc10
    refine pw_ld E (pc' := 16) (st' := [pw_i 1, pw_i (pw_g h 125 7), .ref 141]) rfl (fun _ => rfl) ?_
    refine pw_goto E (pc' := 20) rfl (by decide) ?_
    refine pw_add E (pc' := 21) rfl rfl ?_
    have hlt11 : (pw_g h 125 7) + 1 ≤ 1001 ∧ (pw_g h 125 7) + 1 ≤ n := by first | omega | (have := pw_A.lt A (by omega); omega) | (have := pw_A.lt A (by omega); omega)
    refine pw_putI I E (c := 125) (k := 7) (pc' := 24) rfl rfl rfl rfl (by omega) (by omega) (by omega) (by omega) rfl rfl ?_
    intro h12I h12E
    generalize h12w : pw_w h 125 7 (pw_i ((pw_g h 125 7) + 1)) = h12 at h12I h12E ⊢
    have h12F := E0.tr (h12E.wk (W' := [125]) (by first | rfl | simp))
    refine pw_ld E (pc' := 25) (st' := [pw_i x5]) rfl (fun _ => rfl) ?_
    refine pw_zret E rfl (by omega) ?_
    have e7 : pw_g h12 125 7 = pw_g h 125 7 + 1 := by rw [← h12w]; exact pw_g_eq (c := 125) (k := 7) I rfl rfl (by omega) (by omega)
    have e8 : pw_g h12 125 8 = pw_g h 125 8 := by rw [← h12w]; exact pw_g_ne (by omega)
    have e9 : pw_g h12 125 32 = pw_g h 125 32 := by rw [← h12w]; exact pw_g_ne (by omega)
    exact ⟨_, rfl, by omega, Or.inr ⟨by omega, h12I, h12F, ⟨hn1, by rw [← h12w, pw_g_ne (by omega)]; exact A.2.1, by omega, by omega, by omega, by omega⟩, pw_R.same (by decide) (by omega) (by omega) e7 e9 (fun j => by rw [← h12w]; exact pw_g_ne (by omega)) (fun j => by rw [← h12w]; exact pw_g_ne (by omega)), e7⟩⟩
set_option maxHeartbeats 4000000 in
theorem cm_256 {X : List (Nat × List Value)} {d : Nat} {h : pm_H} (hd : 2 ≤ d) (I : pw_I h) {n : Nat} (A : pw_A n h) (ch : Int) (hch1 : (-2147483648) ≤ ch) (hch2 : ch ≤ 2147483647) : pw X d h 256 0 [some (.ref 141), some (pw_i ch), none] [] (fun h' v => ∃ a : Int, v = .inl (some (pw_i a)) ∧ a = pw_sg h ch ∧ ((a = 0 ∧ h = h') ∨ (a = 1 ∧ pw_I h' ∧ pw_E [125] h h' ∧ pw_A n h' ∧ pw_R 1 0 0 h h' ∧ pw_g h' 125 7 = pw_g h 125 7 + 1))) := by
  have E : pm_ent 256 = some (2, 3, 12, 1, pmc_256) := rfl
  have E0 : pw_E [125] h h := pw_E.rf _ _
  have R0 : pw_R 0 0 0 h h := pw_R.rf A.2.2.2.2.2
  have hn1 : n ≤ 1000 := A.1
  have hA1 : pw_g h 125 7 ≤ n ∧ 0 ≤ pw_g h 125 8 ∧ 0 ≤ pw_g h 125 7 ∧ 0 ≤ pw_g h 125 32 := A.2.2
  refine pw_ld E (pc' := 1) (st' := [.ref 141]) rfl (fun _ => rfl) ?_
  refine pw_ld E (pc' := 2) (st' := [pw_i ch, .ref 141]) rfl (fun _ => rfl) ?_
  obtain ⟨f2l, f2h, -⟩ := pw_obj (c := 125) I rfl
  refine pw_call (m' := 254) (As := [.ref 141, pw_i ch]) (rest := []) (ls'' := [some (.ref 141), some (pw_i ch)]) (Nat.le_trans (by decide) hd) E rfl (fun _ => pw_iV rfl rfl rfl rfl (pw_cellI f2h rfl)) (rfl : pm_ent 254 = some (2, 2, 12, 1, pmc_254)) rfl rfl (cm_254 (pw_dp hd (by decide)) I (ch) (by omega) (by omega)) ?_
  rintro u4 v3 ⟨rfl, x5, rfl, hx5a, hx5b, hx5r⟩
  refine ⟨_, rfl, ?_⟩
  show pw X d h 256 5 [some (.ref 141), some (pw_i ch), none] [pw_i x5] _
  change x5 = pw_sg h ch ∧ (x5 = 1 → pw_g h 125 8 = 0 ∧ pw_g h 127 (pw_g h 125 7).toNat = 3) at hx5r
  refine pw_istn E (pc' := 6) (ls' := [some (.ref 141), some (pw_i ch), some (pw_i x5)]) rfl rfl rfl rfl ?_
  refine pw_ld E (pc' := 7) (st' := [.ref 141]) rfl (fun _ => rfl) ?_
  refine pw_ld E (pc' := 8) (st' := [.ref 141, .ref 141]) rfl (fun _ => rfl) ?_
  refine pw_getI2 I E (c := 125) (k := 7) (pc' := 11) rfl rfl rfl rfl rfl rfl (fun hf6a hf6b => ?_)
  refine pw_ld E (pc' := 12) (st' := [pw_i x5, pw_i (pw_g h 125 7), .ref 141]) rfl (fun _ => rfl) ?_
  refine pw_if E (pc' := 19) rfl (by decide) (by omega) (by omega) ?_ ?_
  · intro hc7
    change x5 = (0 : Int) at hc7
    refine pw_ld E (pc' := 20) (st' := [pw_i 0, pw_i (pw_g h 125 7), .ref 141]) rfl (fun _ => rfl) ?_
    refine pw_add E (pc' := 21) rfl rfl ?_
    have hlt8 : (pw_g h 125 7) + 0 ≤ 1001 ∧ (pw_g h 125 7) + 0 ≤ n := by first | omega | (have := pw_A.lt A (by omega); omega) | (have := pw_A.lt A (by omega); omega)
    refine pw_putI I E (c := 125) (k := 7) (pc' := 24) rfl rfl rfl rfl (by omega) (by omega) (by omega) (by omega) rfl rfl ?_
    intro h9I h9E
    generalize h9w : pw_w h 125 7 (pw_i ((pw_g h 125 7) + 0)) = h9 at h9I h9E ⊢
    have h9F := E0.tr (h9E.wk (W' := [125]) (by first | rfl | simp))
    refine pw_ld E (pc' := 25) (st' := [pw_i x5]) rfl (fun _ => rfl) ?_
    refine pw_zret E rfl (by omega) ?_
    exact ⟨_, rfl, by omega, Or.inl ⟨by omega, by symm; rw [← h9w, show (pw_g h 125 7) + 0 = pw_g h 125 7 by omega]; exact pw_w_id (pw_atI I rfl rfl)⟩⟩
  · intro hc10
    change ¬ (x5 = (0 : Int)) at hc10
    refine pw_ld E (pc' := 16) (st' := [pw_i 1, pw_i (pw_g h 125 7), .ref 141]) rfl (fun _ => rfl) ?_
    refine pw_goto E (pc' := 20) rfl (by decide) ?_
    refine pw_add E (pc' := 21) rfl rfl ?_
    have hlt11 : (pw_g h 125 7) + 1 ≤ 1001 ∧ (pw_g h 125 7) + 1 ≤ n := by first | omega | (have := pw_A.lt A (by omega); omega) | (have := pw_A.lt A (by omega); omega)
    refine pw_putI I E (c := 125) (k := 7) (pc' := 24) rfl rfl rfl rfl (by omega) (by omega) (by omega) (by omega) rfl rfl ?_
    intro h12I h12E
    generalize h12w : pw_w h 125 7 (pw_i ((pw_g h 125 7) + 1)) = h12 at h12I h12E ⊢
    have h12F := E0.tr (h12E.wk (W' := [125]) (by first | rfl | simp))
    refine pw_ld E (pc' := 25) (st' := [pw_i x5]) rfl (fun _ => rfl) ?_
    refine pw_zret E rfl (by omega) ?_
    have e7 : pw_g h12 125 7 = pw_g h 125 7 + 1 := by rw [← h12w]; exact pw_g_eq (c := 125) (k := 7) I rfl rfl (by omega) (by omega)
    have e8 : pw_g h12 125 8 = pw_g h 125 8 := by rw [← h12w]; exact pw_g_ne (by omega)
    have e9 : pw_g h12 125 32 = pw_g h 125 32 := by rw [← h12w]; exact pw_g_ne (by omega)
    exact ⟨_, rfl, by omega, Or.inr ⟨by omega, h12I, h12F, ⟨hn1, by rw [← h12w, pw_g_ne (by omega)]; exact A.2.1, by omega, by omega, by omega, by omega⟩, pw_R.same (by decide) (by omega) (by omega) e7 e9 (fun j => by rw [← h12w]; exact pw_g_ne (by omega)) (fun j => by rw [← h12w]; exact pw_g_ne (by omega)), e7⟩⟩
set_option maxHeartbeats 4000000 in
theorem cm_257 {X : List (Nat × List Value)} {d : Nat} {h : pm_H} (hd : 2 ≤ d) (I : pw_I h) {n : Nat} (A : pw_A n h) (ch : Int) (hch1 : (-2147483648) ≤ ch) (hch2 : ch ≤ 2147483647) : pw X d h 257 0 [some (.ref 141), some (pw_i ch)] [] (fun h' v => pw_I h' ∧ pw_E [125] h h' ∧ (pw_A n h' ∧ pw_R 0 0 0 h h') ∧ (v = .inl none)) := by
  have E : pm_ent 257 = some (2, 2, 12, 4, pmc_257) := rfl
  have E0 : pw_E [125] h h := pw_E.rf _ _
  have R0 : pw_R 0 0 0 h h := pw_R.rf A.2.2.2.2.2
  have hn1 : n ≤ 1000 := A.1
  have hA1 : pw_g h 125 7 ≤ n ∧ 0 ≤ pw_g h 125 8 ∧ 0 ≤ pw_g h 125 7 ∧ 0 ≤ pw_g h 125 32 := A.2.2
  refine pw_ld E (pc' := 1) (st' := [.ref 141]) rfl (fun _ => rfl) ?_
  refine pw_ld E (pc' := 2) (st' := [pw_i ch, .ref 141]) rfl (fun _ => rfl) ?_
  obtain ⟨f2l, f2h, -⟩ := pw_obj (c := 125) I rfl
  refine pw_call (m' := 254) (As := [.ref 141, pw_i ch]) (rest := []) (ls'' := [some (.ref 141), some (pw_i ch)]) (Nat.le_trans (by decide) hd) E rfl (fun _ => pw_iV rfl rfl rfl rfl (pw_cellI f2h rfl)) (rfl : pm_ent 254 = some (2, 2, 12, 1, pmc_254)) rfl rfl (cm_254 (pw_dp hd (by decide)) I (ch) (by omega) (by omega)) ?_
  rintro u4 v3 ⟨rfl, x5, rfl, hx5a, hx5b, hx5r⟩
  refine ⟨_, rfl, ?_⟩
  show pw X d h 257 5 [some (.ref 141), some (pw_i ch)] [pw_i x5] _
  change x5 = pw_sg h ch ∧ (x5 = 1 → pw_g h 125 8 = 0 ∧ pw_g h 127 (pw_g h 125 7).toNat = 3) at hx5r
  rcases (by omega : x5 = 1 ∨ x5 = 0) with hb6 | hb6
  · skip
    refine pw_if E (pc' := 21) rfl (by decide) (by omega) (by omega) ?_ ?_
    · intro hc7
      change x5 = (0 : Int) at hc7
      exfalso; omega
    · intro hc8
      change ¬ (x5 = (0 : Int)) at hc8
      refine pw_ld E (pc' := 9) (st' := [.ref 141]) rfl (fun _ => rfl) ?_
      refine pw_ld E (pc' := 10) (st' := [.ref 141, .ref 141]) rfl (fun _ => rfl) ?_
      refine pw_getI2 I E (c := 125) (k := 7) (pc' := 13) rfl rfl rfl rfl rfl rfl (fun hf9a hf9b => ?_)
      refine pw_ld E (pc' := 14) (st' := [pw_i 1, pw_i (pw_g h 125 7), .ref 141]) rfl (fun _ => rfl) ?_
      refine pw_add E (pc' := 15) rfl rfl ?_
      have hlt10 : (pw_g h 125 7) + 1 ≤ 1001 ∧ (pw_g h 125 7) + 1 ≤ n := by first | omega | (have := pw_A.lt A (by omega); omega) | (have := pw_A.lt A (by omega); omega)
      refine pw_putI I E (c := 125) (k := 7) (pc' := 18) rfl rfl rfl rfl (by omega) (by omega) (by omega) (by omega) rfl rfl ?_
      intro h11I h11E
      generalize h11w : pw_w h 125 7 (pw_i ((pw_g h 125 7) + 1)) = h11 at h11I h11E ⊢
      have h11F := E0.tr (h11E.wk (W' := [125]) (by first | rfl | simp))
      have h117 : pw_g h11 125 7 = pw_g h 125 7 + 1 := by rw [← h11w]; exact pw_g_eq (c := 125) (k := 7) I rfl rfl (by omega) (by omega)
      have h118 : pw_g h11 125 8 = pw_g h 125 8 := by rw [← h11w]; exact pw_g_ne (by omega)
      have h119 : pw_g h11 125 32 = pw_g h 125 32 := by rw [← h11w]; exact pw_g_ne (by omega)
      have h11A : pw_A n h11 := ⟨hn1, by rw [← h11w, pw_g_ne (by omega)]; exact A.2.1, by omega, by omega, by omega, by omega⟩
      have h11R : pw_R 1 0 0 h h11 := pw_R.same (by decide) (by omega) (by omega) h117 h119 (fun j => by rw [← h11w]; exact pw_g_ne (by omega)) (fun j => by rw [← h11w]; exact pw_g_ne (by omega))
      have R12 : pw_R 1 0 0 h h11 := R0.tr (h11R : pw_R 1 0 0 h h11) (by decide) (by decide) (by decide)
      have hA13 : pw_g h11 125 7 ≤ n ∧ 0 ≤ pw_g h11 125 8 ∧ 0 ≤ pw_g h11 125 7 ∧ 0 ≤ pw_g h11 125 32 := h11A.2.2
      have hA14 : pw_g h 125 7 - pw_g h 125 32 + 1 ≤ pw_g h11 125 7 - pw_g h11 125 32 := R12.1.2.2.2.1
      have hA15 : pw_g h 125 7 ≤ pw_g h11 125 7 := h11R.1.2.1
      have hA15z : pw_g h11 125 8 = 0 → pw_g h 125 8 = 0 := h11R.1.1
      refine pw_goto E (pc' := 26) rfl (by decide) ?_
      refine pw_vret E rfl ?_
      exact ⟨h11I, h11F, ⟨h11A, R12.wk (by decide)⟩, rfl⟩
  · skip
    refine pw_if E (pc' := 21) rfl (by decide) (by omega) (by omega) ?_ ?_
    · intro hc17
      change x5 = (0 : Int) at hc17
      refine pw_ld E (pc' := 22) (st' := [.ref 141]) rfl (fun _ => rfl) ?_
      refine pw_ld E (pc' := 23) (st' := [pw_i 1, .ref 141]) rfl (fun _ => rfl) ?_
      obtain ⟨f18l, f18h, -⟩ := pw_obj (c := 125) I rfl
      refine pw_call (m' := 245) (As := [.ref 141, pw_i 1]) (rest := []) (ls'' := [some (.ref 141), some (pw_i 1)]) (Nat.le_trans (by decide) hd) E rfl (fun _ => pw_iV rfl rfl rfl rfl (pw_cellI f18h rfl)) (rfl : pm_ent 245 = some (2, 2, 12, 4, pmc_245)) rfl rfl (cm_245 (pw_dp hd (by decide)) I A (1) (by omega) (by omega)) ?_
      rintro h19 v20 ⟨h19I, h19E, ⟨h19A, h19R, h19z⟩, rfl⟩
      refine ⟨_, rfl, ?_⟩
      have h19F := E0.tr (h19E.wk (W' := [125]) (by first | rfl | simp))
      show pw X d h19 257 26 [some (.ref 141), some (pw_i ch)] [] _
      change 1 ≤ pw_g h19 125 8 at h19z
      have R21 : pw_R 0 0 0 h h19 := R0.tr (h19R : pw_R 0 0 0 h h19) (by decide) (by decide) (by decide)
      have hA22 : pw_g h19 125 7 ≤ n ∧ 0 ≤ pw_g h19 125 8 ∧ 0 ≤ pw_g h19 125 7 ∧ 0 ≤ pw_g h19 125 32 := h19A.2.2
      have hA23 : pw_g h 125 7 - pw_g h 125 32 + 0 ≤ pw_g h19 125 7 - pw_g h19 125 32 := R21.1.2.2.2.1
      have hA24 : pw_g h 125 7 ≤ pw_g h19 125 7 := h19R.1.2.1
      have hA24z : pw_g h19 125 8 = 0 → pw_g h 125 8 = 0 := h19R.1.1
      refine pw_vret E rfl ?_
      exact ⟨h19I, h19F, ⟨h19A, R21.wk (by decide)⟩, rfl⟩
    · intro hc25
      change ¬ (x5 = (0 : Int)) at hc25
      exfalso; omega
set_option maxHeartbeats 4000000 in
theorem cm_246 {X : List (Nat × List Value)} {d : Nat} {h : pm_H} (hd : 3 ≤ d) (I : pw_I h) {n : Nat} (A : pw_A n h) (wd : Int) (hwd1 : 0 ≤ wd) (hwd2 : wd ≤ 27) : pw X d h 246 0 [some (.ref 141), some (pw_i wd)] [] (fun h' v => pw_I h' ∧ pw_E [125] h h' ∧ (pw_A n h' ∧ pw_R 0 0 0 h h') ∧ (v = .inl none)) := by
  have E : pm_ent 246 = some (2, 2, 12, 4, pmc_246) := rfl
  have E0 : pw_E [125] h h := pw_E.rf _ _
  have R0 : pw_R 0 0 0 h h := pw_R.rf A.2.2.2.2.2
  have hn1 : n ≤ 1000 := A.1
  have hA1 : pw_g h 125 7 ≤ n ∧ 0 ≤ pw_g h 125 8 ∧ 0 ≤ pw_g h 125 7 ∧ 0 ≤ pw_g h 125 32 := A.2.2
  refine pw_ld E (pc' := 1) (st' := [.ref 141]) rfl (fun _ => rfl) ?_
  refine pw_ld E (pc' := 2) (st' := [pw_i wd, .ref 141]) rfl (fun _ => rfl) ?_
  obtain ⟨f2l, f2h, -⟩ := pw_obj (c := 125) I rfl
  refine pw_call (m' := 247) (As := [.ref 141, pw_i wd]) (rest := []) (ls'' := [some (.ref 141), some (pw_i wd), none]) (Nat.le_trans (by decide) hd) E rfl (fun _ => pw_iV rfl rfl rfl rfl (pw_cellI f2h rfl)) (rfl : pm_ent 247 = some (2, 3, 12, 1, pmc_247)) rfl rfl (cm_247 (pw_dp hd (by decide)) I A (wd) (by omega) (by omega)) ?_
  rintro h3 v4 ⟨x5, rfl, x5a, ⟨x5b, h3c⟩ | ⟨x5b, h3I, h3E, h3A, h3R, h37⟩⟩
  · refine ⟨_, rfl, ?_⟩
    subst h3c
    change x5 = pw_wd h wd at x5a
    change x5 = 0 at x5b
    show pw X d h 246 5 [some (.ref 141), some (pw_i wd)] [pw_i x5] _
    refine pw_if E (pc' := 13) rfl (by decide) (by omega) (by omega) ?_ ?_
    · intro hc6
      change x5 ≠ (0 : Int) at hc6
      exfalso; omega
    · intro hc7
      change ¬ (x5 ≠ (0 : Int)) at hc7
      refine pw_ld E (pc' := 9) (st' := [.ref 141]) rfl (fun _ => rfl) ?_
      refine pw_ld E (pc' := 10) (st' := [pw_i 1, .ref 141]) rfl (fun _ => rfl) ?_
      obtain ⟨f8l, f8h, -⟩ := pw_obj (c := 125) I rfl
      refine pw_call (m' := 245) (As := [.ref 141, pw_i 1]) (rest := []) (ls'' := [some (.ref 141), some (pw_i 1)]) (Nat.le_trans (by decide) hd) E rfl (fun _ => pw_iV rfl rfl rfl rfl (pw_cellI f8h rfl)) (rfl : pm_ent 245 = some (2, 2, 12, 4, pmc_245)) rfl rfl (cm_245 (pw_dp hd (by decide)) I A (1) (by omega) (by omega)) ?_
      rintro h9 v10 ⟨h9I, h9E, ⟨h9A, h9R, h9z⟩, rfl⟩
      refine ⟨_, rfl, ?_⟩
      have h9F := E0.tr (h9E.wk (W' := [125]) (by first | rfl | simp))
      show pw X d h9 246 13 [some (.ref 141), some (pw_i wd)] [] _
      change 1 ≤ pw_g h9 125 8 at h9z
      have R11 : pw_R 0 0 0 h h9 := R0.tr (h9R : pw_R 0 0 0 h h9) (by decide) (by decide) (by decide)
      have hA12 : pw_g h9 125 7 ≤ n ∧ 0 ≤ pw_g h9 125 8 ∧ 0 ≤ pw_g h9 125 7 ∧ 0 ≤ pw_g h9 125 32 := h9A.2.2
      have hA13 : pw_g h 125 7 - pw_g h 125 32 + 0 ≤ pw_g h9 125 7 - pw_g h9 125 32 := R11.1.2.2.2.1
      have hA14 : pw_g h 125 7 ≤ pw_g h9 125 7 := h9R.1.2.1
      have hA14z : pw_g h9 125 8 = 0 → pw_g h 125 8 = 0 := h9R.1.1
      refine pw_vret E rfl ?_
      exact ⟨h9I, h9F, ⟨h9A, R11.wk (by decide)⟩, rfl⟩
  · refine ⟨_, rfl, ?_⟩
    have h3F := E0.tr (h3E.wk (W' := [125]) (by first | rfl | simp))
    change x5 = 1 at x5b
    have R15 : pw_R 1 0 0 h h3 := R0.tr (h3R : pw_R 1 0 0 h h3) (by decide) (by decide) (by decide)
    have hA16 : pw_g h3 125 7 ≤ n ∧ 0 ≤ pw_g h3 125 8 ∧ 0 ≤ pw_g h3 125 7 ∧ 0 ≤ pw_g h3 125 32 := h3A.2.2
    have hA17 : pw_g h 125 7 - pw_g h 125 32 + 1 ≤ pw_g h3 125 7 - pw_g h3 125 32 := R15.1.2.2.2.1
    have hA18 : pw_g h 125 7 ≤ pw_g h3 125 7 := h3R.1.2.1
    have hA18z : pw_g h3 125 8 = 0 → pw_g h 125 8 = 0 := h3R.1.1
    show pw X d h3 246 5 [some (.ref 141), some (pw_i wd)] [pw_i x5] _
    refine pw_if E (pc' := 13) rfl (by decide) (by omega) (by omega) ?_ ?_
    · intro hc19
      change x5 ≠ (0 : Int) at hc19
      refine pw_vret E rfl ?_
      exact ⟨h3I, h3F, ⟨h3A, R15.wk (by decide)⟩, rfl⟩
    · intro hc20
      change ¬ (x5 ≠ (0 : Int)) at hc20
      exfalso; omega
set_option maxHeartbeats 4000000 in
theorem cm_255 {X : List (Nat × List Value)} {d : Nat} {h : pm_H} (hd : 1 ≤ d) (I : pw_I h) {n : Nat} (A : pw_A n h) (hc : pw_g h 125 32 ≤ 1000) (c : Int) (hc1 : 0 ≤ c) (hc2 : c ≤ 10) (a : Int) (ha1 : (-2147483648) ≤ a) (ha2 : a ≤ 2147483647) : pw X d h 255 0 [some (.ref 141), some (pw_i c), some (pw_i a)] [] (fun h' v => pw_I h' ∧ pw_E [125, 146, 147] h h' ∧ (pw_g h' 125 8 = pw_g h 125 8 ∧ pw_g h' 125 7 = pw_g h 125 7 ∧ pw_g h' 125 32 = pw_g h 125 32 + 1 ∧ pw_g h' 146 (4400 + pw_g h 125 32).toNat = c ∧ pw_g h' 147 (4400 + pw_g h 125 32).toNat = a ∧ ∀ j : Nat, j ≠ (4400 + pw_g h 125 32).toNat → pw_g h' 146 j = pw_g h 146 j ∧ pw_g h' 147 j = pw_g h 147 j) ∧ (v = .inl none)) := by
  have E : pm_ent 255 = some (3, 3, 12, 4, pmc_255) := rfl
  have E0 : pw_E [125, 146, 147] h h := pw_E.rf _ _
  have R0 : pw_R 0 0 0 h h := pw_R.rf A.2.2.2.2.2
  have hn1 : n ≤ 1000 := A.1
  have hA1 : pw_g h 125 7 ≤ n ∧ 0 ≤ pw_g h 125 8 ∧ 0 ≤ pw_g h 125 7 ∧ 0 ≤ pw_g h 125 32 := A.2.2
  refine pw_ld E (pc' := 1) (st' := [.ref 141]) rfl (fun _ => rfl) ?_
  refine pw_getR (b := 162) I E (c := 125) (k := 33) (pc' := 4) rfl rfl rfl rfl rfl rfl rfl ?_
  refine pw_sip E (pc' := 7) rfl rfl (by decide) ?_
  refine pw_ld E (pc' := 8) (st' := [.ref 141, pw_i 4400, .ref 162]) rfl (fun _ => rfl) ?_
  refine pw_getI2 I E (c := 125) (k := 32) (pc' := 11) rfl rfl rfl rfl rfl rfl (fun hf2a hf2b => ?_)
  refine pw_add E (pc' := 12) rfl rfl ?_
  refine pw_ld E (pc' := 13) (st' := [pw_i c, pw_i (4400 + (pw_g h 125 32)), .ref 162]) rfl (fun _ => rfl) ?_
  refine pw_ast0 I E (c := 146) (pc' := 14) rfl rfl rfl (by decide) rfl (by decide) (by omega) (by omega) rfl (by omega) (by omega) (by omega) (by omega) rfl ?_
  intro h3I h3E
  generalize h3w : pw_w h 146 ((4400 + (pw_g h 125 32)).toNat) (pw_i c) = h3 at h3I h3E ⊢
  have h3F := E0.tr (h3E.wk (W' := [125, 146, 147]) (by first | rfl | simp))
  refine pw_ld E (pc' := 15) (st' := [.ref 141]) rfl (fun _ => rfl) ?_
  refine pw_getR (b := 163) h3I E (c := 125) (k := 34) (pc' := 18) rfl rfl rfl rfl rfl rfl rfl ?_
  refine pw_sip E (pc' := 21) rfl rfl (by decide) ?_
  refine pw_ld E (pc' := 22) (st' := [.ref 141, pw_i 4400, .ref 163]) rfl (fun _ => rfl) ?_
  have he5 : pw_g h3 125 32 = pw_g h 125 32 := by rw [← h3w]; exact pw_g_ne (by omega)
  refine pw_getI2 h3I E (c := 125) (k := 32) (pc' := 25) rfl rfl rfl rfl rfl rfl (fun hf4a hf4b => ?_)
  refine pw_add E (pc' := 26) rfl rfl ?_
  refine pw_ld E (pc' := 27) (st' := [pw_i a, pw_i (4400 + (pw_g h3 125 32)), .ref 163]) rfl (fun _ => rfl) ?_
  refine pw_ast0 h3I E (c := 147) (pc' := 28) rfl rfl rfl (by decide) rfl (by decide) (by omega) (by omega) rfl (by omega) (by omega) (by omega) (by omega) rfl ?_
  intro h6I h6E
  generalize h6w : pw_w h3 147 ((4400 + (pw_g h3 125 32)).toNat) (pw_i a) = h6 at h6I h6E ⊢
  have h6F := h3F.tr (h6E.wk (W' := [125, 146, 147]) (by first | rfl | simp))
  refine pw_ld E (pc' := 29) (st' := [.ref 141]) rfl (fun _ => rfl) ?_
  refine pw_ld E (pc' := 30) (st' := [.ref 141, .ref 141]) rfl (fun _ => rfl) ?_
  have he8 : pw_g h6 125 32 = pw_g h3 125 32 := by rw [← h6w]; exact pw_g_ne (by omega)
  refine pw_getI2 h6I E (c := 125) (k := 32) (pc' := 33) rfl rfl rfl rfl rfl rfl (fun hf7a hf7b => ?_)
  refine pw_ld E (pc' := 34) (st' := [pw_i 1, pw_i (pw_g h6 125 32), .ref 141]) rfl (fun _ => rfl) ?_
  refine pw_add E (pc' := 35) rfl rfl ?_
  refine pw_putI h6I E (c := 125) (k := 32) (pc' := 38) rfl rfl rfl rfl (by omega) (by omega) (by omega) (by omega) rfl rfl ?_
  intro h9I h9E
  generalize h9w : pw_w h6 125 32 (pw_i ((pw_g h6 125 32) + 1)) = h9 at h9I h9E ⊢
  have h9F := h6F.tr (h9E.wk (W' := [125, 146, 147]) (by first | rfl | simp))
  refine pw_vret E rfl ?_
  have q1 : pw_g h3 125 32 = pw_g h 125 32 := by rw [← h3w]; exact pw_g_ne (by omega)
  have q2 : pw_g h6 125 32 = pw_g h3 125 32 := by rw [← h6w]; exact pw_g_ne (by omega)
  have q3 : pw_g h9 125 32 = pw_g h6 125 32 + 1 := by rw [← h9w]; exact pw_g_eq (c := 125) (k := 32) h6I rfl rfl (by omega) (by omega)
  have q4 : pw_g h3 146 (4400 + pw_g h 125 32).toNat = c := by rw [← h3w]; exact pw_g_eqA I rfl (by omega) (by omega) (by omega)
  have q5 : pw_g h6 147 (4400 + pw_g h3 125 32).toNat = a := by rw [← h6w]; exact pw_g_eqA h3I rfl (by omega) (by omega) (by omega)
  rw [q1] at q5
  exact ⟨h9I, h9F, ⟨by rw [← h9w, pw_g_ne (by omega), ← h6w, pw_g_ne (by omega), ← h3w, pw_g_ne (by omega)], by rw [← h9w, pw_g_ne (by omega), ← h6w, pw_g_ne (by omega), ← h3w, pw_g_ne (by omega)], by omega, by rw [← h9w, pw_g_ne (by omega), ← h6w, pw_g_ne (by omega)]; exact q4, by rw [← h9w, pw_g_ne (by omega)]; exact q5, fun j hj => ⟨by rw [← h9w, pw_g_ne (by omega), ← h6w, pw_g_ne (by omega), ← h3w]; exact pw_g_ne (fun q => hj q.2.symm), by rw [← h9w, pw_g_ne (by omega), ← h6w, pw_g_ne (fun q => hj (by rw [← q1]; exact q.2.symm)), ← h3w]; exact pw_g_ne (by omega)⟩⟩, rfl⟩
end
